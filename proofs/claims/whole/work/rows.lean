section
-- ===== PART A: goes FIRST, ahead of the names: the tables' words, and 'selects' of the private methods out of them =====
/-- a private method of a class that the tables say can be made, by its rows of tables_1 -/
def lw_okq (q : MethodName × Nat) : Prop := (q.1.cls ≠ "java/lang/invoke/MethodHandle" ∧ q.1.cls ≠ "java/lang/invoke/VarHandle") ∧ Cond.instantiable q.1.cls q.2 ∈ tables_1 ∧ Cond.privateMethod q.1 ∈ tables_1 ∧ Cond.instanceMethod q.1 ∈ tables_1
theorem lw_p0 : lw_okq (⟨"CellPacks$Pack", "reset", "()V"⟩, 9) := ⟨⟨by decide +kernel, by decide +kernel⟩, List.mem_of_getElem? (i := 44) (by decide +kernel), List.mem_of_getElem? (i := 50) (by decide +kernel), List.mem_of_getElem? (i := 51) (by decide +kernel)⟩
theorem lw_p1 : lw_okq (⟨"CellPacks$TextReader", "readAll", "()V"⟩, 9) := ⟨⟨by decide +kernel, by decide +kernel⟩, List.mem_of_getElem? (i := 106) (by decide +kernel), List.mem_of_getElem? (i := 288) (by decide +kernel), List.mem_of_getElem? (i := 289) (by decide +kernel)⟩
theorem lw_p2 : lw_okq (⟨"CellPacks$TextReader", "readLine", "()Z"⟩, 9) := ⟨⟨by decide +kernel, by decide +kernel⟩, List.mem_of_getElem? (i := 106) (by decide +kernel), List.mem_of_getElem? (i := 293) (by decide +kernel), List.mem_of_getElem? (i := 294) (by decide +kernel)⟩
theorem lw_p3 : lw_okq (⟨"CellPacks$TextReader", "nextToken", "()Z"⟩, 9) := ⟨⟨by decide +kernel, by decide +kernel⟩, List.mem_of_getElem? (i := 106) (by decide +kernel), List.mem_of_getElem? (i := 297) (by decide +kernel), List.mem_of_getElem? (i := 298) (by decide +kernel)⟩
theorem lw_p4 : lw_okq (⟨"CellPacks$Tape", "byteAt", "(I)I"⟩, 2) := ⟨⟨by decide +kernel, by decide +kernel⟩, List.mem_of_getElem? (i := 27) (by decide +kernel), List.mem_of_getElem? (i := 301) (by decide +kernel), List.mem_of_getElem? (i := 302) (by decide +kernel)⟩
theorem lw_p5 : lw_okq (⟨"CellPacks$TextReader", "passRun", "(II)V"⟩, 9) := ⟨⟨by decide +kernel, by decide +kernel⟩, List.mem_of_getElem? (i := 106) (by decide +kernel), List.mem_of_getElem? (i := 306) (by decide +kernel), List.mem_of_getElem? (i := 307) (by decide +kernel)⟩
theorem lw_p6 : lw_okq (⟨"CellPacks$TextReader", "takeValue", "()Z"⟩, 9) := ⟨⟨by decide +kernel, by decide +kernel⟩, List.mem_of_getElem? (i := 106) (by decide +kernel), List.mem_of_getElem? (i := 310) (by decide +kernel), List.mem_of_getElem? (i := 311) (by decide +kernel)⟩
theorem lw_p7 : lw_okq (⟨"CellPacks$TextReader", "fail", "(I)Z"⟩, 9) := ⟨⟨by decide +kernel, by decide +kernel⟩, List.mem_of_getElem? (i := 106) (by decide +kernel), List.mem_of_getElem? (i := 314) (by decide +kernel), List.mem_of_getElem? (i := 315) (by decide +kernel)⟩
theorem lw_p8 : lw_okq (⟨"CellPacks$TextReader", "lineNamed", "()I"⟩, 9) := ⟨⟨by decide +kernel, by decide +kernel⟩, List.mem_of_getElem? (i := 106) (by decide +kernel), List.mem_of_getElem? (i := 318) (by decide +kernel), List.mem_of_getElem? (i := 319) (by decide +kernel)⟩
theorem lw_p9 : lw_okq (⟨"CellPacks$Tape", "spells", "(Ljava/lang/String;II)Z"⟩, 2) := ⟨⟨by decide +kernel, by decide +kernel⟩, List.mem_of_getElem? (i := 27) (by decide +kernel), List.mem_of_getElem? (i := 330) (by decide +kernel), List.mem_of_getElem? (i := 331) (by decide +kernel)⟩
theorem lw_p10 : lw_okq (⟨"CellPacks$TextReader", "readCells", "()Z"⟩, 9) := ⟨⟨by decide +kernel, by decide +kernel⟩, List.mem_of_getElem? (i := 106) (by decide +kernel), List.mem_of_getElem? (i := 383) (by decide +kernel), List.mem_of_getElem? (i := 384) (by decide +kernel)⟩
theorem lw_p11 : lw_okq (⟨"CellPacks$Pack", "append", "(II)V"⟩, 9) := ⟨⟨by decide +kernel, by decide +kernel⟩, List.mem_of_getElem? (i := 44) (by decide +kernel), List.mem_of_getElem? (i := 387) (by decide +kernel), List.mem_of_getElem? (i := 388) (by decide +kernel)⟩
theorem lw_p12 : lw_okq (⟨"CellPacks$TextReader", "readSetting", "(I)Z"⟩, 9) := ⟨⟨by decide +kernel, by decide +kernel⟩, List.mem_of_getElem? (i := 106) (by decide +kernel), List.mem_of_getElem? (i := 391) (by decide +kernel), List.mem_of_getElem? (i := 392) (by decide +kernel)⟩
theorem lw_p13 : lw_okq (⟨"CellPacks$TextReader", "putSetting", "(I)V"⟩, 9) := ⟨⟨by decide +kernel, by decide +kernel⟩, List.mem_of_getElem? (i := 106) (by decide +kernel), List.mem_of_getElem? (i := 401) (by decide +kernel), List.mem_of_getElem? (i := 402) (by decide +kernel)⟩
theorem lw_p14 : lw_okq (⟨"CellPacks$Pack", "copyFrom", "(LCellPacks$Pack;)V"⟩, 9) := ⟨⟨by decide +kernel, by decide +kernel⟩, List.mem_of_getElem? (i := 44) (by decide +kernel), List.mem_of_getElem? (i := 405) (by decide +kernel), List.mem_of_getElem? (i := 406) (by decide +kernel)⟩
theorem lw_p15 : lw_okq (⟨"CellPacks", "regroup", "(I)V"⟩, 10) := ⟨⟨by decide +kernel, by decide +kernel⟩, List.mem_of_getElem? (i := 19) (by decide +kernel), List.mem_of_getElem? (i := 412) (by decide +kernel), List.mem_of_getElem? (i := 413) (by decide +kernel)⟩
def lw_privs_1 : List (MethodName × Nat) := [(⟨"CellPacks$Pack", "reset", "()V"⟩, 9), (⟨"CellPacks$TextReader", "readAll", "()V"⟩, 9), (⟨"CellPacks$TextReader", "readLine", "()Z"⟩, 9), (⟨"CellPacks$TextReader", "nextToken", "()Z"⟩, 9), (⟨"CellPacks$Tape", "byteAt", "(I)I"⟩, 2), (⟨"CellPacks$TextReader", "passRun", "(II)V"⟩, 9), (⟨"CellPacks$TextReader", "takeValue", "()Z"⟩, 9), (⟨"CellPacks$TextReader", "fail", "(I)Z"⟩, 9), (⟨"CellPacks$TextReader", "lineNamed", "()I"⟩, 9), (⟨"CellPacks$Tape", "spells", "(Ljava/lang/String;II)Z"⟩, 2), (⟨"CellPacks$TextReader", "readCells", "()Z"⟩, 9), (⟨"CellPacks$Pack", "append", "(II)V"⟩, 9), (⟨"CellPacks$TextReader", "readSetting", "(I)Z"⟩, 9), (⟨"CellPacks$TextReader", "putSetting", "(I)V"⟩, 9), (⟨"CellPacks$Pack", "copyFrom", "(LCellPacks$Pack;)V"⟩, 9), (⟨"CellPacks", "regroup", "(I)V"⟩, 10)]
theorem lw_r1 : ∀ q ∈ lw_privs_1, lw_okq q := List.forall_mem_cons.mpr ⟨lw_p0, List.forall_mem_cons.mpr ⟨lw_p1, List.forall_mem_cons.mpr ⟨lw_p2, List.forall_mem_cons.mpr ⟨lw_p3, List.forall_mem_cons.mpr ⟨lw_p4, List.forall_mem_cons.mpr ⟨lw_p5, List.forall_mem_cons.mpr ⟨lw_p6, List.forall_mem_cons.mpr ⟨lw_p7, List.forall_mem_cons.mpr ⟨lw_p8, List.forall_mem_cons.mpr ⟨lw_p9, List.forall_mem_cons.mpr ⟨lw_p10, List.forall_mem_cons.mpr ⟨lw_p11, List.forall_mem_cons.mpr ⟨lw_p12, List.forall_mem_cons.mpr ⟨lw_p13, List.forall_mem_cons.mpr ⟨lw_p14, List.forall_mem_cons.mpr ⟨lw_p15, fun _ h => absurd h List.not_mem_nil⟩⟩⟩⟩⟩⟩⟩⟩⟩⟩⟩⟩⟩⟩⟩⟩
theorem lw_p16 : lw_okq (⟨"CellPacks$Ways", "choose", "(LCellPacks$Pack;I)V"⟩, 5) := ⟨⟨by decide +kernel, by decide +kernel⟩, List.mem_of_getElem? (i := 143) (by decide +kernel), List.mem_of_getElem? (i := 416) (by decide +kernel), List.mem_of_getElem? (i := 417) (by decide +kernel)⟩
theorem lw_p17 : lw_okq (⟨"CellPacks$Ways", "byWeakest", "(LCellPacks$Pack;)V"⟩, 5) := ⟨⟨by decide +kernel, by decide +kernel⟩, List.mem_of_getElem? (i := 143) (by decide +kernel), List.mem_of_getElem? (i := 420) (by decide +kernel), List.mem_of_getElem? (i := 421) (by decide +kernel)⟩
theorem lw_p18 : lw_okq (⟨"CellPacks$Pack", "rankByCharge", "(I)I"⟩, 9) := ⟨⟨by decide +kernel, by decide +kernel⟩, List.mem_of_getElem? (i := 44) (by decide +kernel), List.mem_of_getElem? (i := 424) (by decide +kernel), List.mem_of_getElem? (i := 425) (by decide +kernel)⟩
theorem lw_p19 : lw_okq (⟨"CellPacks$Differences", "chooseHomes", "(LCellPacks$Pack;[I)V"⟩, 7) := ⟨⟨by decide +kernel, by decide +kernel⟩, List.mem_of_getElem? (i := 149) (by decide +kernel), List.mem_of_getElem? (i := 434) (by decide +kernel), List.mem_of_getElem? (i := 435) (by decide +kernel)⟩
theorem lw_p20 : lw_okq (⟨"CellPacks$Differences", "begin", "(LCellPacks$Pack;)V"⟩, 7) := ⟨⟨by decide +kernel, by decide +kernel⟩, List.mem_of_getElem? (i := 149) (by decide +kernel), List.mem_of_getElem? (i := 438) (by decide +kernel), List.mem_of_getElem? (i := 439) (by decide +kernel)⟩
theorem lw_p21 : lw_okq (⟨"CellPacks$Differences", "joinTwo", "()V"⟩, 7) := ⟨⟨by decide +kernel, by decide +kernel⟩, List.mem_of_getElem? (i := 149) (by decide +kernel), List.mem_of_getElem? (i := 443) (by decide +kernel), List.mem_of_getElem? (i := 444) (by decide +kernel)⟩
theorem lw_p22 : lw_okq (⟨"CellPacks$Differences", "widestBut", "(I)I"⟩, 7) := ⟨⟨by decide +kernel, by decide +kernel⟩, List.mem_of_getElem? (i := 149) (by decide +kernel), List.mem_of_getElem? (i := 447) (by decide +kernel), List.mem_of_getElem? (i := 448) (by decide +kernel)⟩
theorem lw_p23 : lw_okq (⟨"CellPacks$Differences", "width", "(I)I"⟩, 7) := ⟨⟨by decide +kernel, by decide +kernel⟩, List.mem_of_getElem? (i := 149) (by decide +kernel), List.mem_of_getElem? (i := 451) (by decide +kernel), List.mem_of_getElem? (i := 452) (by decide +kernel)⟩
theorem lw_p24 : lw_okq (⟨"CellPacks$Differences", "merge", "(II)V"⟩, 7) := ⟨⟨by decide +kernel, by decide +kernel⟩, List.mem_of_getElem? (i := 149) (by decide +kernel), List.mem_of_getElem? (i := 461) (by decide +kernel), List.mem_of_getElem? (i := 462) (by decide +kernel)⟩
theorem lw_p25 : lw_okq (⟨"CellPacks$Differences", "isAhead", "(III)Z"⟩, 7) := ⟨⟨by decide +kernel, by decide +kernel⟩, List.mem_of_getElem? (i := 149) (by decide +kernel), List.mem_of_getElem? (i := 465) (by decide +kernel), List.mem_of_getElem? (i := 466) (by decide +kernel)⟩
theorem lw_p26 : lw_okq (⟨"CellPacks$Differences", "bundleOf", "(I)I"⟩, 7) := ⟨⟨by decide +kernel, by decide +kernel⟩, List.mem_of_getElem? (i := 149) (by decide +kernel), List.mem_of_getElem? (i := 472) (by decide +kernel), List.mem_of_getElem? (i := 473) (by decide +kernel)⟩
theorem lw_p27 : lw_okq (⟨"CellPacks$BestSearch", "chooseHomes", "(LCellPacks$Pack;[I)V"⟩, 5) := ⟨⟨by decide +kernel, by decide +kernel⟩, List.mem_of_getElem? (i := 182) (by decide +kernel), List.mem_of_getElem? (i := 476) (by decide +kernel), List.mem_of_getElem? (i := 477) (by decide +kernel)⟩
theorem lw_p28 : lw_okq (⟨"CellPacks$BestSearch", "tryCell", "(LCellPacks$Pack;III)V"⟩, 5) := ⟨⟨by decide +kernel, by decide +kernel⟩, List.mem_of_getElem? (i := 182) (by decide +kernel), List.mem_of_getElem? (i := 484) (by decide +kernel), List.mem_of_getElem? (i := 485) (by decide +kernel)⟩
theorem lw_p29 : lw_okq (⟨"CellPacks$BestSearch", "judge", "(LCellPacks$Pack;)V"⟩, 5) := ⟨⟨by decide +kernel, by decide +kernel⟩, List.mem_of_getElem? (i := 182) (by decide +kernel), List.mem_of_getElem? (i := 488) (by decide +kernel), List.mem_of_getElem? (i := 489) (by decide +kernel)⟩
theorem lw_p30 : lw_okq (⟨"CellPacks$BestSearch", "lacking", "(I)I"⟩, 5) := ⟨⟨by decide +kernel, by decide +kernel⟩, List.mem_of_getElem? (i := 182) (by decide +kernel), List.mem_of_getElem? (i := 498) (by decide +kernel), List.mem_of_getElem? (i := 499) (by decide +kernel)⟩
theorem lw_p31 : lw_okq (⟨"CellPacks$Ways", "byTurns", "(LCellPacks$Pack;)V"⟩, 5) := ⟨⟨by decide +kernel, by decide +kernel⟩, List.mem_of_getElem? (i := 143) (by decide +kernel), List.mem_of_getElem? (i := 504) (by decide +kernel), List.mem_of_getElem? (i := 505) (by decide +kernel)⟩
def lw_privs_2 : List (MethodName × Nat) := [(⟨"CellPacks$Ways", "choose", "(LCellPacks$Pack;I)V"⟩, 5), (⟨"CellPacks$Ways", "byWeakest", "(LCellPacks$Pack;)V"⟩, 5), (⟨"CellPacks$Pack", "rankByCharge", "(I)I"⟩, 9), (⟨"CellPacks$Differences", "chooseHomes", "(LCellPacks$Pack;[I)V"⟩, 7), (⟨"CellPacks$Differences", "begin", "(LCellPacks$Pack;)V"⟩, 7), (⟨"CellPacks$Differences", "joinTwo", "()V"⟩, 7), (⟨"CellPacks$Differences", "widestBut", "(I)I"⟩, 7), (⟨"CellPacks$Differences", "width", "(I)I"⟩, 7), (⟨"CellPacks$Differences", "merge", "(II)V"⟩, 7), (⟨"CellPacks$Differences", "isAhead", "(III)Z"⟩, 7), (⟨"CellPacks$Differences", "bundleOf", "(I)I"⟩, 7), (⟨"CellPacks$BestSearch", "chooseHomes", "(LCellPacks$Pack;[I)V"⟩, 5), (⟨"CellPacks$BestSearch", "tryCell", "(LCellPacks$Pack;III)V"⟩, 5), (⟨"CellPacks$BestSearch", "judge", "(LCellPacks$Pack;)V"⟩, 5), (⟨"CellPacks$BestSearch", "lacking", "(I)I"⟩, 5), (⟨"CellPacks$Ways", "byTurns", "(LCellPacks$Pack;)V"⟩, 5)]
theorem lw_r2 : ∀ q ∈ lw_privs_2, lw_okq q := List.forall_mem_cons.mpr ⟨lw_p16, List.forall_mem_cons.mpr ⟨lw_p17, List.forall_mem_cons.mpr ⟨lw_p18, List.forall_mem_cons.mpr ⟨lw_p19, List.forall_mem_cons.mpr ⟨lw_p20, List.forall_mem_cons.mpr ⟨lw_p21, List.forall_mem_cons.mpr ⟨lw_p22, List.forall_mem_cons.mpr ⟨lw_p23, List.forall_mem_cons.mpr ⟨lw_p24, List.forall_mem_cons.mpr ⟨lw_p25, List.forall_mem_cons.mpr ⟨lw_p26, List.forall_mem_cons.mpr ⟨lw_p27, List.forall_mem_cons.mpr ⟨lw_p28, List.forall_mem_cons.mpr ⟨lw_p29, List.forall_mem_cons.mpr ⟨lw_p30, List.forall_mem_cons.mpr ⟨lw_p31, fun _ h => absurd h List.not_mem_nil⟩⟩⟩⟩⟩⟩⟩⟩⟩⟩⟩⟩⟩⟩⟩⟩
theorem lw_p32 : lw_okq (⟨"CellPacks", "forgetImages", "()V"⟩, 10) := ⟨⟨by decide +kernel, by decide +kernel⟩, List.mem_of_getElem? (i := 19) (by decide +kernel), List.mem_of_getElem? (i := 509) (by decide +kernel), List.mem_of_getElem? (i := 510) (by decide +kernel)⟩
theorem lw_p33 : lw_okq (⟨"CellPacks$Pack", "weakest", "()I"⟩, 9) := ⟨⟨by decide +kernel, by decide +kernel⟩, List.mem_of_getElem? (i := 44) (by decide +kernel), List.mem_of_getElem? (i := 521) (by decide +kernel), List.mem_of_getElem? (i := 522) (by decide +kernel)⟩
theorem lw_p34 : lw_okq (⟨"CellPacks$Pack", "leastSum", "()I"⟩, 9) := ⟨⟨by decide +kernel, by decide +kernel⟩, List.mem_of_getElem? (i := 44) (by decide +kernel), List.mem_of_getElem? (i := 530) (by decide +kernel), List.mem_of_getElem? (i := 531) (by decide +kernel)⟩
theorem lw_p35 : lw_okq (⟨"CellPacks$Pack", "spread", "()I"⟩, 9) := ⟨⟨by decide +kernel, by decide +kernel⟩, List.mem_of_getElem? (i := 44) (by decide +kernel), List.mem_of_getElem? (i := 535) (by decide +kernel), List.mem_of_getElem? (i := 536) (by decide +kernel)⟩
theorem lw_p36 : lw_okq (⟨"CellPacks", "isCell", "(I)Z"⟩, 10) := ⟨⟨by decide +kernel, by decide +kernel⟩, List.mem_of_getElem? (i := 19) (by decide +kernel), List.mem_of_getElem? (i := 546) (by decide +kernel), List.mem_of_getElem? (i := 547) (by decide +kernel)⟩
theorem lw_p37 : lw_okq (⟨"CellPacks", "isGroup", "(I)Z"⟩, 10) := ⟨⟨by decide +kernel, by decide +kernel⟩, List.mem_of_getElem? (i := 19) (by decide +kernel), List.mem_of_getElem? (i := 555) (by decide +kernel), List.mem_of_getElem? (i := 556) (by decide +kernel)⟩
theorem lw_p38 : lw_okq (⟨"CellPacks$Pack", "sumOf", "(I)I"⟩, 9) := ⟨⟨by decide +kernel, by decide +kernel⟩, List.mem_of_getElem? (i := 44) (by decide +kernel), List.mem_of_getElem? (i := 559) (by decide +kernel), List.mem_of_getElem? (i := 560) (by decide +kernel)⟩
theorem lw_p39 : lw_okq (⟨"CellPacks$Pack", "bitsOf", "(I)I"⟩, 9) := ⟨⟨by decide +kernel, by decide +kernel⟩, List.mem_of_getElem? (i := 44) (by decide +kernel), List.mem_of_getElem? (i := 563) (by decide +kernel), List.mem_of_getElem? (i := 564) (by decide +kernel)⟩
theorem lw_p40 : lw_okq (⟨"CellPacks$Pack", "strongestOf", "(I)I"⟩, 9) := ⟨⟨by decide +kernel, by decide +kernel⟩, List.mem_of_getElem? (i := 44) (by decide +kernel), List.mem_of_getElem? (i := 573) (by decide +kernel), List.mem_of_getElem? (i := 574) (by decide +kernel)⟩
theorem lw_p41 : lw_okq (⟨"CellPacks$Pack", "aboveFloor", "(I)I"⟩, 9) := ⟨⟨by decide +kernel, by decide +kernel⟩, List.mem_of_getElem? (i := 44) (by decide +kernel), List.mem_of_getElem? (i := 577) (by decide +kernel), List.mem_of_getElem? (i := 578) (by decide +kernel)⟩
theorem lw_p42 : lw_okq (⟨"CellPacks", "wayIsOpen", "(I)Z"⟩, 10) := ⟨⟨by decide +kernel, by decide +kernel⟩, List.mem_of_getElem? (i := 19) (by decide +kernel), List.mem_of_getElem? (i := 589) (by decide +kernel), List.mem_of_getElem? (i := 590) (by decide +kernel)⟩
theorem lw_p43 : lw_okq (⟨"CellPacks$Ways", "leastSum", "(LCellPacks$Pack;)I"⟩, 5) := ⟨⟨by decide +kernel, by decide +kernel⟩, List.mem_of_getElem? (i := 143) (by decide +kernel), List.mem_of_getElem? (i := 597) (by decide +kernel), List.mem_of_getElem? (i := 598) (by decide +kernel)⟩
theorem lw_p44 : lw_okq (⟨"CellPacks$Ways", "spread", "(LCellPacks$Pack;)I"⟩, 5) := ⟨⟨by decide +kernel, by decide +kernel⟩, List.mem_of_getElem? (i := 143) (by decide +kernel), List.mem_of_getElem? (i := 602) (by decide +kernel), List.mem_of_getElem? (i := 603) (by decide +kernel)⟩
theorem lw_p45 : lw_okq (⟨"CellPacks$Ways", "strangers", "(LCellPacks$Pack;)I"⟩, 5) := ⟨⟨by decide +kernel, by decide +kernel⟩, List.mem_of_getElem? (i := 143) (by decide +kernel), List.mem_of_getElem? (i := 608) (by decide +kernel), List.mem_of_getElem? (i := 609) (by decide +kernel)⟩
theorem lw_p46 : lw_okq (⟨"CellPacks$Pack", "leastSumOfCharges", "()I"⟩, 9) := ⟨⟨by decide +kernel, by decide +kernel⟩, List.mem_of_getElem? (i := 44) (by decide +kernel), List.mem_of_getElem? (i := 620) (by decide +kernel), List.mem_of_getElem? (i := 621) (by decide +kernel)⟩
theorem lw_p47 : lw_okq (⟨"CellPacks", "waysThatReach", "(I)I"⟩, 10) := ⟨⟨by decide +kernel, by decide +kernel⟩, List.mem_of_getElem? (i := 19) (by decide +kernel), List.mem_of_getElem? (i := 624) (by decide +kernel), List.mem_of_getElem? (i := 625) (by decide +kernel)⟩
def lw_privs_3 : List (MethodName × Nat) := [(⟨"CellPacks", "forgetImages", "()V"⟩, 10), (⟨"CellPacks$Pack", "weakest", "()I"⟩, 9), (⟨"CellPacks$Pack", "leastSum", "()I"⟩, 9), (⟨"CellPacks$Pack", "spread", "()I"⟩, 9), (⟨"CellPacks", "isCell", "(I)Z"⟩, 10), (⟨"CellPacks", "isGroup", "(I)Z"⟩, 10), (⟨"CellPacks$Pack", "sumOf", "(I)I"⟩, 9), (⟨"CellPacks$Pack", "bitsOf", "(I)I"⟩, 9), (⟨"CellPacks$Pack", "strongestOf", "(I)I"⟩, 9), (⟨"CellPacks$Pack", "aboveFloor", "(I)I"⟩, 9), (⟨"CellPacks", "wayIsOpen", "(I)Z"⟩, 10), (⟨"CellPacks$Ways", "leastSum", "(LCellPacks$Pack;)I"⟩, 5), (⟨"CellPacks$Ways", "spread", "(LCellPacks$Pack;)I"⟩, 5), (⟨"CellPacks$Ways", "strangers", "(LCellPacks$Pack;)I"⟩, 5), (⟨"CellPacks$Pack", "leastSumOfCharges", "()I"⟩, 9), (⟨"CellPacks", "waysThatReach", "(I)I"⟩, 10)]
theorem lw_r3 : ∀ q ∈ lw_privs_3, lw_okq q := List.forall_mem_cons.mpr ⟨lw_p32, List.forall_mem_cons.mpr ⟨lw_p33, List.forall_mem_cons.mpr ⟨lw_p34, List.forall_mem_cons.mpr ⟨lw_p35, List.forall_mem_cons.mpr ⟨lw_p36, List.forall_mem_cons.mpr ⟨lw_p37, List.forall_mem_cons.mpr ⟨lw_p38, List.forall_mem_cons.mpr ⟨lw_p39, List.forall_mem_cons.mpr ⟨lw_p40, List.forall_mem_cons.mpr ⟨lw_p41, List.forall_mem_cons.mpr ⟨lw_p42, List.forall_mem_cons.mpr ⟨lw_p43, List.forall_mem_cons.mpr ⟨lw_p44, List.forall_mem_cons.mpr ⟨lw_p45, List.forall_mem_cons.mpr ⟨lw_p46, List.forall_mem_cons.mpr ⟨lw_p47, fun _ h => absurd h List.not_mem_nil⟩⟩⟩⟩⟩⟩⟩⟩⟩⟩⟩⟩⟩⟩⟩⟩
theorem lw_p48 : lw_okq (⟨"CellPacks$Pack", "leastSumExchanged", "(II)I"⟩, 9) := ⟨⟨by decide +kernel, by decide +kernel⟩, List.mem_of_getElem? (i := 44) (by decide +kernel), List.mem_of_getElem? (i := 644) (by decide +kernel), List.mem_of_getElem? (i := 645) (by decide +kernel)⟩
theorem lw_p49 : lw_okq (⟨"CellPacks$Pack", "removeAt", "(I)V"⟩, 9) := ⟨⟨by decide +kernel, by decide +kernel⟩, List.mem_of_getElem? (i := 44) (by decide +kernel), List.mem_of_getElem? (i := 657) (by decide +kernel), List.mem_of_getElem? (i := 658) (by decide +kernel)⟩
theorem lw_p50 : lw_okq (⟨"CellPacks$Pack", "runTicks", "(I)I"⟩, 9) := ⟨⟨by decide +kernel, by decide +kernel⟩, List.mem_of_getElem? (i := 44) (by decide +kernel), List.mem_of_getElem? (i := 677) (by decide +kernel), List.mem_of_getElem? (i := 678) (by decide +kernel)⟩
theorem lw_p51 : lw_okq (⟨"CellPacks$Pack", "tickLoses", "()Z"⟩, 9) := ⟨⟨by decide +kernel, by decide +kernel⟩, List.mem_of_getElem? (i := 44) (by decide +kernel), List.mem_of_getElem? (i := 681) (by decide +kernel), List.mem_of_getElem? (i := 682) (by decide +kernel)⟩
theorem lw_p52 : lw_okq (⟨"CellPacks$Pack", "strongestLoses", "(I)Z"⟩, 9) := ⟨⟨by decide +kernel, by decide +kernel⟩, List.mem_of_getElem? (i := 44) (by decide +kernel), List.mem_of_getElem? (i := 685) (by decide +kernel), List.mem_of_getElem? (i := 686) (by decide +kernel)⟩
theorem lw_p53 : lw_okq (⟨"CellPacks$Sheet", "renew", "(II)V"⟩, 3) := ⟨⟨by decide +kernel, by decide +kernel⟩, List.mem_of_getElem? (i := 223) (by decide +kernel), List.mem_of_getElem? (i := 725) (by decide +kernel), List.mem_of_getElem? (i := 726) (by decide +kernel)⟩
theorem lw_p54 : lw_okq (⟨"CellPacks$Sheet", "putAt", "(II)I"⟩, 3) := ⟨⟨by decide +kernel, by decide +kernel⟩, List.mem_of_getElem? (i := 223) (by decide +kernel), List.mem_of_getElem? (i := 734) (by decide +kernel), List.mem_of_getElem? (i := 735) (by decide +kernel)⟩
theorem lw_p55 : lw_okq (⟨"CellPacks$Sheet", "wholePairs", "(III)I"⟩, 3) := ⟨⟨by decide +kernel, by decide +kernel⟩, List.mem_of_getElem? (i := 223) (by decide +kernel), List.mem_of_getElem? (i := 743) (by decide +kernel), List.mem_of_getElem? (i := 744) (by decide +kernel)⟩
theorem lw_p56 : lw_okq (⟨"CellPacks$Sheet", "faultAs", "(I)I"⟩, 3) := ⟨⟨by decide +kernel, by decide +kernel⟩, List.mem_of_getElem? (i := 223) (by decide +kernel), List.mem_of_getElem? (i := 748) (by decide +kernel), List.mem_of_getElem? (i := 749) (by decide +kernel)⟩
theorem lw_p57 : lw_okq (⟨"CellPacks", "keptImages", "()I"⟩, 10) := ⟨⟨by decide +kernel, by decide +kernel⟩, List.mem_of_getElem? (i := 19) (by decide +kernel), List.mem_of_getElem? (i := 760) (by decide +kernel), List.mem_of_getElem? (i := 761) (by decide +kernel)⟩
theorem lw_p58 : lw_okq (⟨"CellPacks$Pack", "emptyGroups", "()I"⟩, 9) := ⟨⟨by decide +kernel, by decide +kernel⟩, List.mem_of_getElem? (i := 44) (by decide +kernel), List.mem_of_getElem? (i := 764) (by decide +kernel), List.mem_of_getElem? (i := 765) (by decide +kernel)⟩
theorem lw_p59 : lw_okq (⟨"CellPacks$Pack", "bledCells", "()I"⟩, 9) := ⟨⟨by decide +kernel, by decide +kernel⟩, List.mem_of_getElem? (i := 44) (by decide +kernel), List.mem_of_getElem? (i := 769) (by decide +kernel), List.mem_of_getElem? (i := 770) (by decide +kernel)⟩
theorem lw_p60 : lw_okq (⟨"CellPacks$Pack", "greatestCharge", "()I"⟩, 9) := ⟨⟨by decide +kernel, by decide +kernel⟩, List.mem_of_getElem? (i := 44) (by decide +kernel), List.mem_of_getElem? (i := 773) (by decide +kernel), List.mem_of_getElem? (i := 774) (by decide +kernel)⟩
theorem lw_p61 : lw_okq (⟨"CellPacksModel", "firstDraft", "()V"⟩, 26) := ⟨⟨by decide +kernel, by decide +kernel⟩, List.mem_of_getElem? (i := 777) (by decide +kernel), List.mem_of_getElem? (i := 783) (by decide +kernel), List.mem_of_getElem? (i := 784) (by decide +kernel)⟩
theorem lw_p62 : lw_okq (⟨"CellPacksModel", "reads", "()V"⟩, 26) := ⟨⟨by decide +kernel, by decide +kernel⟩, List.mem_of_getElem? (i := 777) (by decide +kernel), List.mem_of_getElem? (i := 882) (by decide +kernel), List.mem_of_getElem? (i := 883) (by decide +kernel)⟩
theorem lw_p63 : lw_okq (⟨"CellPacksModel", "byteAt", "(I)I"⟩, 26) := ⟨⟨by decide +kernel, by decide +kernel⟩, List.mem_of_getElem? (i := 777) (by decide +kernel), List.mem_of_getElem? (i := 886) (by decide +kernel), List.mem_of_getElem? (i := 887) (by decide +kernel)⟩
def lw_privs_4 : List (MethodName × Nat) := [(⟨"CellPacks$Pack", "leastSumExchanged", "(II)I"⟩, 9), (⟨"CellPacks$Pack", "removeAt", "(I)V"⟩, 9), (⟨"CellPacks$Pack", "runTicks", "(I)I"⟩, 9), (⟨"CellPacks$Pack", "tickLoses", "()Z"⟩, 9), (⟨"CellPacks$Pack", "strongestLoses", "(I)Z"⟩, 9), (⟨"CellPacks$Sheet", "renew", "(II)V"⟩, 3), (⟨"CellPacks$Sheet", "putAt", "(II)I"⟩, 3), (⟨"CellPacks$Sheet", "wholePairs", "(III)I"⟩, 3), (⟨"CellPacks$Sheet", "faultAs", "(I)I"⟩, 3), (⟨"CellPacks", "keptImages", "()I"⟩, 10), (⟨"CellPacks$Pack", "emptyGroups", "()I"⟩, 9), (⟨"CellPacks$Pack", "bledCells", "()I"⟩, 9), (⟨"CellPacks$Pack", "greatestCharge", "()I"⟩, 9), (⟨"CellPacksModel", "firstDraft", "()V"⟩, 26), (⟨"CellPacksModel", "reads", "()V"⟩, 26), (⟨"CellPacksModel", "byteAt", "(I)I"⟩, 26)]
theorem lw_r4 : ∀ q ∈ lw_privs_4, lw_okq q := List.forall_mem_cons.mpr ⟨lw_p48, List.forall_mem_cons.mpr ⟨lw_p49, List.forall_mem_cons.mpr ⟨lw_p50, List.forall_mem_cons.mpr ⟨lw_p51, List.forall_mem_cons.mpr ⟨lw_p52, List.forall_mem_cons.mpr ⟨lw_p53, List.forall_mem_cons.mpr ⟨lw_p54, List.forall_mem_cons.mpr ⟨lw_p55, List.forall_mem_cons.mpr ⟨lw_p56, List.forall_mem_cons.mpr ⟨lw_p57, List.forall_mem_cons.mpr ⟨lw_p58, List.forall_mem_cons.mpr ⟨lw_p59, List.forall_mem_cons.mpr ⟨lw_p60, List.forall_mem_cons.mpr ⟨lw_p61, List.forall_mem_cons.mpr ⟨lw_p62, List.forall_mem_cons.mpr ⟨lw_p63, fun _ h => absurd h List.not_mem_nil⟩⟩⟩⟩⟩⟩⟩⟩⟩⟩⟩⟩⟩⟩⟩⟩
theorem lw_p64 : lw_okq (⟨"CellPacksModel", "requires", "(ZI)V"⟩, 26) := ⟨⟨by decide +kernel, by decide +kernel⟩, List.mem_of_getElem? (i := 777) (by decide +kernel), List.mem_of_getElem? (i := 894) (by decide +kernel), List.mem_of_getElem? (i := 895) (by decide +kernel)⟩
theorem lw_p65 : lw_okq (⟨"CellPacksModel", "readLine", "()V"⟩, 26) := ⟨⟨by decide +kernel, by decide +kernel⟩, List.mem_of_getElem? (i := 777) (by decide +kernel), List.mem_of_getElem? (i := 898) (by decide +kernel), List.mem_of_getElem? (i := 899) (by decide +kernel)⟩
theorem lw_p66 : lw_okq (⟨"CellPacksModel", "lineNow", "()I"⟩, 26) := ⟨⟨by decide +kernel, by decide +kernel⟩, List.mem_of_getElem? (i := 777) (by decide +kernel), List.mem_of_getElem? (i := 902) (by decide +kernel), List.mem_of_getElem? (i := 903) (by decide +kernel)⟩
theorem lw_p67 : lw_okq (⟨"CellPacksModel", "is", "(IIIII)Z"⟩, 26) := ⟨⟨by decide +kernel, by decide +kernel⟩, List.mem_of_getElem? (i := 777) (by decide +kernel), List.mem_of_getElem? (i := 906) (by decide +kernel), List.mem_of_getElem? (i := 907) (by decide +kernel)⟩
theorem lw_p68 : lw_okq (⟨"CellPacksModel", "readCell", "()V"⟩, 26) := ⟨⟨by decide +kernel, by decide +kernel⟩, List.mem_of_getElem? (i := 777) (by decide +kernel), List.mem_of_getElem? (i := 910) (by decide +kernel), List.mem_of_getElem? (i := 911) (by decide +kernel)⟩
theorem lw_p69 : lw_okq (⟨"CellPacksModel", "readNumber", "(II)I"⟩, 26) := ⟨⟨by decide +kernel, by decide +kernel⟩, List.mem_of_getElem? (i := 777) (by decide +kernel), List.mem_of_getElem? (i := 914) (by decide +kernel), List.mem_of_getElem? (i := 915) (by decide +kernel)⟩
theorem lw_p70 : lw_okq (⟨"CellPacksModel", "byTurns", "()V"⟩, 26) := ⟨⟨by decide +kernel, by decide +kernel⟩, List.mem_of_getElem? (i := 777) (by decide +kernel), List.mem_of_getElem? (i := 924) (by decide +kernel), List.mem_of_getElem? (i := 925) (by decide +kernel)⟩
theorem lw_p71 : lw_okq (⟨"CellPacksModel", "findTurns", "()V"⟩, 26) := ⟨⟨by decide +kernel, by decide +kernel⟩, List.mem_of_getElem? (i := 777) (by decide +kernel), List.mem_of_getElem? (i := 928) (by decide +kernel), List.mem_of_getElem? (i := 929) (by decide +kernel)⟩
theorem lw_p72 : lw_okq (⟨"CellPacksModel", "takeFound", "()V"⟩, 26) := ⟨⟨by decide +kernel, by decide +kernel⟩, List.mem_of_getElem? (i := 777) (by decide +kernel), List.mem_of_getElem? (i := 932) (by decide +kernel), List.mem_of_getElem? (i := 933) (by decide +kernel)⟩
theorem lw_p73 : lw_okq (⟨"CellPacksModel", "weakestNow", "()I"⟩, 26) := ⟨⟨by decide +kernel, by decide +kernel⟩, List.mem_of_getElem? (i := 777) (by decide +kernel), List.mem_of_getElem? (i := 944) (by decide +kernel), List.mem_of_getElem? (i := 945) (by decide +kernel)⟩
theorem lw_p74 : lw_okq (⟨"CellPacksModel", "sumNow", "(I)V"⟩, 26) := ⟨⟨by decide +kernel, by decide +kernel⟩, List.mem_of_getElem? (i := 777) (by decide +kernel), List.mem_of_getElem? (i := 948) (by decide +kernel), List.mem_of_getElem? (i := 949) (by decide +kernel)⟩
theorem lw_p75 : lw_okq (⟨"CellPacksModel", "weakest", "()I"⟩, 26) := ⟨⟨by decide +kernel, by decide +kernel⟩, List.mem_of_getElem? (i := 777) (by decide +kernel), List.mem_of_getElem? (i := 952) (by decide +kernel), List.mem_of_getElem? (i := 953) (by decide +kernel)⟩
theorem lw_p76 : lw_okq (⟨"CellPacksModel", "leastNow", "(I)I"⟩, 26) := ⟨⟨by decide +kernel, by decide +kernel⟩, List.mem_of_getElem? (i := 777) (by decide +kernel), List.mem_of_getElem? (i := 956) (by decide +kernel), List.mem_of_getElem? (i := 957) (by decide +kernel)⟩
theorem lw_p77 : lw_okq (⟨"CellPacksModel", "least", "()I"⟩, 26) := ⟨⟨by decide +kernel, by decide +kernel⟩, List.mem_of_getElem? (i := 777) (by decide +kernel), List.mem_of_getElem? (i := 960) (by decide +kernel), List.mem_of_getElem? (i := 961) (by decide +kernel)⟩
theorem lw_p78 : lw_okq (⟨"CellPacksModel", "spreadNow", "()I"⟩, 26) := ⟨⟨by decide +kernel, by decide +kernel⟩, List.mem_of_getElem? (i := 777) (by decide +kernel), List.mem_of_getElem? (i := 964) (by decide +kernel), List.mem_of_getElem? (i := 965) (by decide +kernel)⟩
theorem lw_p79 : lw_okq (⟨"CellPacksModel", "greatest", "()I"⟩, 26) := ⟨⟨by decide +kernel, by decide +kernel⟩, List.mem_of_getElem? (i := 777) (by decide +kernel), List.mem_of_getElem? (i := 968) (by decide +kernel), List.mem_of_getElem? (i := 969) (by decide +kernel)⟩
def lw_privs_5 : List (MethodName × Nat) := [(⟨"CellPacksModel", "requires", "(ZI)V"⟩, 26), (⟨"CellPacksModel", "readLine", "()V"⟩, 26), (⟨"CellPacksModel", "lineNow", "()I"⟩, 26), (⟨"CellPacksModel", "is", "(IIIII)Z"⟩, 26), (⟨"CellPacksModel", "readCell", "()V"⟩, 26), (⟨"CellPacksModel", "readNumber", "(II)I"⟩, 26), (⟨"CellPacksModel", "byTurns", "()V"⟩, 26), (⟨"CellPacksModel", "findTurns", "()V"⟩, 26), (⟨"CellPacksModel", "takeFound", "()V"⟩, 26), (⟨"CellPacksModel", "weakestNow", "()I"⟩, 26), (⟨"CellPacksModel", "sumNow", "(I)V"⟩, 26), (⟨"CellPacksModel", "weakest", "()I"⟩, 26), (⟨"CellPacksModel", "leastNow", "(I)I"⟩, 26), (⟨"CellPacksModel", "least", "()I"⟩, 26), (⟨"CellPacksModel", "spreadNow", "()I"⟩, 26), (⟨"CellPacksModel", "greatest", "()I"⟩, 26)]
theorem lw_r5 : ∀ q ∈ lw_privs_5, lw_okq q := List.forall_mem_cons.mpr ⟨lw_p64, List.forall_mem_cons.mpr ⟨lw_p65, List.forall_mem_cons.mpr ⟨lw_p66, List.forall_mem_cons.mpr ⟨lw_p67, List.forall_mem_cons.mpr ⟨lw_p68, List.forall_mem_cons.mpr ⟨lw_p69, List.forall_mem_cons.mpr ⟨lw_p70, List.forall_mem_cons.mpr ⟨lw_p71, List.forall_mem_cons.mpr ⟨lw_p72, List.forall_mem_cons.mpr ⟨lw_p73, List.forall_mem_cons.mpr ⟨lw_p74, List.forall_mem_cons.mpr ⟨lw_p75, List.forall_mem_cons.mpr ⟨lw_p76, List.forall_mem_cons.mpr ⟨lw_p77, List.forall_mem_cons.mpr ⟨lw_p78, List.forall_mem_cons.mpr ⟨lw_p79, fun _ h => absurd h List.not_mem_nil⟩⟩⟩⟩⟩⟩⟩⟩⟩⟩⟩⟩⟩⟩⟩⟩
theorem lw_p80 : lw_okq (⟨"CellPacksModel", "all", "(I)I"⟩, 26) := ⟨⟨by decide +kernel, by decide +kernel⟩, List.mem_of_getElem? (i := 777) (by decide +kernel), List.mem_of_getElem? (i := 972) (by decide +kernel), List.mem_of_getElem? (i := 973) (by decide +kernel)⟩
theorem lw_p81 : lw_okq (⟨"CellPacksModel", "isCell", "(I)Z"⟩, 26) := ⟨⟨by decide +kernel, by decide +kernel⟩, List.mem_of_getElem? (i := 777) (by decide +kernel), List.mem_of_getElem? (i := 980) (by decide +kernel), List.mem_of_getElem? (i := 981) (by decide +kernel)⟩
theorem lw_p82 : lw_okq (⟨"CellPacksModel", "rankOf", "(I)I"⟩, 26) := ⟨⟨by decide +kernel, by decide +kernel⟩, List.mem_of_getElem? (i := 777) (by decide +kernel), List.mem_of_getElem? (i := 984) (by decide +kernel), List.mem_of_getElem? (i := 985) (by decide +kernel)⟩
theorem lw_p83 : lw_okq (⟨"CellPacksModel", "isGroup", "(I)Z"⟩, 26) := ⟨⟨by decide +kernel, by decide +kernel⟩, List.mem_of_getElem? (i := 777) (by decide +kernel), List.mem_of_getElem? (i := 995) (by decide +kernel), List.mem_of_getElem? (i := 996) (by decide +kernel)⟩
theorem lw_p84 : lw_okq (⟨"CellPacksModel", "sumOf", "(I)I"⟩, 26) := ⟨⟨by decide +kernel, by decide +kernel⟩, List.mem_of_getElem? (i := 777) (by decide +kernel), List.mem_of_getElem? (i := 999) (by decide +kernel), List.mem_of_getElem? (i := 1000) (by decide +kernel)⟩
theorem lw_p85 : lw_okq (⟨"CellPacksModel", "cellsOf", "(IZ)I"⟩, 26) := ⟨⟨by decide +kernel, by decide +kernel⟩, List.mem_of_getElem? (i := 777) (by decide +kernel), List.mem_of_getElem? (i := 1003) (by decide +kernel), List.mem_of_getElem? (i := 1004) (by decide +kernel)⟩
theorem lw_p86 : lw_okq (⟨"CellPacksModel", "strongest", "(I)I"⟩, 26) := ⟨⟨by decide +kernel, by decide +kernel⟩, List.mem_of_getElem? (i := 777) (by decide +kernel), List.mem_of_getElem? (i := 1007) (by decide +kernel), List.mem_of_getElem? (i := 1008) (by decide +kernel)⟩
theorem lw_p87 : lw_okq (⟨"CellPacksModel", "aboveFloor", "(I)I"⟩, 26) := ⟨⟨by decide +kernel, by decide +kernel⟩, List.mem_of_getElem? (i := 777) (by decide +kernel), List.mem_of_getElem? (i := 1011) (by decide +kernel), List.mem_of_getElem? (i := 1012) (by decide +kernel)⟩
theorem lw_p88 : lw_okq (⟨"CellPacksModel", "isWay", "(I)Z"⟩, 26) := ⟨⟨by decide +kernel, by decide +kernel⟩, List.mem_of_getElem? (i := 777) (by decide +kernel), List.mem_of_getElem? (i := 1019) (by decide +kernel), List.mem_of_getElem? (i := 1020) (by decide +kernel)⟩
theorem lw_p89 : lw_okq (⟨"CellPacksModel", "isTooMuch", "(I)Z"⟩, 26) := ⟨⟨by decide +kernel, by decide +kernel⟩, List.mem_of_getElem? (i := 777) (by decide +kernel), List.mem_of_getElem? (i := 1024) (by decide +kernel), List.mem_of_getElem? (i := 1025) (by decide +kernel)⟩
theorem lw_p90 : lw_okq (⟨"CellPacksModel", "find", "(I)V"⟩, 26) := ⟨⟨by decide +kernel, by decide +kernel⟩, List.mem_of_getElem? (i := 777) (by decide +kernel), List.mem_of_getElem? (i := 1028) (by decide +kernel), List.mem_of_getElem? (i := 1029) (by decide +kernel)⟩
theorem lw_p91 : lw_okq (⟨"CellPacksModel", "findWeakest", "()V"⟩, 26) := ⟨⟨by decide +kernel, by decide +kernel⟩, List.mem_of_getElem? (i := 777) (by decide +kernel), List.mem_of_getElem? (i := 1032) (by decide +kernel), List.mem_of_getElem? (i := 1033) (by decide +kernel)⟩
theorem lw_p92 : lw_okq (⟨"CellPacksModel", "findDifferences", "()V"⟩, 26) := ⟨⟨by decide +kernel, by decide +kernel⟩, List.mem_of_getElem? (i := 777) (by decide +kernel), List.mem_of_getElem? (i := 1036) (by decide +kernel), List.mem_of_getElem? (i := 1037) (by decide +kernel)⟩
theorem lw_p93 : lw_okq (⟨"CellPacksModel", "widest", "(I)I"⟩, 26) := ⟨⟨by decide +kernel, by decide +kernel⟩, List.mem_of_getElem? (i := 777) (by decide +kernel), List.mem_of_getElem? (i := 1040) (by decide +kernel), List.mem_of_getElem? (i := 1041) (by decide +kernel)⟩
theorem lw_p94 : lw_okq (⟨"CellPacksModel", "differenceOf", "(I)I"⟩, 26) := ⟨⟨by decide +kernel, by decide +kernel⟩, List.mem_of_getElem? (i := 777) (by decide +kernel), List.mem_of_getElem? (i := 1044) (by decide +kernel), List.mem_of_getElem? (i := 1045) (by decide +kernel)⟩
theorem lw_p95 : lw_okq (⟨"CellPacksModel", "holds", "(I)I"⟩, 26) := ⟨⟨by decide +kernel, by decide +kernel⟩, List.mem_of_getElem? (i := 777) (by decide +kernel), List.mem_of_getElem? (i := 1048) (by decide +kernel), List.mem_of_getElem? (i := 1049) (by decide +kernel)⟩
def lw_privs_6 : List (MethodName × Nat) := [(⟨"CellPacksModel", "all", "(I)I"⟩, 26), (⟨"CellPacksModel", "isCell", "(I)Z"⟩, 26), (⟨"CellPacksModel", "rankOf", "(I)I"⟩, 26), (⟨"CellPacksModel", "isGroup", "(I)Z"⟩, 26), (⟨"CellPacksModel", "sumOf", "(I)I"⟩, 26), (⟨"CellPacksModel", "cellsOf", "(IZ)I"⟩, 26), (⟨"CellPacksModel", "strongest", "(I)I"⟩, 26), (⟨"CellPacksModel", "aboveFloor", "(I)I"⟩, 26), (⟨"CellPacksModel", "isWay", "(I)Z"⟩, 26), (⟨"CellPacksModel", "isTooMuch", "(I)Z"⟩, 26), (⟨"CellPacksModel", "find", "(I)V"⟩, 26), (⟨"CellPacksModel", "findWeakest", "()V"⟩, 26), (⟨"CellPacksModel", "findDifferences", "()V"⟩, 26), (⟨"CellPacksModel", "widest", "(I)I"⟩, 26), (⟨"CellPacksModel", "differenceOf", "(I)I"⟩, 26), (⟨"CellPacksModel", "holds", "(I)I"⟩, 26)]
theorem lw_r6 : ∀ q ∈ lw_privs_6, lw_okq q := List.forall_mem_cons.mpr ⟨lw_p80, List.forall_mem_cons.mpr ⟨lw_p81, List.forall_mem_cons.mpr ⟨lw_p82, List.forall_mem_cons.mpr ⟨lw_p83, List.forall_mem_cons.mpr ⟨lw_p84, List.forall_mem_cons.mpr ⟨lw_p85, List.forall_mem_cons.mpr ⟨lw_p86, List.forall_mem_cons.mpr ⟨lw_p87, List.forall_mem_cons.mpr ⟨lw_p88, List.forall_mem_cons.mpr ⟨lw_p89, List.forall_mem_cons.mpr ⟨lw_p90, List.forall_mem_cons.mpr ⟨lw_p91, List.forall_mem_cons.mpr ⟨lw_p92, List.forall_mem_cons.mpr ⟨lw_p93, List.forall_mem_cons.mpr ⟨lw_p94, List.forall_mem_cons.mpr ⟨lw_p95, fun _ h => absurd h List.not_mem_nil⟩⟩⟩⟩⟩⟩⟩⟩⟩⟩⟩⟩⟩⟩⟩⟩
theorem lw_p96 : lw_okq (⟨"CellPacksModel", "join", "(II)V"⟩, 26) := ⟨⟨by decide +kernel, by decide +kernel⟩, List.mem_of_getElem? (i := 777) (by decide +kernel), List.mem_of_getElem? (i := 1052) (by decide +kernel), List.mem_of_getElem? (i := 1053) (by decide +kernel)⟩
theorem lw_p97 : lw_okq (⟨"CellPacksModel", "order", "(I)V"⟩, 26) := ⟨⟨by decide +kernel, by decide +kernel⟩, List.mem_of_getElem? (i := 777) (by decide +kernel), List.mem_of_getElem? (i := 1056) (by decide +kernel), List.mem_of_getElem? (i := 1057) (by decide +kernel)⟩
theorem lw_p98 : lw_okq (⟨"CellPacksModel", "isAhead", "(II)Z"⟩, 26) := ⟨⟨by decide +kernel, by decide +kernel⟩, List.mem_of_getElem? (i := 777) (by decide +kernel), List.mem_of_getElem? (i := 1060) (by decide +kernel), List.mem_of_getElem? (i := 1061) (by decide +kernel)⟩
theorem lw_p99 : lw_okq (⟨"CellPacksModel", "findBest", "()V"⟩, 26) := ⟨⟨by decide +kernel, by decide +kernel⟩, List.mem_of_getElem? (i := 777) (by decide +kernel), List.mem_of_getElem? (i := 1064) (by decide +kernel), List.mem_of_getElem? (i := 1065) (by decide +kernel)⟩
theorem lw_p100 : lw_okq (⟨"CellPacksModel", "sumFound", "()V"⟩, 26) := ⟨⟨by decide +kernel, by decide +kernel⟩, List.mem_of_getElem? (i := 777) (by decide +kernel), List.mem_of_getElem? (i := 1068) (by decide +kernel), List.mem_of_getElem? (i := 1069) (by decide +kernel)⟩
theorem lw_p101 : lw_okq (⟨"CellPacksModel", "steps", "()Z"⟩, 26) := ⟨⟨by decide +kernel, by decide +kernel⟩, List.mem_of_getElem? (i := 777) (by decide +kernel), List.mem_of_getElem? (i := 1072) (by decide +kernel), List.mem_of_getElem? (i := 1073) (by decide +kernel)⟩
theorem lw_p102 : lw_okq (⟨"CellPacksModel", "moved", "()I"⟩, 26) := ⟨⟨by decide +kernel, by decide +kernel⟩, List.mem_of_getElem? (i := 777) (by decide +kernel), List.mem_of_getElem? (i := 1081) (by decide +kernel), List.mem_of_getElem? (i := 1082) (by decide +kernel)⟩
theorem lw_p103 : lw_okq (⟨"CellPacksModel", "boundNow", "()I"⟩, 26) := ⟨⟨by decide +kernel, by decide +kernel⟩, List.mem_of_getElem? (i := 777) (by decide +kernel), List.mem_of_getElem? (i := 1093) (by decide +kernel), List.mem_of_getElem? (i := 1094) (by decide +kernel)⟩
theorem lw_p104 : lw_okq (⟨"CellPacksModel", "reaching", "()I"⟩, 26) := ⟨⟨by decide +kernel, by decide +kernel⟩, List.mem_of_getElem? (i := 777) (by decide +kernel), List.mem_of_getElem? (i := 1097) (by decide +kernel), List.mem_of_getElem? (i := 1098) (by decide +kernel)⟩
theorem lw_p105 : lw_okq (⟨"CellPacksModel", "exchange", "(II)V"⟩, 26) := ⟨⟨by decide +kernel, by decide +kernel⟩, List.mem_of_getElem? (i := 777) (by decide +kernel), List.mem_of_getElem? (i := 1113) (by decide +kernel), List.mem_of_getElem? (i := 1114) (by decide +kernel)⟩
theorem lw_p106 : lw_okq (⟨"CellPacksModel", "comes", "(I)V"⟩, 26) := ⟨⟨by decide +kernel, by decide +kernel⟩, List.mem_of_getElem? (i := 777) (by decide +kernel), List.mem_of_getElem? (i := 1126) (by decide +kernel), List.mem_of_getElem? (i := 1127) (by decide +kernel)⟩
theorem lw_p107 : lw_okq (⟨"CellPacksModel", "ticksOn", "(I)I"⟩, 26) := ⟨⟨by decide +kernel, by decide +kernel⟩, List.mem_of_getElem? (i := 777) (by decide +kernel), List.mem_of_getElem? (i := 1152) (by decide +kernel), List.mem_of_getElem? (i := 1153) (by decide +kernel)⟩
theorem lw_p108 : lw_okq (⟨"CellPacksModel", "ticks", "()Z"⟩, 26) := ⟨⟨by decide +kernel, by decide +kernel⟩, List.mem_of_getElem? (i := 777) (by decide +kernel), List.mem_of_getElem? (i := 1156) (by decide +kernel), List.mem_of_getElem? (i := 1157) (by decide +kernel)⟩
theorem lw_p109 : lw_okq (⟨"CellPacksModel", "keepBefore", "()V"⟩, 26) := ⟨⟨by decide +kernel, by decide +kernel⟩, List.mem_of_getElem? (i := 777) (by decide +kernel), List.mem_of_getElem? (i := 1164) (by decide +kernel), List.mem_of_getElem? (i := 1165) (by decide +kernel)⟩
theorem lw_p110 : lw_okq (⟨"CellPacksModel", "backBefore", "()V"⟩, 26) := ⟨⟨by decide +kernel, by decide +kernel⟩, List.mem_of_getElem? (i := 777) (by decide +kernel), List.mem_of_getElem? (i := 1168) (by decide +kernel), List.mem_of_getElem? (i := 1169) (by decide +kernel)⟩
theorem lw_p111 : lw_okq (⟨"CellPacksModel", "emptyGroups", "()I"⟩, 26) := ⟨⟨by decide +kernel, by decide +kernel⟩, List.mem_of_getElem? (i := 777) (by decide +kernel), List.mem_of_getElem? (i := 1215) (by decide +kernel), List.mem_of_getElem? (i := 1216) (by decide +kernel)⟩
def lw_privs_7 : List (MethodName × Nat) := [(⟨"CellPacksModel", "join", "(II)V"⟩, 26), (⟨"CellPacksModel", "order", "(I)V"⟩, 26), (⟨"CellPacksModel", "isAhead", "(II)Z"⟩, 26), (⟨"CellPacksModel", "findBest", "()V"⟩, 26), (⟨"CellPacksModel", "sumFound", "()V"⟩, 26), (⟨"CellPacksModel", "steps", "()Z"⟩, 26), (⟨"CellPacksModel", "moved", "()I"⟩, 26), (⟨"CellPacksModel", "boundNow", "()I"⟩, 26), (⟨"CellPacksModel", "reaching", "()I"⟩, 26), (⟨"CellPacksModel", "exchange", "(II)V"⟩, 26), (⟨"CellPacksModel", "comes", "(I)V"⟩, 26), (⟨"CellPacksModel", "ticksOn", "(I)I"⟩, 26), (⟨"CellPacksModel", "ticks", "()Z"⟩, 26), (⟨"CellPacksModel", "keepBefore", "()V"⟩, 26), (⟨"CellPacksModel", "backBefore", "()V"⟩, 26), (⟨"CellPacksModel", "emptyGroups", "()I"⟩, 26)]
theorem lw_r7 : ∀ q ∈ lw_privs_7, lw_okq q := List.forall_mem_cons.mpr ⟨lw_p96, List.forall_mem_cons.mpr ⟨lw_p97, List.forall_mem_cons.mpr ⟨lw_p98, List.forall_mem_cons.mpr ⟨lw_p99, List.forall_mem_cons.mpr ⟨lw_p100, List.forall_mem_cons.mpr ⟨lw_p101, List.forall_mem_cons.mpr ⟨lw_p102, List.forall_mem_cons.mpr ⟨lw_p103, List.forall_mem_cons.mpr ⟨lw_p104, List.forall_mem_cons.mpr ⟨lw_p105, List.forall_mem_cons.mpr ⟨lw_p106, List.forall_mem_cons.mpr ⟨lw_p107, List.forall_mem_cons.mpr ⟨lw_p108, List.forall_mem_cons.mpr ⟨lw_p109, List.forall_mem_cons.mpr ⟨lw_p110, List.forall_mem_cons.mpr ⟨lw_p111, fun _ h => absurd h List.not_mem_nil⟩⟩⟩⟩⟩⟩⟩⟩⟩⟩⟩⟩⟩⟩⟩⟩
theorem lw_p112 : lw_okq (⟨"CellPacksModel", "bledCells", "()I"⟩, 26) := ⟨⟨by decide +kernel, by decide +kernel⟩, List.mem_of_getElem? (i := 777) (by decide +kernel), List.mem_of_getElem? (i := 1219) (by decide +kernel), List.mem_of_getElem? (i := 1220) (by decide +kernel)⟩
theorem lw_p113 : lw_okq (⟨"CellPacksModel", "greatestCharge", "()I"⟩, 26) := ⟨⟨by decide +kernel, by decide +kernel⟩, List.mem_of_getElem? (i := 777) (by decide +kernel), List.mem_of_getElem? (i := 1223) (by decide +kernel), List.mem_of_getElem? (i := 1224) (by decide +kernel)⟩
def lw_privs_8 : List (MethodName × Nat) := [(⟨"CellPacksModel", "bledCells", "()I"⟩, 26), (⟨"CellPacksModel", "greatestCharge", "()I"⟩, 26)]
theorem lw_r8 : ∀ q ∈ lw_privs_8, lw_okq q := List.forall_mem_cons.mpr ⟨lw_p112, List.forall_mem_cons.mpr ⟨lw_p113, fun _ h => absurd h List.not_mem_nil⟩⟩
def lw_privs : List (MethodName × Nat) := lw_privs_1 ++ (lw_privs_2 ++ (lw_privs_3 ++ (lw_privs_4 ++ (lw_privs_5 ++ (lw_privs_6 ++ (lw_privs_7 ++ (lw_privs_8)))))))
def lw_tbl : List Cond := k2_sels lw_privs ++ tables_1
theorem lw_privs_ok : ∀ q ∈ lw_privs, lw_okq q := by
  show ∀ q ∈ lw_privs_1 ++ (lw_privs_2 ++ (lw_privs_3 ++ (lw_privs_4 ++ (lw_privs_5 ++ (lw_privs_6 ++ (lw_privs_7 ++ (lw_privs_8))))))), lw_okq q
  exact List.forall_mem_append.mpr ⟨lw_r1, List.forall_mem_append.mpr ⟨lw_r2, List.forall_mem_append.mpr ⟨lw_r3, List.forall_mem_append.mpr ⟨lw_r4, List.forall_mem_append.mpr ⟨lw_r5, List.forall_mem_append.mpr ⟨lw_r6, List.forall_mem_append.mpr ⟨lw_r7, lw_r8⟩⟩⟩⟩⟩⟩⟩
def va_AOA (ty : FieldType) (U : State) : Prop := (Cond.arrayOver (.array ty)).before #[] U = true
theorem va_AOA.use {ty : FieldType} {A : Array Value} {U : State} (h : va_AOA ty U) : (Cond.arrayOver (.array ty)).before A U = true := h
/-! ===== BEGIN words of one list among another's, by their places ===== -/
theorem goodIn_r {big : List Cond} (ws : List Cond) (ps : List Nat) (hp : ws = ps.filterMap (fun i => big[i]?)) (h : ws.all goodWord = true) : GoodIn big ws := by
  intro w hw
  have h1 := List.all_eq_true.mp h w hw
  rw [hp] at hw
  obtain ⟨i, -, hi⟩ := List.mem_filterMap.mp hw
  have hm : w ∈ big := by first | exact List.mem_of_getElem? hi | exact List.getElem?_mem hi
  exact ⟨hm, good_of_word h1⟩
theorem goodIn_app {big a b : List Cond} (ha : GoodIn big a) (hb : GoodIn big b) : GoodIn big (a ++ b) := fun w h => (List.mem_append.mp h).elim (ha w) (hb w)
theorem goodIn_ca {big a b : List Cond} {c : Cond} (ha : GoodIn big (c :: a)) (hb : GoodIn big b) : GoodIn big (c :: (a ++ b)) := fun w h => (List.mem_cons.mp h).elim (fun e => ha w (List.mem_cons.mpr (Or.inl e))) (fun h => (List.mem_append.mp h).elim (fun h => ha w (List.mem_cons.mpr (Or.inr h))) (hb w))
theorem goodIn_sub {big ws : List Cond} (hm : ∀ w ∈ ws, w ∈ big) (h : ws.all goodWord = true) : GoodIn big ws := fun w hw => ⟨hm w hw, good_of_word (List.all_eq_true.mp h w hw)⟩
/-! ===== END ===== -/

/-! ===== BEGIN new T[n][m]: the outer array a place, the inner ones among the pooled ===== -/
/-- f, but v at every address of l -/
def vr_up {α : Type} (f : Nat → α) (l : List Nat) (v : α) : Nat → α := fun a => if a ∈ l then v else f a
theorem vr_up_in {α : Type} {f : Nat → α} {l : List Nat} {v : α} {a : Nat} (h : a ∈ l) : vr_up f l v a = v := if_pos h
theorem vr_up_ne {α : Type} {f : Nat → α} {l : List Nat} {v : α} {a : Nat} (h : a ∉ l) : vr_up f l v a = f a := if_neg h
theorem vr_rows {L l : List Nat} {f : Nat → va_E} {e : va_E} (h : ∀ a, a ∈ l → a ∉ L) : va_pl L f ++ l.map (fun a => (a, e)) = va_pl (L ++ l) (vr_up f l e) := by
  unfold va_pl
  rw [List.map_append]
  congr 1
  · apply List.map_congr_left
    intro a ha
    rw [vr_up_ne (fun q => h a q ha)]
  · apply List.map_congr_left
    intro a ha
    rw [vr_up_in ha]
theorem vr_lay {X rows : va_W} {x : Nat × va_E} {pl : va_W} {D : va_G} {cl : List vw_C} {H : Heap} (hP : va_P D cl (((X ++ pl) ++ [x]) ++ rows) H) : va_P D cl ((X ++ [x]) ++ (pl ++ rows)) H := by
  rw [List.append_assoc (X ++ pl)] at hP
  have h := va_P.swap hP
  rw [← List.append_assoc X] at h
  have h2 := va_P.swap h
  rw [List.append_assoc (X ++ [x])] at h2
  exact h2
theorem vr_layD {X rows : va_W} {x : Nat × va_E} {pl : va_W} {A : Nat → Prop} (hD : va_D A (((X ++ pl) ++ [x]) ++ rows)) : va_D A ((X ++ [x]) ++ (pl ++ rows)) := by
  rw [List.append_assoc (X ++ pl)] at hD
  have h := va_D.swap hD
  rw [← List.append_assoc X] at h
  have h2 := va_D.swap h
  rw [List.append_assoc (X ++ [x])] at h2
  exact h2
theorem vr_outer (c : ClassId) (N h0 : Nat) : ∀ i : Nat, Jvm.Free.Multi.outerC c N h0 i = arrV c N (fun j => va_rf (if j < i then some (h0 + 1 + j) else none))
  | 0 => by
    show ({ cls := c, slots := Array.replicate N .null, vm := .none } : Cell) = _
    rw [arrV_new]
    refine congrArg (arrV c N) (funext fun j => ?_)
    simp [va_rf]
  | i + 1 => by
    show (Jvm.Free.Multi.outerC c N h0 i).setSlot i (.ref (h0 + 1 + i)) = _
    rw [vr_outer c N h0 i, arrV_store]
    refine congrArg (arrV c N) (funext fun j => ?_)
    by_cases e : j = i
    · subst e
      simp [updV, va_rf]
    · by_cases h : j < i
      · simp [updV, e, h, Nat.lt_succ_of_lt h]
      · simp [updV, e, h, show ¬ j < i + 1 by omega]
section VGM
variable {p : Program} {l : Launch} {e : Env} {R : Room} {s : State} {m : MethodId} {args : Array Value} {below : List Frame} {meth : Method} {c : Code} {H : Heap} {locs : List Loc} {cells slots : Nat} {Q : State → Prop}
variable {cc : ByteArray} {pc : Nat} {ls : Array Slot} {rest : List Value} {D : va_G} {cl : List vw_C} {A : Nat → Prop} {a : Nat} {tys : List (ClassId × FieldType)} {ws : va_W} {H0 : Heap}
theorem va_mna {X : va_W} {L : List Nat} {f : Nat → va_E} {cc : ByteArray} (hexec : p.tables.exec = Jvm.exec) (hb : c.code = cc) {own : String} {index : Nat} {ty : FieldType} {cy : ClassId} (hown : s.vm.findClass own = some m.cls) (hclink : (Cond.classLink own index ("[" ++ (FieldType.array ty).toString)).before args s = true) (hover : va_AOA ty s) (harr : (Cond.arrayClass ty).before args s = true) (hcy : s.vm.findClass (FieldType.array ty).toString = some cy)
    (hK : va_K D cl tys s) (hP : va_P D cl (X ++ va_pl L f) H) (hD : va_D A (X ++ va_pl L f)) (hS : va_S A H0 H locs) (hA : ∀ q, H0.size ≤ q → A q) {n k : Int32} {N' K' : Nat} {z : vp_A} (hn : ¬ n < 0) (hk : ¬ k < 0) (hN : n.toNatClampNeg = N') (hM : k.toNatClampNeg = K')
    (hb1 : N' * 4 ≤ 536870912) (hb2 : K' * componentBytes ty ≤ 536870912) (hb3 : K' ≤ 536870912) (hdf : fits ty (defaultValue ty) = true) (hdd : (defaultValue ty).isDefault = true) (hcells : cells + (1 + N') ≤ R.cells) (hslots : slots + (N' + N' * K') ≤ R.slots) (hz : ∀ c : ClassId, Jvm.Free.Multi.innerC c K' (defaultValue ty) = vp_cell c z) (hdg : decode cc pc = .ok (.multianewarray index 2, 4))
    (kk : ∀ (q : Nat) (r : Nat → Nat) (cA : ClassId) (H1 : Heap), (∀ i j : Nat, i < N' → j < N' → r i = r j → i = j) → (∀ i : Nat, i < N' → r i ∉ L) → va_K D cl (tys ++ [(cA, .array ty)]) s →
      va_P D cl ((X ++ [(q, .inl (cA, N', .inr (.inr (.inr (.inr (fun i => if i < N' then some (r i) else none))))))]) ++ va_pl (L ++ (List.range N').map r) (vr_up f ((List.range N').map r) (.inl (cy, z)))) H1 → va_D A ((X ++ [(q, .inl (cA, N', .inr (.inr (.inr (.inr (fun i => if i < N' then some (r i) else none))))))]) ++ va_pl (L ++ (List.range N').map r) (vr_up f ((List.range N').map r) (.inl (cy, z)))) → va_S A H0 H1 locs →
      W p l e R s m args below meth c H1 locs (cells + 1 + N') (slots + N' + N' * K') Q (F0 m (pc + 4) ls (.ref q :: rest))) : W p l e R s m args below meth c H locs cells slots Q (F0 m pc ls (.int k :: .int n :: rest)) := by
  subst hN
  subst hM
  intro T hT Xs
  obtain ⟨vm₁, cA, comp, -, fA, fC, hO, -, X', step⟩ := Xs.multianewarray2F hexec hown hclink (va_AOA.use hover) harr (g := F0 m pc ls (.int k :: .int n :: rest)) rfl (by rw [hb]; exact hdg) rfl hn hk hb1 hb2 hb3 hdf hdd hcells hslots
  have ec : some cy = some comp := hcy.symm.trans fC
  cases ec
  generalize hF : Jvm.Free.Multi.fill (T.setVm vm₁) cA cy n.toNatClampNeg k.toNatClampNeg (defaultValue ty) n.toNatClampNeg = F at X' step
  have hTh : (T.setVm vm₁).heap = H := hT
  obtain ⟨f1, f2, -, -⟩ := Jvm.Free.Multi.fill_facts (T.setVm vm₁) cA cy n.toNatClampNeg k.toNatClampNeg (defaultValue ty) n.toNatClampNeg
  rw [hF, hTh] at f1 f2
  have hold : ∀ x : Nat, x < H.size → F.heap[x]? = H[x]? := fun x hx => by
    have := Jvm.Free.Multi.fill_old (T.setVm vm₁) cA cy n.toNatClampNeg k.toNatClampNeg (defaultValue ty) (a := x) (by rw [hTh]; exact hx) n.toNatClampNeg
    rw [hF, hTh] at this
    exact this
  have hrow : ∀ j : Nat, j < n.toNatClampNeg → F.heap[H.size + 1 + j]? = some (vp_cell cy z) := fun j hj => by
    have := Jvm.Free.Multi.fill_inner (T.setVm vm₁) cA cy n.toNatClampNeg k.toNatClampNeg (defaultValue ty) n.toNatClampNeg j hj
    rw [hF, hTh, hz] at this
    exact this
  have hout : Jvm.Free.Multi.outerC cA n.toNatClampNeg H.size n.toNatClampNeg = vp_cell cA (n.toNatClampNeg, .inr (.inr (.inr (.inr (fun i => if i < n.toNatClampNeg then some (H.size + 1 + i) else none))))) := by
    rw [vp_cell_q]
    exact vr_outer cA n.toNatClampNeg H.size n.toNatClampNeg
  rw [hout] at f2
  have hlt : ∀ a, a ∈ L → a < H.size := fun a ha => by
    obtain ⟨k9, hk9⟩ := va_pl_get (X := X) (f := f) ha
    exact (hP k9 _ hk9).lt
  have hnl : ∀ i : Nat, i < n.toNatClampNeg → H.size + 1 + i ∉ L := fun i _ h => by
    have := hlt _ h
    omega
  have hnm : ∀ a, a ∈ (List.range n.toNatClampNeg).map (fun i => H.size + 1 + i) → a ∉ L := fun a ha h => by
    obtain ⟨i, -, rfl⟩ := List.mem_map.mp ha
    have := hlt _ h
    omega
  have hP0 : va_P D cl (X ++ va_pl L f) F.heap := hP.kept (fun k9 x hx => hold x.1 ((hP k9 x hx).lt))
  have hP1 : va_P D cl ((X ++ va_pl L f) ++ [(H.size, .inl (cA, n.toNatClampNeg, .inr (.inr (.inr (.inr (fun i => if i < n.toNatClampNeg then some (H.size + 1 + i) else none))))))]) F.heap := hP0.app (fun k9 x hx => by
    have h0 : k9 < 1 := (List.getElem?_eq_some_iff.mp hx).1
    rw [show k9 = 0 by omega] at hx
    cases hx
    exact f2)
  have hP2 : va_P D cl (((X ++ va_pl L f) ++ [(H.size, .inl (cA, n.toNatClampNeg, .inr (.inr (.inr (.inr (fun i => if i < n.toNatClampNeg then some (H.size + 1 + i) else none))))))]) ++ ((List.range n.toNatClampNeg).map (fun i => H.size + 1 + i)).map (fun a => (a, .inl (cy, z)))) F.heap := hP1.app (fun k9 x hx => by
    obtain ⟨a, ha, rfl⟩ := List.mem_map.mp (List.mem_of_getElem? hx)
    obtain ⟨i, hi, rfl⟩ := List.mem_map.mp ha
    exact hrow i (List.mem_range.mp hi))
  have hD2 : va_D A (((X ++ va_pl L f) ++ [(H.size, .inl (cA, n.toNatClampNeg, .inr (.inr (.inr (.inr (fun i => if i < n.toNatClampNeg then some (H.size + 1 + i) else none))))))]) ++ ((List.range n.toNatClampNeg).map (fun i => H.size + 1 + i)).map (fun a => (a, .inl (cy, z)))) := by
    have hD1 := hD.push (e := .inl (cA, n.toNatClampNeg, .inr (.inr (.inr (.inr (fun i => if i < n.toNatClampNeg then some (H.size + 1 + i) else none)))))) hP rfl (hA _ hS.1)
    generalize hW1 : (X ++ va_pl L f) ++ [(H.size, .inl (cA, n.toNatClampNeg, .inr (.inr (.inr (.inr (fun i => if i < n.toNatClampNeg then some (H.size + 1 + i) else none))))))] = W1 at hD1 hP1 ⊢
    have hle : ∀ (k9 : Nat) (x : Nat × va_E), W1[k9]? = some x → x.1 ≤ H.size := fun k9 x hx => by
      rw [← hW1] at hx
      by_cases hl : k9 < (X ++ va_pl L f).length
      · rw [List.getElem?_append_left hl] at hx
        exact Nat.le_of_lt ((hP k9 x hx).lt)
      · rw [List.getElem?_append_right (by omega)] at hx
        have h0 : k9 - (X ++ va_pl L f).length < 1 := (List.getElem?_eq_some_iff.mp hx).1
        rw [show k9 - (X ++ va_pl L f).length = 0 by omega] at hx
        cases hx
        exact Nat.le_refl _
    have hr : ∀ (k9 : Nat) (x : Nat × va_E), (((List.range n.toNatClampNeg).map (fun i => H.size + 1 + i)).map (fun a => ((a, .inl (cy, z)) : Nat × va_E)))[k9]? = some x → x.1 = H.size + 1 + k9 := fun k9 x hx => by
      rw [List.getElem?_map, List.getElem?_map] at hx
      by_cases h9 : k9 < n.toNatClampNeg
      · rw [List.getElem?_range h9] at hx
        cases hx
        rfl
      · have hn0 : (List.range n.toNatClampNeg)[k9]? = none := List.getElem?_eq_none (by rw [List.length_range]; omega)
        rw [hn0] at hx
        cases hx
    refine ⟨fun i j x y hi hj hxy => ?_, fun k9 x hx => ?_⟩
    · by_cases h1 : i < W1.length <;> by_cases h2 : j < W1.length
      · rw [List.getElem?_append_left h1] at hi
        rw [List.getElem?_append_left h2] at hj
        exact hD1.1 i j x y hi hj hxy
      · rw [List.getElem?_append_left h1] at hi
        rw [List.getElem?_append_right (by omega)] at hj
        have := hle _ _ hi
        have := hr _ _ hj
        omega
      · rw [List.getElem?_append_right (by omega)] at hi
        rw [List.getElem?_append_left h2] at hj
        have := hle _ _ hj
        have := hr _ _ hi
        omega
      · rw [List.getElem?_append_right (by omega)] at hi hj
        have := hr _ _ hi
        have := hr _ _ hj
        omega
    · by_cases h1 : k9 < W1.length
      · rw [List.getElem?_append_left h1] at hx
        exact hD1.2 k9 x hx
      · rw [List.getElem?_append_right (by omega)] at hx
        have := hr _ _ hx
        exact hA _ (by have := hS.1; omega)
  have hAr : ArrOfT s cA (.array ty) := fun N9 z9 => by
    obtain ⟨-, k9, hk9, cm9, hkk9⟩ := (hO 0 0 0).1
    exact ⟨(fun q hq => by cases hq), k9, hk9, cm9, hkk9⟩
  have hK2 : va_K D cl (tys ++ [(cA, .array ty)]) s := ⟨hK.1, fun k9 x hx => by
    by_cases hl : k9 < tys.length
    · rw [List.getElem?_append_left hl] at hx
      exact hK.2 k9 x hx
    · rw [List.getElem?_append_right (by omega)] at hx
      have h0 : k9 - tys.length < 1 := (List.getElem?_eq_some_iff.mp hx).1
      rw [show k9 - tys.length = 0 by omega] at hx
      cases hx
      exact ⟨hAr, fA⟩⟩
  obtain ⟨t, a1, b1⟩ := kk H.size (fun i => H.size + 1 + i) cA F.heap (fun i j _ _ h => by have h9 : H.size + 1 + i = H.size + 1 + j := h; omega) hnl hK2 (by rw [← vr_rows hnm]; exact vr_lay hP2) (by rw [← vr_rows hnm]; exact vr_layD hD2) ⟨by rw [f1]; have := hS.1; omega, fun x h1 h2 => (hold x (Nat.lt_of_lt_of_le h1 hS.1)).trans (hS.2.1 x h1 h2), hS.2.2⟩ F rfl X'
  refine ⟨t, step t ?_, b1⟩
  have e : T.heap.size = H.size := by rw [hT]
  rw [e]
  exact a1
end VGM
/-! ===== END ===== -/

/-! ===== BEGIN printed: names, fields, word lists, decode rows ===== -/
def RX0 : String := "CellPacks$BestSearch"
def TX0 : u_T := fun k => match k with
  | 0 => ("CellPacks$BestSearch", "trial", "[I", true)
  | 1 => ("CellPacks$BestSearch", "found", "[I", true)
  | 2 => ("CellPacks$BestSearch", "sums", "[I", true)
  | 3 => ("CellPacks$BestSearch", "leastFound", "I", false)
  | _ => ("CellPacks$BestSearch", "greatestFound", "I", false)
def tyX0 : Nat → FieldType := fun k => match k with
  | 0 => .array .int
  | 1 => .array .int
  | 2 => .array .int
  | 3 => .int
  | _ => .int
abbrev wsX00 : List Cond := u_ws RX0 TX0 5
theorem nmX0 : ∀ a, a < 5 → ∀ b, b < 5 → a ≠ b → (TX0 a).2.1 ≠ (TX0 b).2.1 := by decide +kernel
theorem tyX0_ok : ∀ k, k < 5 → parseFieldDescriptor (TX0 k).2.2.1 = some (tyX0 k) := by decide +kernel
abbrev cX0_init : ByteArray := prog_2_method_1_code
def yX0_init : MethodName := ⟨RX0, "<init>", "()V"⟩
abbrev cX0_chooseHomes : ByteArray := prog_2_method_2_code
def yX0_chooseHomes : MethodName := ⟨RX0, "chooseHomes", "(LCellPacks$Pack;[I)V"⟩
abbrev cX0_tryCell : ByteArray := prog_2_method_3_code
def yX0_tryCell : MethodName := ⟨RX0, "tryCell", "(LCellPacks$Pack;III)V"⟩
abbrev cX0_lacking : ByteArray := prog_2_method_4_code
def yX0_lacking : MethodName := ⟨RX0, "lacking", "(I)I"⟩
abbrev cX0_judge : ByteArray := prog_2_method_5_code
def yX0_judge : MethodName := ⟨RX0, "judge", "(LCellPacks$Pack;)V"⟩
def RX1 : String := "CellPacks$Differences"
def TX1 : u_T := fun k => match k with
  | 0 => ("CellPacks$Differences", "held", "[[I", true)
  | 1 => ("CellPacks$Differences", "cells", "[[I", true)
  | 2 => ("CellPacks$Differences", "gone", "[Z", true)
  | 3 => ("CellPacks$Differences", "log", "[I", true)
  | 4 => ("CellPacks$Differences", "joins", "I", false)
  | 5 => ("CellPacks$Differences", "size", "I", false)
  | _ => ("CellPacks$Differences", "k", "I", false)
def tyX1 : Nat → FieldType := fun k => match k with
  | 0 => .array (.array .int)
  | 1 => .array (.array .int)
  | 2 => .array .boolean
  | 3 => .array .int
  | 4 => .int
  | 5 => .int
  | _ => .int
abbrev wsX10 : List Cond := u_ws RX1 TX1 7
theorem nmX1 : ∀ a, a < 7 → ∀ b, b < 7 → a ≠ b → (TX1 a).2.1 ≠ (TX1 b).2.1 := by decide +kernel
theorem tyX1_ok : ∀ k, k < 7 → parseFieldDescriptor (TX1 k).2.2.1 = some (tyX1 k) := by decide +kernel
abbrev cX1_init : ByteArray := prog_3_method_1_code
def yX1_init : MethodName := ⟨RX1, "<init>", "()V"⟩
abbrev cX1_chooseHomes : ByteArray := prog_3_method_2_code
def yX1_chooseHomes : MethodName := ⟨RX1, "chooseHomes", "(LCellPacks$Pack;[I)V"⟩
abbrev cX1_begin : ByteArray := prog_3_method_3_code
def yX1_begin : MethodName := ⟨RX1, "begin", "(LCellPacks$Pack;)V"⟩
abbrev cX1_joinTwo : ByteArray := prog_3_method_4_code
def yX1_joinTwo : MethodName := ⟨RX1, "joinTwo", "()V"⟩
abbrev cX1_widestBut : ByteArray := prog_3_method_5_code
def yX1_widestBut : MethodName := ⟨RX1, "widestBut", "(I)I"⟩
abbrev cX1_width : ByteArray := prog_3_method_6_code
def yX1_width : MethodName := ⟨RX1, "width", "(I)I"⟩
abbrev cX1_merge : ByteArray := prog_3_method_7_code
def yX1_merge : MethodName := ⟨RX1, "merge", "(II)V"⟩
abbrev cX1_isAhead : ByteArray := prog_3_method_8_code
def yX1_isAhead : MethodName := ⟨RX1, "isAhead", "(III)Z"⟩
abbrev cX1_exchange : ByteArray := prog_3_method_9_code
def yX1_exchange : MethodName := ⟨RX1, "exchange", "([II)V"⟩
abbrev cX1_bundleOf : ByteArray := prog_3_method_10_code
def yX1_bundleOf : MethodName := ⟨RX1, "bundleOf", "(I)I"⟩
def RX2 : String := "CellPacks$Pack"
def TX2 : u_T := fun k => match k with
  | 0 => ("CellPacks$Pack", "charge", "[I", true)
  | 1 => ("CellPacks$Pack", "has", "[I", true)
  | 2 => ("CellPacks$Pack", "home", "[I", true)
  | 3 => ("CellPacks$Pack", "sums", "[I", true)
  | 4 => ("CellPacks$Pack", "size", "I", false)
  | 5 => ("CellPacks$Pack", "k", "I", false)
  | 6 => ("CellPacks$Pack", "floor", "I", false)
  | 7 => ("CellPacks$Pack", "rate", "I", false)
  | _ => ("CellPacks$Pack", "slack", "I", false)
def tyX2 : Nat → FieldType := fun k => match k with
  | 0 => .array .int
  | 1 => .array .int
  | 2 => .array .int
  | 3 => .array .int
  | 4 => .int
  | 5 => .int
  | 6 => .int
  | 7 => .int
  | _ => .int
abbrev wsX20 : List Cond := u_ws RX2 TX2 9
theorem nmX2 : ∀ a, a < 9 → ∀ b, b < 9 → a ≠ b → (TX2 a).2.1 ≠ (TX2 b).2.1 := by decide +kernel
theorem tyX2_ok : ∀ k, k < 9 → parseFieldDescriptor (TX2 k).2.2.1 = some (tyX2 k) := by decide +kernel
abbrev cX2_init : ByteArray := prog_4_method_1_code
def yX2_init : MethodName := ⟨RX2, "<init>", "()V"⟩
abbrev cX2_reset : ByteArray := prog_4_method_2_code
def yX2_reset : MethodName := ⟨RX2, "reset", "()V"⟩
abbrev cX2_copyFrom : ByteArray := prog_4_method_3_code
def yX2_copyFrom : MethodName := ⟨RX2, "copyFrom", "(LCellPacks$Pack;)V"⟩
abbrev cX2_append : ByteArray := prog_4_method_4_code
def yX2_append : MethodName := ⟨RX2, "append", "(II)V"⟩
abbrev cX2_removeAt : ByteArray := prog_4_method_5_code
def yX2_removeAt : MethodName := ⟨RX2, "removeAt", "(I)V"⟩
abbrev cX2_sumOf : ByteArray := prog_4_method_6_code
def yX2_sumOf : MethodName := ⟨RX2, "sumOf", "(I)I"⟩
abbrev cX2_weakest : ByteArray := prog_4_method_7_code
def yX2_weakest : MethodName := ⟨RX2, "weakest", "()I"⟩
abbrev cX2_leastSum : ByteArray := prog_4_method_8_code
def yX2_leastSum : MethodName := ⟨RX2, "leastSum", "()I"⟩
abbrev cX2_leastSumOfCharges : ByteArray := prog_4_method_9_code
def yX2_leastSumOfCharges : MethodName := ⟨RX2, "leastSumOfCharges", "()I"⟩
abbrev cX2_spread : ByteArray := prog_4_method_10_code
def yX2_spread : MethodName := ⟨RX2, "spread", "()I"⟩
abbrev cX2_leastSumExchanged : ByteArray := prog_4_method_11_code
def yX2_leastSumExchanged : MethodName := ⟨RX2, "leastSumExchanged", "(II)I"⟩
abbrev cX2_rankByCharge : ByteArray := prog_4_method_12_code
def yX2_rankByCharge : MethodName := ⟨RX2, "rankByCharge", "(I)I"⟩
abbrev cX2_bitsOf : ByteArray := prog_4_method_13_code
def yX2_bitsOf : MethodName := ⟨RX2, "bitsOf", "(I)I"⟩
abbrev cX2_strongestOf : ByteArray := prog_4_method_14_code
def yX2_strongestOf : MethodName := ⟨RX2, "strongestOf", "(I)I"⟩
abbrev cX2_aboveFloor : ByteArray := prog_4_method_15_code
def yX2_aboveFloor : MethodName := ⟨RX2, "aboveFloor", "(I)I"⟩
abbrev cX2_emptyGroups : ByteArray := prog_4_method_16_code
def yX2_emptyGroups : MethodName := ⟨RX2, "emptyGroups", "()I"⟩
abbrev cX2_bledCells : ByteArray := prog_4_method_17_code
def yX2_bledCells : MethodName := ⟨RX2, "bledCells", "()I"⟩
abbrev cX2_greatestCharge : ByteArray := prog_4_method_18_code
def yX2_greatestCharge : MethodName := ⟨RX2, "greatestCharge", "()I"⟩
abbrev cX2_runTicks : ByteArray := prog_4_method_19_code
def yX2_runTicks : MethodName := ⟨RX2, "runTicks", "(I)I"⟩
abbrev cX2_tickLoses : ByteArray := prog_4_method_20_code
def yX2_tickLoses : MethodName := ⟨RX2, "tickLoses", "()Z"⟩
abbrev cX2_strongestLoses : ByteArray := prog_4_method_21_code
def yX2_strongestLoses : MethodName := ⟨RX2, "strongestLoses", "(I)Z"⟩
def RX3 : String := "CellPacks$Sheet"
def TX3 : u_T := fun k => match k with
  | 0 => ("CellPacks$Sheet", "row", "[I", true)
  | 1 => ("CellPacks$Sheet", "lane", "I", false)
  | _ => ("CellPacks$Sheet", "size", "I", false)
def tyX3 : Nat → FieldType := fun k => match k with
  | 0 => .array .int
  | 1 => .int
  | _ => .int
abbrev wsX30 : List Cond := u_ws RX3 TX3 3
theorem nmX3 : ∀ a, a < 3 → ∀ b, b < 3 → a ≠ b → (TX3 a).2.1 ≠ (TX3 b).2.1 := by decide +kernel
theorem tyX3_ok : ∀ k, k < 3 → parseFieldDescriptor (TX3 k).2.2.1 = some (tyX3 k) := by decide +kernel
abbrev cX3_init : ByteArray := prog_5_method_1_code
def yX3_init : MethodName := ⟨RX3, "<init>", "()V"⟩
abbrev cX3_renew : ByteArray := prog_5_method_2_code
def yX3_renew : MethodName := ⟨RX3, "renew", "(II)V"⟩
abbrev cX3_putAt : ByteArray := prog_5_method_3_code
def yX3_putAt : MethodName := ⟨RX3, "putAt", "(II)I"⟩
abbrev cX3_wholePairs : ByteArray := prog_5_method_4_code
def yX3_wholePairs : MethodName := ⟨RX3, "wholePairs", "(III)I"⟩
abbrev cX3_faultAs : ByteArray := prog_5_method_5_code
def yX3_faultAs : MethodName := ⟨RX3, "faultAs", "(I)I"⟩
def RX4 : String := "CellPacks$Tape"
def TX4 : u_T := fun k => match k with
  | 0 => ("CellPacks$Tape", "bytes", "[B", true)
  | _ => ("CellPacks$Tape", "length", "I", false)
def tyX4 : Nat → FieldType := fun k => match k with
  | 0 => .array .byte
  | _ => .int
abbrev wsX40 : List Cond := u_ws RX4 TX4 2
theorem nmX4 : ∀ a, a < 2 → ∀ b, b < 2 → a ≠ b → (TX4 a).2.1 ≠ (TX4 b).2.1 := by decide +kernel
theorem tyX4_ok : ∀ k, k < 2 → parseFieldDescriptor (TX4 k).2.2.1 = some (tyX4 k) := by decide +kernel
abbrev cX4_init : ByteArray := prog_6_method_1_code
def yX4_init : MethodName := ⟨RX4, "<init>", "()V"⟩
abbrev cX4_byteAt : ByteArray := prog_6_method_2_code
def yX4_byteAt : MethodName := ⟨RX4, "byteAt", "(I)I"⟩
abbrev cX4_spells : ByteArray := prog_6_method_3_code
def yX4_spells : MethodName := ⟨RX4, "spells", "(Ljava/lang/String;II)Z"⟩
def RX5 : String := "CellPacks$TextReader"
def TX5 : u_T := fun k => match k with
  | 0 => ("CellPacks$TextReader", "tape", "LCellPacks$Tape;", true)
  | 1 => ("CellPacks$TextReader", "into", "LCellPacks$Pack;", true)
  | 2 => ("CellPacks$TextReader", "fault", "I", false)
  | 3 => ("CellPacks$TextReader", "place", "I", false)
  | 4 => ("CellPacks$TextReader", "kind", "I", false)
  | 5 => ("CellPacks$TextReader", "start", "I", false)
  | 6 => ("CellPacks$TextReader", "next", "I", false)
  | 7 => ("CellPacks$TextReader", "value", "I", false)
  | _ => ("CellPacks$TextReader", "met", "I", false)
def tyX5 : Nat → FieldType := fun k => match k with
  | 0 => .object "CellPacks$Tape"
  | 1 => .object "CellPacks$Pack"
  | 2 => .int
  | 3 => .int
  | 4 => .int
  | 5 => .int
  | 6 => .int
  | 7 => .int
  | _ => .int
abbrev wsX50 : List Cond := u_ws RX5 TX5 9
theorem nmX5 : ∀ a, a < 9 → ∀ b, b < 9 → a ≠ b → (TX5 a).2.1 ≠ (TX5 b).2.1 := by decide +kernel
theorem tyX5_ok : ∀ k, k < 9 → parseFieldDescriptor (TX5 k).2.2.1 = some (tyX5 k) := by decide +kernel
abbrev cX5_init : ByteArray := prog_7_method_1_code
def yX5_init : MethodName := ⟨RX5, "<init>", "(LCellPacks$Tape;LCellPacks$Pack;)V"⟩
abbrev cX5_readAll : ByteArray := prog_7_method_2_code
def yX5_readAll : MethodName := ⟨RX5, "readAll", "()V"⟩
abbrev cX5_readLine : ByteArray := prog_7_method_3_code
def yX5_readLine : MethodName := ⟨RX5, "readLine", "()Z"⟩
abbrev cX5_lineNamed : ByteArray := prog_7_method_4_code
def yX5_lineNamed : MethodName := ⟨RX5, "lineNamed", "()I"⟩
abbrev cX5_nameOf : ByteArray := prog_7_method_5_code
def yX5_nameOf : MethodName := ⟨RX5, "nameOf", "(I)Ljava/lang/String;"⟩
abbrev cX5_readSetting : ByteArray := prog_7_method_6_code
def yX5_readSetting : MethodName := ⟨RX5, "readSetting", "(I)Z"⟩
abbrev cX5_lowestOf : ByteArray := prog_7_method_7_code
def yX5_lowestOf : MethodName := ⟨RX5, "lowestOf", "(I)I"⟩
abbrev cX5_highestOf : ByteArray := prog_7_method_8_code
def yX5_highestOf : MethodName := ⟨RX5, "highestOf", "(I)I"⟩
abbrev cX5_putSetting : ByteArray := prog_7_method_9_code
def yX5_putSetting : MethodName := ⟨RX5, "putSetting", "(I)V"⟩
abbrev cX5_readCells : ByteArray := prog_7_method_10_code
def yX5_readCells : MethodName := ⟨RX5, "readCells", "()Z"⟩
abbrev cX5_nextToken : ByteArray := prog_7_method_11_code
def yX5_nextToken : MethodName := ⟨RX5, "nextToken", "()Z"⟩
abbrev cX5_passRun : ByteArray := prog_7_method_12_code
def yX5_passRun : MethodName := ⟨RX5, "passRun", "(II)V"⟩
abbrev cX5_takeValue : ByteArray := prog_7_method_13_code
def yX5_takeValue : MethodName := ⟨RX5, "takeValue", "()Z"⟩
abbrev cX5_fail : ByteArray := prog_7_method_14_code
def yX5_fail : MethodName := ⟨RX5, "fail", "(I)Z"⟩
def RX6 : String := "CellPacks$Ways"
def TX6 : u_T := fun k => match k with
  | 0 => ("CellPacks$Ways", "homes", "[I", true)
  | 1 => ("CellPacks$Ways", "sums", "[I", true)
  | 2 => ("CellPacks$Ways", "order", "[I", true)
  | 3 => ("CellPacks$Ways", "differences", "LCellPacks$Differences;", true)
  | _ => ("CellPacks$Ways", "best", "LCellPacks$BestSearch;", true)
def tyX6 : Nat → FieldType := fun k => match k with
  | 0 => .array .int
  | 1 => .array .int
  | 2 => .array .int
  | 3 => .object "CellPacks$Differences"
  | _ => .object "CellPacks$BestSearch"
abbrev wsX60 : List Cond := u_ws RX6 TX6 5
theorem nmX6 : ∀ a, a < 5 → ∀ b, b < 5 → a ≠ b → (TX6 a).2.1 ≠ (TX6 b).2.1 := by decide +kernel
theorem tyX6_ok : ∀ k, k < 5 → parseFieldDescriptor (TX6 k).2.2.1 = some (tyX6 k) := by decide +kernel
abbrev cX6_init : ByteArray := prog_8_method_1_code
def yX6_init : MethodName := ⟨RX6, "<init>", "()V"⟩
abbrev cX6_choose : ByteArray := prog_8_method_2_code
def yX6_choose : MethodName := ⟨RX6, "choose", "(LCellPacks$Pack;I)V"⟩
abbrev cX6_byTurns : ByteArray := prog_8_method_3_code
def yX6_byTurns : MethodName := ⟨RX6, "byTurns", "(LCellPacks$Pack;)V"⟩
abbrev cX6_byWeakest : ByteArray := prog_8_method_4_code
def yX6_byWeakest : MethodName := ⟨RX6, "byWeakest", "(LCellPacks$Pack;)V"⟩
abbrev cX6_leastSum : ByteArray := prog_8_method_5_code
def yX6_leastSum : MethodName := ⟨RX6, "leastSum", "(LCellPacks$Pack;)I"⟩
abbrev cX6_spread : ByteArray := prog_8_method_6_code
def yX6_spread : MethodName := ⟨RX6, "spread", "(LCellPacks$Pack;)I"⟩
abbrev cX6_strangers : ByteArray := prog_8_method_7_code
def yX6_strangers : MethodName := ⟨RX6, "strangers", "(LCellPacks$Pack;)I"⟩
def RX7 : String := "CellPacks"
def TX7 : u_T := fun k => match k with
  | 0 => ("CellPacks", "tape", "LCellPacks$Tape;", true)
  | 1 => ("CellPacks", "pack", "LCellPacks$Pack;", true)
  | 2 => ("CellPacks", "draft", "LCellPacks$Pack;", true)
  | 3 => ("CellPacks", "reader", "LCellPacks$TextReader;", true)
  | 4 => ("CellPacks", "images", "[LCellPacks$Pack;", true)
  | 5 => ("CellPacks", "kept", "[Z", true)
  | 6 => ("CellPacks", "ways", "LCellPacks$Ways;", true)
  | 7 => ("CellPacks", "sheets", "[LCellPacks$Sheet;", true)
  | 8 => ("CellPacks", "textFault", "I", false)
  | _ => ("CellPacks", "readFault", "I", false)
def tyX7 : Nat → FieldType := fun k => match k with
  | 0 => .object "CellPacks$Tape"
  | 1 => .object "CellPacks$Pack"
  | 2 => .object "CellPacks$Pack"
  | 3 => .object "CellPacks$TextReader"
  | 4 => .array (.object "CellPacks$Pack")
  | 5 => .array .boolean
  | 6 => .object "CellPacks$Ways"
  | 7 => .array (.object "CellPacks$Sheet")
  | 8 => .int
  | _ => .int
abbrev wsX70 : List Cond := u_ws RX7 TX7 10
theorem nmX7 : ∀ a, a < 10 → ∀ b, b < 10 → a ≠ b → (TX7 a).2.1 ≠ (TX7 b).2.1 := by decide +kernel
theorem tyX7_ok : ∀ k, k < 10 → parseFieldDescriptor (TX7 k).2.2.1 = some (tyX7 k) := by decide +kernel
abbrev cX7_init : ByteArray := prog_1_method_1_code
def yX7_init : MethodName := ⟨RX7, "<init>", "()V"⟩
abbrev cX7_feed : ByteArray := prog_1_method_2_code
def yX7_feed : MethodName := ⟨RX7, "feed", "(I)I"⟩
abbrev cX7_end : ByteArray := prog_1_method_3_code
def yX7_end : MethodName := ⟨RX7, "end", "(I)I"⟩
abbrev cX7_text : ByteArray := prog_1_method_4_code
def yX7_text : MethodName := ⟨RX7, "text", "()I"⟩
abbrev cX7_fault : ByteArray := prog_1_method_5_code
def yX7_fault : MethodName := ⟨RX7, "fault", "()I"⟩
abbrev cX7_rule : ByteArray := prog_1_method_6_code
def yX7_rule : MethodName := ⟨RX7, "rule", "(I)I"⟩
abbrev cX7_cell : ByteArray := prog_1_method_7_code
def yX7_cell : MethodName := ⟨RX7, "cell", "(II)I"⟩
abbrev cX7_group : ByteArray := prog_1_method_8_code
def yX7_group : MethodName := ⟨RX7, "group", "(II)I"⟩
abbrev cX7_take : ByteArray := prog_1_method_9_code
def yX7_take : MethodName := ⟨RX7, "take", "(I)I"⟩
abbrev cX7_would : ByteArray := prog_1_method_10_code
def yX7_would : MethodName := ⟨RX7, "would", "(II)I"⟩
abbrev cX7_where : ByteArray := prog_1_method_11_code
def yX7_where : MethodName := ⟨RX7, "where", "(II)I"⟩
abbrev cX7_bound : ByteArray := prog_1_method_12_code
def yX7_bound : MethodName := ⟨RX7, "bound", "(I)I"⟩
abbrev cX7_joined : ByteArray := prog_1_method_13_code
def yX7_joined : MethodName := ⟨RX7, "joined", "(I)I"⟩
abbrev cX7_move : ByteArray := prog_1_method_14_code
def yX7_move : MethodName := ⟨RX7, "move", "(II)I"⟩
abbrev cX7_swap : ByteArray := prog_1_method_15_code
def yX7_swap : MethodName := ⟨RX7, "swap", "(II)I"⟩
abbrev cX7_better : ByteArray := prog_1_method_16_code
def yX7_better : MethodName := ⟨RX7, "better", "()I"⟩
abbrev cX7_add : ByteArray := prog_1_method_17_code
def yX7_add : MethodName := ⟨RX7, "add", "(I)I"⟩
abbrev cX7_drop : ByteArray := prog_1_method_18_code
def yX7_drop : MethodName := ⟨RX7, "drop", "(I)I"⟩
abbrev cX7_set : ByteArray := prog_1_method_19_code
def yX7_set : MethodName := ⟨RX7, "set", "(II)I"⟩
abbrev cX7_rate : ByteArray := prog_1_method_20_code
def yX7_rate : MethodName := ⟨RX7, "rate", "(II)I"⟩
abbrev cX7_groups : ByteArray := prog_1_method_21_code
def yX7_groups : MethodName := ⟨RX7, "groups", "(I)I"⟩
abbrev cX7_bleed : ByteArray := prog_1_method_22_code
def yX7_bleed : MethodName := ⟨RX7, "bleed", "(I)I"⟩
abbrev cX7_plan : ByteArray := prog_1_method_23_code
def yX7_plan : MethodName := ⟨RX7, "plan", "(I)I"⟩
abbrev cX7_fill : ByteArray := prog_1_method_24_code
def yX7_fill : MethodName := ⟨RX7, "fill", "()I"⟩
abbrev cX7_draw : ByteArray := prog_1_method_25_code
def yX7_draw : MethodName := ⟨RX7, "draw", "(II)I"⟩
abbrev cX7_keep : ByteArray := prog_1_method_26_code
def yX7_keep : MethodName := ⟨RX7, "keep", "(I)I"⟩
abbrev cX7_back : ByteArray := prog_1_method_27_code
def yX7_back : MethodName := ⟨RX7, "back", "(I)I"⟩
abbrev cX7_sheet : ByteArray := prog_1_method_28_code
def yX7_sheet : MethodName := ⟨RX7, "sheet", "(III)I"⟩
abbrev cX7_lay : ByteArray := prog_1_method_29_code
def yX7_lay : MethodName := ⟨RX7, "lay", "(III)I"⟩
abbrev cX7_read : ByteArray := prog_1_method_30_code
def yX7_read : MethodName := ⟨RX7, "read", "(IIII)I"⟩
abbrev cX7_torn : ByteArray := prog_1_method_31_code
def yX7_torn : MethodName := ⟨RX7, "torn", "()I"⟩
abbrev cX7_count : ByteArray := prog_1_method_32_code
def yX7_count : MethodName := ⟨RX7, "count", "(I)I"⟩
abbrev cX7_within : ByteArray := prog_1_method_33_code
def yX7_within : MethodName := ⟨RX7, "within", "(III)Z"⟩
abbrev cX7_isCell : ByteArray := prog_1_method_34_code
def yX7_isCell : MethodName := ⟨RX7, "isCell", "(I)Z"⟩
abbrev cX7_isGroup : ByteArray := prog_1_method_35_code
def yX7_isGroup : MethodName := ⟨RX7, "isGroup", "(I)Z"⟩
abbrev cX7_isWay : ByteArray := prog_1_method_36_code
def yX7_isWay : MethodName := ⟨RX7, "isWay", "(I)Z"⟩
abbrev cX7_wayIsOpen : ByteArray := prog_1_method_37_code
def yX7_wayIsOpen : MethodName := ⟨RX7, "wayIsOpen", "(I)Z"⟩
abbrev cX7_isImage : ByteArray := prog_1_method_38_code
def yX7_isImage : MethodName := ⟨RX7, "isImage", "(I)Z"⟩
abbrev cX7_isSheet : ByteArray := prog_1_method_39_code
def yX7_isSheet : MethodName := ⟨RX7, "isSheet", "(I)Z"⟩
abbrev cX7_isLane : ByteArray := prog_1_method_40_code
def yX7_isLane : MethodName := ⟨RX7, "isLane", "(I)Z"⟩
abbrev cX7_regroup : ByteArray := prog_1_method_41_code
def yX7_regroup : MethodName := ⟨RX7, "regroup", "(I)V"⟩
abbrev cX7_waysThatReach : ByteArray := prog_1_method_42_code
def yX7_waysThatReach : MethodName := ⟨RX7, "waysThatReach", "(I)I"⟩
abbrev cX7_forgetImages : ByteArray := prog_1_method_43_code
def yX7_forgetImages : MethodName := ⟨RX7, "forgetImages", "()V"⟩
abbrev cX7_keptImages : ByteArray := prog_1_method_44_code
def yX7_keptImages : MethodName := ⟨RX7, "keptImages", "()I"⟩
abbrev cX7_total : ByteArray := prog_1_method_45_code
def yX7_total : MethodName := ⟨RX7, "total", "([II)I"⟩
abbrev cX7_sumUp : ByteArray := prog_1_method_46_code
def yX7_sumUp : MethodName := ⟨RX7, "sumUp", "([I[II[I)V"⟩
abbrev cX7_firstLeast : ByteArray := prog_1_method_47_code
def yX7_firstLeast : MethodName := ⟨RX7, "firstLeast", "([II)I"⟩
abbrev cX7_greatest : ByteArray := prog_1_method_48_code
def yX7_greatest : MethodName := ⟨RX7, "greatest", "([II)I"⟩
def RX8 : String := "CellPacksModel"
def TX8 : u_T := fun k => match k with
  | 0 => ("CellPacksModel", "st", "[I", true)
  | 1 => ("CellPacksModel", "kept", "[I", true)
  | 2 => ("CellPacksModel", "isKept", "[Z", true)
  | 3 => ("CellPacksModel", "before", "[I", true)
  | 4 => ("CellPacksModel", "draft", "[I", true)
  | 5 => ("CellPacksModel", "tape", "[I", true)
  | 6 => ("CellPacksModel", "isTold", "[Z", true)
  | 7 => ("CellPacksModel", "taped", "I", false)
  | 8 => ("CellPacksModel", "pos", "I", false)
  | 9 => ("CellPacksModel", "begun", "I", false)
  | 10 => ("CellPacksModel", "sort", "I", false)
  | 11 => ("CellPacksModel", "figure", "I", false)
  | 12 => ("CellPacksModel", "fault", "I", false)
  | 13 => ("CellPacksModel", "wrongAt", "I", false)
  | 14 => ("CellPacksModel", "sums", "[I", true)
  | 15 => ("CellPacksModel", "by", "[I", true)
  | 16 => ("CellPacksModel", "bundles", "[I", true)
  | 17 => ("CellPacksModel", "isPart", "[Z", true)
  | 18 => ("CellPacksModel", "joinedFirst", "[I", true)
  | 19 => ("CellPacksModel", "joinedSecond", "[I", true)
  | 20 => ("CellPacksModel", "bestBy", "[I", true)
  | 21 => ("CellPacksModel", "joinedMany", "I", false)
  | 22 => ("CellPacksModel", "lanes", "[I", true)
  | 23 => ("CellPacksModel", "sizes", "[I", true)
  | 24 => ("CellPacksModel", "cells", "[I", true)
  | _ => ("CellPacksModel", "torn", "I", false)
def tyX8 : Nat → FieldType := fun k => match k with
  | 0 => .array .int
  | 1 => .array .int
  | 2 => .array .boolean
  | 3 => .array .int
  | 4 => .array .int
  | 5 => .array .int
  | 6 => .array .boolean
  | 7 => .int
  | 8 => .int
  | 9 => .int
  | 10 => .int
  | 11 => .int
  | 12 => .int
  | 13 => .int
  | 14 => .array .int
  | 15 => .array .int
  | 16 => .array .int
  | 17 => .array .boolean
  | 18 => .array .int
  | 19 => .array .int
  | 20 => .array .int
  | 21 => .int
  | 22 => .array .int
  | 23 => .array .int
  | 24 => .array .int
  | _ => .int
abbrev wsX80 : List Cond := u_ws RX8 TX8 26
theorem nmX8 : ∀ a, a < 26 → ∀ b, b < 26 → a ≠ b → (TX8 a).2.1 ≠ (TX8 b).2.1 := by decide +kernel
theorem tyX8_ok : ∀ k, k < 26 → parseFieldDescriptor (TX8 k).2.2.1 = some (tyX8 k) := by decide +kernel
abbrev cX8_init : ByteArray := prog_10_method_1_code
def yX8_init : MethodName := ⟨RX8, "<init>", "()V"⟩
abbrev cX8_in : ByteArray := prog_10_method_3_code
def yX8_in : MethodName := ⟨RX8, "in", "(JJJ)Z"⟩
abbrev cX8_flag : ByteArray := prog_10_method_4_code
def yX8_flag : MethodName := ⟨RX8, "flag", "(Z)I"⟩
abbrev cX8_firstDraft : ByteArray := prog_10_method_5_code
def yX8_firstDraft : MethodName := ⟨RX8, "firstDraft", "()V"⟩
abbrev cX8_feed : ByteArray := prog_10_method_6_code
def yX8_feed : MethodName := ⟨RX8, "feed", "(I)I"⟩
abbrev cX8_end : ByteArray := prog_10_method_7_code
def yX8_end : MethodName := ⟨RX8, "end", "(I)I"⟩
abbrev cX8_requires : ByteArray := prog_10_method_8_code
def yX8_requires : MethodName := ⟨RX8, "requires", "(ZI)V"⟩
abbrev cX8_byteAt : ByteArray := prog_10_method_9_code
def yX8_byteAt : MethodName := ⟨RX8, "byteAt", "(I)I"⟩
abbrev cX8_is : ByteArray := prog_10_method_10_code
def yX8_is : MethodName := ⟨RX8, "is", "(IIIII)Z"⟩
abbrev cX8_lineNow : ByteArray := prog_10_method_11_code
def yX8_lineNow : MethodName := ⟨RX8, "lineNow", "()I"⟩
abbrev cX8_reads : ByteArray := prog_10_method_12_code
def yX8_reads : MethodName := ⟨RX8, "reads", "()V"⟩
abbrev cX8_leastOf : ByteArray := prog_10_method_13_code
def yX8_leastOf : MethodName := ⟨RX8, "leastOf", "(I)I"⟩
abbrev cX8_mostOf : ByteArray := prog_10_method_14_code
def yX8_mostOf : MethodName := ⟨RX8, "mostOf", "(I)I"⟩
abbrev cX8_readNumber : ByteArray := prog_10_method_15_code
def yX8_readNumber : MethodName := ⟨RX8, "readNumber", "(II)I"⟩
abbrev cX8_readCell : ByteArray := prog_10_method_16_code
def yX8_readCell : MethodName := ⟨RX8, "readCell", "()V"⟩
abbrev cX8_readLine : ByteArray := prog_10_method_17_code
def yX8_readLine : MethodName := ⟨RX8, "readLine", "()V"⟩
abbrev cX8_text : ByteArray := prog_10_method_18_code
def yX8_text : MethodName := ⟨RX8, "text", "()I"⟩
abbrev cX8_fault : ByteArray := prog_10_method_19_code
def yX8_fault : MethodName := ⟨RX8, "fault", "()I"⟩
abbrev cX8_isCell : ByteArray := prog_10_method_20_code
def yX8_isCell : MethodName := ⟨RX8, "isCell", "(I)Z"⟩
abbrev cX8_isGroup : ByteArray := prog_10_method_21_code
def yX8_isGroup : MethodName := ⟨RX8, "isGroup", "(I)Z"⟩
abbrev cX8_sumNow : ByteArray := prog_10_method_22_code
def yX8_sumNow : MethodName := ⟨RX8, "sumNow", "(I)V"⟩
abbrev cX8_sumFound : ByteArray := prog_10_method_23_code
def yX8_sumFound : MethodName := ⟨RX8, "sumFound", "()V"⟩
abbrev cX8_weakest : ByteArray := prog_10_method_24_code
def yX8_weakest : MethodName := ⟨RX8, "weakest", "()I"⟩
abbrev cX8_least : ByteArray := prog_10_method_25_code
def yX8_least : MethodName := ⟨RX8, "least", "()I"⟩
abbrev cX8_greatest : ByteArray := prog_10_method_26_code
def yX8_greatest : MethodName := ⟨RX8, "greatest", "()I"⟩
abbrev cX8_spreadNow : ByteArray := prog_10_method_27_code
def yX8_spreadNow : MethodName := ⟨RX8, "spreadNow", "()I"⟩
abbrev cX8_all : ByteArray := prog_10_method_28_code
def yX8_all : MethodName := ⟨RX8, "all", "(I)I"⟩
abbrev cX8_weakestNow : ByteArray := prog_10_method_29_code
def yX8_weakestNow : MethodName := ⟨RX8, "weakestNow", "()I"⟩
abbrev cX8_leastNow : ByteArray := prog_10_method_30_code
def yX8_leastNow : MethodName := ⟨RX8, "leastNow", "(I)I"⟩
abbrev cX8_rule : ByteArray := prog_10_method_31_code
def yX8_rule : MethodName := ⟨RX8, "rule", "(I)I"⟩
abbrev cX8_rankOf : ByteArray := prog_10_method_32_code
def yX8_rankOf : MethodName := ⟨RX8, "rankOf", "(I)I"⟩
abbrev cX8_cell : ByteArray := prog_10_method_33_code
def yX8_cell : MethodName := ⟨RX8, "cell", "(II)I"⟩
abbrev cX8_strongest : ByteArray := prog_10_method_34_code
def yX8_strongest : MethodName := ⟨RX8, "strongest", "(I)I"⟩
abbrev cX8_cellsOf : ByteArray := prog_10_method_35_code
def yX8_cellsOf : MethodName := ⟨RX8, "cellsOf", "(IZ)I"⟩
abbrev cX8_aboveFloor : ByteArray := prog_10_method_36_code
def yX8_aboveFloor : MethodName := ⟨RX8, "aboveFloor", "(I)I"⟩
abbrev cX8_sumOf : ByteArray := prog_10_method_37_code
def yX8_sumOf : MethodName := ⟨RX8, "sumOf", "(I)I"⟩
abbrev cX8_group : ByteArray := prog_10_method_38_code
def yX8_group : MethodName := ⟨RX8, "group", "(II)I"⟩
abbrev cX8_findTurns : ByteArray := prog_10_method_39_code
def yX8_findTurns : MethodName := ⟨RX8, "findTurns", "()V"⟩
abbrev cX8_findWeakest : ByteArray := prog_10_method_40_code
def yX8_findWeakest : MethodName := ⟨RX8, "findWeakest", "()V"⟩
abbrev cX8_holds : ByteArray := prog_10_method_41_code
def yX8_holds : MethodName := ⟨RX8, "holds", "(I)I"⟩
abbrev cX8_isAhead : ByteArray := prog_10_method_42_code
def yX8_isAhead : MethodName := ⟨RX8, "isAhead", "(II)Z"⟩
abbrev cX8_differenceOf : ByteArray := prog_10_method_43_code
def yX8_differenceOf : MethodName := ⟨RX8, "differenceOf", "(I)I"⟩
abbrev cX8_widest : ByteArray := prog_10_method_44_code
def yX8_widest : MethodName := ⟨RX8, "widest", "(I)I"⟩
abbrev cX8_order : ByteArray := prog_10_method_45_code
def yX8_order : MethodName := ⟨RX8, "order", "(I)V"⟩
abbrev cX8_join : ByteArray := prog_10_method_46_code
def yX8_join : MethodName := ⟨RX8, "join", "(II)V"⟩
abbrev cX8_findDifferences : ByteArray := prog_10_method_47_code
def yX8_findDifferences : MethodName := ⟨RX8, "findDifferences", "()V"⟩
abbrev cX8_steps : ByteArray := prog_10_method_48_code
def yX8_steps : MethodName := ⟨RX8, "steps", "()Z"⟩
abbrev cX8_findBest : ByteArray := prog_10_method_49_code
def yX8_findBest : MethodName := ⟨RX8, "findBest", "()V"⟩
abbrev cX8_find : ByteArray := prog_10_method_50_code
def yX8_find : MethodName := ⟨RX8, "find", "(I)V"⟩
abbrev cX8_takeFound : ByteArray := prog_10_method_51_code
def yX8_takeFound : MethodName := ⟨RX8, "takeFound", "()V"⟩
abbrev cX8_byTurns : ByteArray := prog_10_method_52_code
def yX8_byTurns : MethodName := ⟨RX8, "byTurns", "()V"⟩
abbrev cX8_isWay : ByteArray := prog_10_method_53_code
def yX8_isWay : MethodName := ⟨RX8, "isWay", "(I)Z"⟩
abbrev cX8_isTooMuch : ByteArray := prog_10_method_54_code
def yX8_isTooMuch : MethodName := ⟨RX8, "isTooMuch", "(I)Z"⟩
abbrev cX8_take : ByteArray := prog_10_method_55_code
def yX8_take : MethodName := ⟨RX8, "take", "(I)I"⟩
abbrev cX8_moved : ByteArray := prog_10_method_56_code
def yX8_moved : MethodName := ⟨RX8, "moved", "()I"⟩
abbrev cX8_would : ByteArray := prog_10_method_57_code
def yX8_would : MethodName := ⟨RX8, "would", "(II)I"⟩
abbrev cX8_where : ByteArray := prog_10_method_58_code
def yX8_where : MethodName := ⟨RX8, "where", "(II)I"⟩
abbrev cX8_boundNow : ByteArray := prog_10_method_59_code
def yX8_boundNow : MethodName := ⟨RX8, "boundNow", "()I"⟩
abbrev cX8_reaching : ByteArray := prog_10_method_60_code
def yX8_reaching : MethodName := ⟨RX8, "reaching", "()I"⟩
abbrev cX8_bound : ByteArray := prog_10_method_61_code
def yX8_bound : MethodName := ⟨RX8, "bound", "(I)I"⟩
abbrev cX8_joined : ByteArray := prog_10_method_62_code
def yX8_joined : MethodName := ⟨RX8, "joined", "(I)I"⟩
abbrev cX8_move : ByteArray := prog_10_method_63_code
def yX8_move : MethodName := ⟨RX8, "move", "(II)I"⟩
abbrev cX8_exchange : ByteArray := prog_10_method_64_code
def yX8_exchange : MethodName := ⟨RX8, "exchange", "(II)V"⟩
abbrev cX8_swap : ByteArray := prog_10_method_65_code
def yX8_swap : MethodName := ⟨RX8, "swap", "(II)I"⟩
abbrev cX8_better : ByteArray := prog_10_method_66_code
def yX8_better : MethodName := ⟨RX8, "better", "()I"⟩
abbrev cX8_comes : ByteArray := prog_10_method_67_code
def yX8_comes : MethodName := ⟨RX8, "comes", "(I)V"⟩
abbrev cX8_add : ByteArray := prog_10_method_68_code
def yX8_add : MethodName := ⟨RX8, "add", "(I)I"⟩
abbrev cX8_drop : ByteArray := prog_10_method_69_code
def yX8_drop : MethodName := ⟨RX8, "drop", "(I)I"⟩
abbrev cX8_set : ByteArray := prog_10_method_70_code
def yX8_set : MethodName := ⟨RX8, "set", "(II)I"⟩
abbrev cX8_rate : ByteArray := prog_10_method_71_code
def yX8_rate : MethodName := ⟨RX8, "rate", "(II)I"⟩
abbrev cX8_groups : ByteArray := prog_10_method_72_code
def yX8_groups : MethodName := ⟨RX8, "groups", "(I)I"⟩
abbrev cX8_ticks : ByteArray := prog_10_method_73_code
def yX8_ticks : MethodName := ⟨RX8, "ticks", "()Z"⟩
abbrev cX8_ticksOn : ByteArray := prog_10_method_74_code
def yX8_ticksOn : MethodName := ⟨RX8, "ticksOn", "(I)I"⟩
abbrev cX8_bleed : ByteArray := prog_10_method_75_code
def yX8_bleed : MethodName := ⟨RX8, "bleed", "(I)I"⟩
abbrev cX8_plan : ByteArray := prog_10_method_76_code
def yX8_plan : MethodName := ⟨RX8, "plan", "(I)I"⟩
abbrev cX8_fill : ByteArray := prog_10_method_77_code
def yX8_fill : MethodName := ⟨RX8, "fill", "()I"⟩
abbrev cX8_draw : ByteArray := prog_10_method_78_code
def yX8_draw : MethodName := ⟨RX8, "draw", "(II)I"⟩
abbrev cX8_keepBefore : ByteArray := prog_10_method_79_code
def yX8_keepBefore : MethodName := ⟨RX8, "keepBefore", "()V"⟩
abbrev cX8_backBefore : ByteArray := prog_10_method_80_code
def yX8_backBefore : MethodName := ⟨RX8, "backBefore", "()V"⟩
abbrev cX8_keep : ByteArray := prog_10_method_81_code
def yX8_keep : MethodName := ⟨RX8, "keep", "(I)I"⟩
abbrev cX8_back : ByteArray := prog_10_method_82_code
def yX8_back : MethodName := ⟨RX8, "back", "(I)I"⟩
abbrev cX8_isSheet : ByteArray := prog_10_method_83_code
def yX8_isSheet : MethodName := ⟨RX8, "isSheet", "(II)Z"⟩
abbrev cX8_sheet : ByteArray := prog_10_method_84_code
def yX8_sheet : MethodName := ⟨RX8, "sheet", "(III)I"⟩
abbrev cX8_lay : ByteArray := prog_10_method_85_code
def yX8_lay : MethodName := ⟨RX8, "lay", "(III)I"⟩
abbrev cX8_read : ByteArray := prog_10_method_86_code
def yX8_read : MethodName := ⟨RX8, "read", "(IIII)I"⟩
abbrev cX8_torn : ByteArray := prog_10_method_87_code
def yX8_torn : MethodName := ⟨RX8, "torn", "()I"⟩
abbrev cX8_emptyGroups : ByteArray := prog_10_method_88_code
def yX8_emptyGroups : MethodName := ⟨RX8, "emptyGroups", "()I"⟩
abbrev cX8_bledCells : ByteArray := prog_10_method_89_code
def yX8_bledCells : MethodName := ⟨RX8, "bledCells", "()I"⟩
abbrev cX8_greatestCharge : ByteArray := prog_10_method_90_code
def yX8_greatestCharge : MethodName := ⟨RX8, "greatestCharge", "()I"⟩
abbrev cX8_count : ByteArray := prog_10_method_91_code
def yX8_count : MethodName := ⟨RX8, "count", "(I)I"⟩
def RJx145de : String := "java/io/Serializable"
def TJx145de : u_T := fun k => match k with
  | _ => ("", "", "", false)
def tyJx145de : Nat → FieldType := fun k => match k with
  | _ => .int
abbrev wsJx145de0 : List Cond := u_ws RJx145de TJx145de 0
theorem nmJx145de : ∀ a, a < 0 → ∀ b, b < 0 → a ≠ b → (TJx145de a).2.1 ≠ (TJx145de b).2.1 := by decide +kernel
theorem tyJx145de_ok : ∀ k, k < 0 → parseFieldDescriptor (TJx145de k).2.2.1 = some (tyJx145de k) := by decide +kernel
def RJx9f9b0 : String := "java/lang/CharSequence"
def TJx9f9b0 : u_T := fun k => match k with
  | _ => ("", "", "", false)
def tyJx9f9b0 : Nat → FieldType := fun k => match k with
  | _ => .int
abbrev wsJx9f9b00 : List Cond := u_ws RJx9f9b0 TJx9f9b0 0
theorem nmJx9f9b0 : ∀ a, a < 0 → ∀ b, b < 0 → a ≠ b → (TJx9f9b0 a).2.1 ≠ (TJx9f9b0 b).2.1 := by decide +kernel
theorem tyJx9f9b0_ok : ∀ k, k < 0 → parseFieldDescriptor (TJx9f9b0 k).2.2.1 = some (tyJx9f9b0 k) := by decide +kernel
def RJxb160c : String := "java/lang/Comparable"
def TJxb160c : u_T := fun k => match k with
  | _ => ("", "", "", false)
def tyJxb160c : Nat → FieldType := fun k => match k with
  | _ => .int
abbrev wsJxb160c0 : List Cond := u_ws RJxb160c TJxb160c 0
theorem nmJxb160c : ∀ a, a < 0 → ∀ b, b < 0 → a ≠ b → (TJxb160c a).2.1 ≠ (TJxb160c b).2.1 := by decide +kernel
theorem tyJxb160c_ok : ∀ k, k < 0 → parseFieldDescriptor (TJxb160c k).2.2.1 = some (tyJxb160c k) := by decide +kernel
def RJ6 : String := "java/lang/Integer"
def TJ6 : u_T := fun k => match k with
  | _ => ("", "", "", false)
def tyJ6 : Nat → FieldType := fun k => match k with
  | _ => .int
abbrev wsJ60 : List Cond := u_ws RJ6 TJ6 0
theorem nmJ6 : ∀ a, a < 0 → ∀ b, b < 0 → a ≠ b → (TJ6 a).2.1 ≠ (TJ6 b).2.1 := by decide +kernel
theorem tyJ6_ok : ∀ k, k < 0 → parseFieldDescriptor (TJ6 k).2.2.1 = some (tyJ6 k) := by decide +kernel
abbrev cJ6_bitCount_0f7a4 : ByteArray := prog_11_method_49_code
def yJ6_bitCount_0f7a4 : MethodName := ⟨RJ6, "bitCount", "(I)I"⟩
def RJ9 : String := "java/lang/Math"
def TJ9 : u_T := fun k => match k with
  | _ => ("", "", "", false)
def tyJ9 : Nat → FieldType := fun k => match k with
  | _ => .int
abbrev wsJ90 : List Cond := u_ws RJ9 TJ9 0
theorem nmJ9 : ∀ a, a < 0 → ∀ b, b < 0 → a ≠ b → (TJ9 a).2.1 ≠ (TJ9 b).2.1 := by decide +kernel
theorem tyJ9_ok : ∀ k, k < 0 → parseFieldDescriptor (TJ9 k).2.2.1 = some (tyJ9 k) := by decide +kernel
abbrev cJ9_max_7cf53 : ByteArray := prog_12_method_65_code
def yJ9_max_7cf53 : MethodName := ⟨RJ9, "max", "(II)I"⟩
abbrev cJ9_min_7cf53 : ByteArray := prog_12_method_69_code
def yJ9_min_7cf53 : MethodName := ⟨RJ9, "min", "(II)I"⟩
def RJ0 : String := "java/lang/String"
def TJ0 : u_T := fun k => match k with
  | _ => ("", "", "", false)
def tyJ0 : Nat → FieldType := fun k => match k with
  | _ => .int
abbrev wsJ00 : List Cond := u_ws RJ0 TJ0 0
theorem nmJ0 : ∀ a, a < 0 → ∀ b, b < 0 → a ≠ b → (TJ0 a).2.1 ≠ (TJ0 b).2.1 := by decide +kernel
theorem tyJ0_ok : ∀ k, k < 0 → parseFieldDescriptor (TJ0 k).2.2.1 = some (tyJ0 k) := by decide +kernel
abbrev cJ0_length_8abf5 : ByteArray := prog_13_method_54_code
def yJ0_length_8abf5 : MethodName := ⟨RJ0, "length", "()I"⟩
abbrev cJ0_charAt_5068e : ByteArray := prog_13_method_56_code
def yJ0_charAt_5068e : MethodName := ⟨RJ0, "charAt", "(I)C"⟩
abbrev cJ0_coder_7d493 : ByteArray := prog_13_method_152_code
def yJ0_coder_7d493 : MethodName := ⟨RJ0, "coder", "()B"⟩
abbrev cJ0_isLatin1_aae02 : ByteArray := prog_13_method_154_code
def yJ0_isLatin1_aae02 : MethodName := ⟨RJ0, "isLatin1", "()Z"⟩
abbrev cJ0_checkIndex_df160 : ByteArray := prog_13_method_155_code
def yJ0_checkIndex_df160 : MethodName := ⟨RJ0, "checkIndex", "(II)V"⟩
def RJ1 : String := "java/lang/StringLatin1"
def TJ1 : u_T := fun k => match k with
  | _ => ("", "", "", false)
def tyJ1 : Nat → FieldType := fun k => match k with
  | _ => .int
abbrev wsJ10 : List Cond := u_ws RJ1 TJ1 0
theorem nmJ1 : ∀ a, a < 0 → ∀ b, b < 0 → a ≠ b → (TJ1 a).2.1 ≠ (TJ1 b).2.1 := by decide +kernel
theorem tyJ1_ok : ∀ k, k < 0 → parseFieldDescriptor (TJ1 k).2.2.1 = some (tyJ1 k) := by decide +kernel
abbrev cJ1_charAt_3b067 : ByteArray := prog_14_method_2_code
def yJ1_charAt_3b067 : MethodName := ⟨RJ1, "charAt", "([BI)C"⟩
def RJ2 : String := "java/lang/StringUTF16"
def TJ2 : u_T := fun k => match k with
  | _ => ("", "", "", false)
def tyJ2 : Nat → FieldType := fun k => match k with
  | _ => .int
abbrev wsJ20 : List Cond := u_ws RJ2 TJ2 0
theorem nmJ2 : ∀ a, a < 0 → ∀ b, b < 0 → a ≠ b → (TJ2 a).2.1 ≠ (TJ2 b).2.1 := by decide +kernel
theorem tyJ2_ok : ∀ k, k < 0 → parseFieldDescriptor (TJ2 k).2.2.1 = some (tyJ2 k) := by decide +kernel
abbrev cJ2_getChar_3b067 : ByteArray := prog_15_method_5_code
def yJ2_getChar_3b067 : MethodName := ⟨RJ2, "getChar", "([BI)C"⟩
abbrev cJ2_length_9d52b : ByteArray := prog_15_method_6_code
def yJ2_length_9d52b : MethodName := ⟨RJ2, "length", "([B)I"⟩
abbrev cJ2_charAt_3b067 : ByteArray := prog_15_method_83_code
def yJ2_charAt_3b067 : MethodName := ⟨RJ2, "charAt", "([BI)C"⟩
abbrev cJ2_checkIndex_2214a : ByteArray := prog_15_method_91_code
def yJ2_checkIndex_2214a : MethodName := ⟨RJ2, "checkIndex", "(I[B)V"⟩
def RJ10 : String := "java/lang/System"
def TJ10 : u_T := fun k => match k with
  | _ => ("", "", "", false)
def tyJ10 : Nat → FieldType := fun k => match k with
  | _ => .int
abbrev wsJ100 : List Cond := u_ws RJ10 TJ10 0
theorem nmJ10 : ∀ a, a < 0 → ∀ b, b < 0 → a ≠ b → (TJ10 a).2.1 ≠ (TJ10 b).2.1 := by decide +kernel
theorem tyJ10_ok : ∀ k, k < 0 → parseFieldDescriptor (TJ10 k).2.2.1 = some (tyJ10 k) := by decide +kernel
def RJxfd54e : String := "java/lang/constant/Constable"
def TJxfd54e : u_T := fun k => match k with
  | _ => ("", "", "", false)
def tyJxfd54e : Nat → FieldType := fun k => match k with
  | _ => .int
abbrev wsJxfd54e0 : List Cond := u_ws RJxfd54e TJxfd54e 0
theorem nmJxfd54e : ∀ a, a < 0 → ∀ b, b < 0 → a ≠ b → (TJxfd54e a).2.1 ≠ (TJxfd54e b).2.1 := by decide +kernel
theorem tyJxfd54e_ok : ∀ k, k < 0 → parseFieldDescriptor (TJxfd54e k).2.2.1 = some (tyJxfd54e k) := by decide +kernel
def RJx3cf43 : String := "java/lang/constant/ConstantDesc"
def TJx3cf43 : u_T := fun k => match k with
  | _ => ("", "", "", false)
def tyJx3cf43 : Nat → FieldType := fun k => match k with
  | _ => .int
abbrev wsJx3cf430 : List Cond := u_ws RJx3cf43 TJx3cf43 0
theorem nmJx3cf43 : ∀ a, a < 0 → ∀ b, b < 0 → a ≠ b → (TJx3cf43 a).2.1 ≠ (TJx3cf43 b).2.1 := by decide +kernel
theorem tyJx3cf43_ok : ∀ k, k < 0 → parseFieldDescriptor (TJx3cf43 k).2.2.1 = some (tyJx3cf43 k) := by decide +kernel
def RJ7 : String := "java/util/Arrays"
def TJ7 : u_T := fun k => match k with
  | _ => ("", "", "", false)
def tyJ7 : Nat → FieldType := fun k => match k with
  | _ => .int
abbrev wsJ70 : List Cond := u_ws RJ7 TJ7 0
theorem nmJ7 : ∀ a, a < 0 → ∀ b, b < 0 → a ≠ b → (TJ7 a).2.1 ≠ (TJ7 b).2.1 := by decide +kernel
theorem tyJ7_ok : ∀ k, k < 0 → parseFieldDescriptor (TJ7 k).2.2.1 = some (tyJ7 k) := by decide +kernel
abbrev cJ7_fill_53178 : ByteArray := prog_17_method_103_code
def yJ7_fill_53178 : MethodName := ⟨RJ7, "fill", "([II)V"⟩
def RJ3 : String := "jdk/internal/util/Preconditions"
def TJ3 : u_T := fun k => match k with
  | _ => ("", "", "", false)
def tyJ3 : Nat → FieldType := fun k => match k with
  | _ => .int
abbrev wsJ30 : List Cond := u_ws RJ3 TJ3 0
theorem nmJ3 : ∀ a, a < 0 → ∀ b, b < 0 → a ≠ b → (TJ3 a).2.1 ≠ (TJ3 b).2.1 := by decide +kernel
theorem tyJ3_ok : ∀ k, k < 0 → parseFieldDescriptor (TJ3 k).2.2.1 = some (tyJ3 k) := by decide +kernel
abbrev cJ3_checkIndex_8e157 : ByteArray := prog_18_method_11_code
def yJ3_checkIndex_8e157 : MethodName := ⟨RJ3, "checkIndex", "(IILjava/util/function/BiFunction;)I"⟩
def RL : String := "CellPacksLaw"
abbrev cL_law : ByteArray := code
def yL_law : MethodName := ⟨RL, "law", "([I)Z"⟩
abbrev vwCl : List vw_C := [(RX0, TX0, 5), (RX1, TX1, 7), (RX2, TX2, 9), (RX3, TX3, 3), (RX4, TX4, 2), (RX5, TX5, 9), (RX6, TX6, 5), (RX7, TX7, 10), (RX8, TX8, 26)]
end
section
/-! the abstract machine: its tables -/
abbrev AV : Type := Int ⊕ (Int ⊕ Nat)
abbrev Mem : Type := Nat → Int → Int
abbrev LVs : Type := List (Option AV)
abbrev AS : Type := Nat × LVs × List AV × Mem
abbrev EN : Type := Nat × Instr × Nat × Nat × Nat × Int
abbrev MI : Type := Nat × MethodName × ByteArray × Nat × Option FieldType × Nat × Bool
def lkp : List EN → Nat → Option EN
  | [], _ => none
  | e :: r, pc => match Nat.beq e.1 pc with
    | true => some e
    | false => lkp r pc
def GW : List Cond := lw_tbl.filter goodWord
def isNst : Cond → Bool
  | .fieldLinkNest _ _ _ _ _ _ => true
  | .methodLinkNest _ _ _ _ => true
  | _ => false
def NWs : List Cond := lw_tbl.filter isNst
theorem gw_at (i : Nat) {w : Cond} (h : lw_tbl[i]? = some w) (g : goodWord w = true) : w ∈ GW := List.mem_filter.mpr ⟨List.mem_of_getElem? h, g⟩
theorem nw_at (i : Nat) {w : Cond} (h : lw_tbl[i]? = some w) (g : isNst w = true) : w ∈ NWs := List.mem_filter.mpr ⟨List.mem_of_getElem? h, g⟩

def RN : List String := [RX0, RX1, RX2, RX3, RX4, RX5, RX6, RX7, RX8, RJ7, RJ6]
def tb_0 : List EN := [(0, .aload_n 1, 1, 0, 0, 0), (1, .getfield 28, 4, 2, 4, 1), (4, .bipush 9, 6, 0, 0, 9), (6, .if_icmp .le 4, 9, 10, 0, 0), (9, .return_, 10, 0, 0, 0), (10, .aload_n 0, 11, 0, 0, 0), (11, .getfield 18, 14, 0, 2, 0), (14, .iconst 0, 15, 0, 0, 0), (15, .invokestatic 33, 18, 196, 2, 0), (18, .aload_n 0, 19, 0, 0, 0), (19, .bipush (-4), 21, 0, 0, (-4)), (21, .putfield 21, 24, 0, 3, 0), (24, .aload_n 0, 25, 0, 0, 0), (25, .bipush (-4), 27, 0, 0, (-4)), (27, .putfield 25, 30, 0, 4, 0), (30, .aload_n 0, 31, 0, 0, 0), (31, .aload_n 1, 32, 0, 0, 0), (32, .iconst 0, 33, 0, 0, 0), (33, .iconst 0, 34, 0, 0, 0), (34, .aload_n 1, 35, 0, 0, 0), (35, .getfield 39, 38, 2, 0, 1), (38, .aload_n 1, 39, 0, 0, 0), (39, .getfield 28, 42, 2, 4, 1), (42, .invokestatic 42, 45, 101, 2, 1), (45, .invokevirtual 46, 48, 1, 5, 0), (48, .aload_n 0, 49, 0, 0, 0), (49, .getfield 15, 52, 0, 1, 0), (52, .iconst 0, 53, 0, 0, 0), (53, .aload_n 2, 54, 0, 0, 0), (54, .iconst 0, 55, 0, 0, 0), (55, .aload_n 1, 56, 0, 0, 0), (56, .getfield 28, 59, 2, 4, 1), (59, .invokestatic 50, 62, 1002, 5, 0), (62, .return_, 63, 0, 0, 0)]
def tb_1 : List EN := [(0, .iload_n 2, 1, 0, 0, 0), (1, .aload_n 1, 2, 0, 0, 0), (2, .getfield 28, 5, 2, 4, 1), (5, .if_icmp .ge 9, 8, 14, 0, 0), (8, .iload_n 2, 9, 0, 0, 0), (9, .bipush 9, 11, 0, 0, 9), (11, .if_icmp .lt 9, 14, 20, 0, 0), (14, .aload_n 0, 15, 0, 0, 0), (15, .aload_n 1, 16, 0, 0, 0), (16, .invokevirtual 56, 19, 3, 2, 0), (19, .return_, 20, 0, 0, 0), (20, .aload_n 0, 21, 0, 0, 0), (21, .aload_n 1, 22, 0, 0, 0), (22, .getfield 60, 25, 2, 5, 1), (25, .invokevirtual 63, 28, 2, 2, 0), (28, .iload 4, 30, 0, 0, 0), (30, .if_icmp .le 4, 33, 34, 0, 0), (33, .return_, 34, 0, 0, 0), (34, .iload_n 3, 35, 0, 0, 0), (35, .aload_n 1, 36, 0, 0, 0), (36, .getfield 60, 39, 2, 5, 1), (39, .iconst 1, 40, 0, 0, 1), (40, .isub, 41, 0, 0, 0), (41, .invokestatic 67, 44, 1001, 2, 0), (44, .istore 5, 46, 0, 0, 0), (46, .iconst 0, 47, 0, 0, 0), (47, .istore 6, 49, 0, 0, 0), (49, .iload 6, 51, 0, 0, 0), (51, .iload 5, 53, 0, 0, 0), (53, .if_icmp .gt 74, 56, 127, 0, 0), (56, .aload_n 0, 57, 0, 0, 0), (57, .getfield 9, 60, 0, 0, 0), (60, .iload_n 2, 61, 0, 0, 0), (61, .iload 6, 63, 0, 0, 0), (63, .iastore, 64, 0, 0, 0), (64, .aload_n 0, 65, 0, 0, 0), (65, .getfield 18, 68, 0, 2, 0), (68, .iload 6, 70, 0, 0, 0), (70, .dup2, 71, 0, 0, 0), (71, .iaload, 72, 0, 0, 0), (72, .aload_n 1, 73, 0, 0, 0), (73, .getfield 39, 76, 2, 0, 1), (76, .iload_n 2, 77, 0, 0, 0), (77, .iaload, 78, 0, 0, 0), (78, .iadd, 79, 0, 0, 0), (79, .iastore, 80, 0, 0, 0), (80, .aload_n 0, 81, 0, 0, 0), (81, .aload_n 1, 82, 0, 0, 0), (82, .iload_n 2, 83, 0, 0, 0), (83, .iconst 1, 84, 0, 0, 1), (84, .iadd, 85, 0, 0, 0), (85, .iload_n 3, 86, 0, 0, 0), (86, .iload 6, 88, 0, 0, 0), (88, .iconst 1, 89, 0, 0, 1), (89, .iadd, 90, 0, 0, 0), (90, .invokestatic 73, 93, 1000, 2, 0), (93, .iload 4, 95, 0, 0, 0), (95, .aload_n 1, 96, 0, 0, 0), (96, .getfield 39, 99, 2, 0, 1), (99, .iload_n 2, 100, 0, 0, 0), (100, .iaload, 101, 0, 0, 0), (101, .isub, 102, 0, 0, 0), (102, .invokevirtual 46, 105, 1, 5, 0), (105, .aload_n 0, 106, 0, 0, 0), (106, .getfield 18, 109, 0, 2, 0), (109, .iload 6, 111, 0, 0, 0), (111, .dup2, 112, 0, 0, 0), (112, .iaload, 113, 0, 0, 0), (113, .aload_n 1, 114, 0, 0, 0), (114, .getfield 39, 117, 2, 0, 1), (117, .iload_n 2, 118, 0, 0, 0), (118, .iaload, 119, 0, 0, 0), (119, .isub, 120, 0, 0, 0), (120, .iastore, 121, 0, 0, 0), (121, .iinc 6 1, 124, 0, 0, 0), (124, .goto (-75), 127, 49, 0, 0), (127, .return_, 128, 0, 0, 0)]
def tb_2 : List EN := [(0, .iconst 0, 1, 0, 0, 0), (1, .istore_n 2, 2, 0, 0, 0), (2, .iconst 0, 3, 0, 0, 0), (3, .istore_n 3, 4, 0, 0, 0), (4, .iload_n 3, 5, 0, 0, 0), (5, .iload_n 1, 6, 0, 0, 0), (6, .if_icmp .ge 27, 9, 33, 0, 0), (9, .iload_n 2, 10, 0, 0, 0), (10, .iconst 0, 11, 0, 0, 0), (11, .aload_n 0, 12, 0, 0, 0), (12, .getfield 21, 15, 0, 3, 0), (15, .aload_n 0, 16, 0, 0, 0), (16, .getfield 18, 19, 0, 2, 0), (19, .iload_n 3, 20, 0, 0, 0), (20, .iaload, 21, 0, 0, 0), (21, .isub, 22, 0, 0, 0), (22, .invokestatic 73, 25, 1000, 2, 0), (25, .iadd, 26, 0, 0, 0), (26, .istore_n 2, 27, 0, 0, 0), (27, .iinc 3 1, 30, 0, 0, 0), (30, .goto (-26), 33, 4, 0, 0), (33, .iload_n 2, 34, 0, 0, 0), (34, .ireturn, 35, 0, 0, 0)]
def tb_3 : List EN := [(0, .aload_n 0, 1, 0, 0, 0), (1, .getfield 18, 4, 0, 2, 0), (4, .aload_n 0, 5, 0, 0, 0), (5, .getfield 18, 8, 0, 2, 0), (8, .aload_n 1, 9, 0, 0, 0), (9, .getfield 60, 12, 2, 5, 1), (12, .invokestatic 76, 15, 103, 2, 1), (15, .iaload, 16, 0, 0, 0), (16, .istore_n 2, 17, 0, 0, 0), (17, .aload_n 0, 18, 0, 0, 0), (18, .getfield 18, 21, 0, 2, 0), (21, .aload_n 1, 22, 0, 0, 0), (22, .getfield 60, 25, 2, 5, 1), (25, .invokestatic 79, 28, 104, 2, 1), (28, .istore_n 3, 29, 0, 0, 0), (29, .iload_n 2, 30, 0, 0, 0), (30, .aload_n 0, 31, 0, 0, 0), (31, .getfield 21, 34, 0, 3, 0), (34, .if_icmp .gt 19, 37, 53, 0, 0), (37, .iload_n 2, 38, 0, 0, 0), (38, .aload_n 0, 39, 0, 0, 0), (39, .getfield 21, 42, 0, 3, 0), (42, .if_icmp .ne 38, 45, 80, 0, 0), (45, .iload_n 3, 46, 0, 0, 0), (46, .aload_n 0, 47, 0, 0, 0), (47, .getfield 25, 50, 0, 4, 0), (50, .if_icmp .ge 30, 53, 80, 0, 0), (53, .aload_n 0, 54, 0, 0, 0), (54, .iload_n 2, 55, 0, 0, 0), (55, .putfield 21, 58, 0, 3, 0), (58, .aload_n 0, 59, 0, 0, 0), (59, .iload_n 3, 60, 0, 0, 0), (60, .putfield 25, 63, 0, 4, 0), (63, .aload_n 0, 64, 0, 0, 0), (64, .getfield 9, 67, 0, 0, 0), (67, .iconst 0, 68, 0, 0, 0), (68, .aload_n 0, 69, 0, 0, 0), (69, .getfield 15, 72, 0, 1, 0), (72, .iconst 0, 73, 0, 0, 0), (73, .aload_n 1, 74, 0, 0, 0), (74, .getfield 28, 77, 2, 4, 1), (77, .invokestatic 50, 80, 1002, 5, 0), (80, .return_, 81, 0, 0, 0)]
def tb_4 : List EN := [(0, .aload_n 0, 1, 0, 0, 0), (1, .aload_n 1, 2, 0, 0, 0), (2, .invokevirtual 37, 5, 5, 2, 0), (5, .aload_n 0, 6, 0, 0, 0), (6, .getfield 31, 9, 1, 5, 0), (9, .istore_n 3, 10, 0, 0, 0), (10, .iload_n 3, 11, 0, 0, 0), (11, .iconst 1, 12, 0, 0, 1), (12, .if_icmp .le 13, 15, 25, 0, 0), (15, .aload_n 0, 16, 0, 0, 0), (16, .invokevirtual 41, 19, 6, 1, 0), (19, .iinc 3 (-1), 22, 0, 0, 0), (22, .goto (-12), 25, 10, 0, 0), (25, .iconst 0, 26, 0, 0, 0), (26, .istore_n 3, 27, 0, 0, 0), (27, .iload_n 3, 28, 0, 0, 0), (28, .aload_n 0, 29, 0, 0, 0), (29, .getfield 31, 32, 1, 5, 0), (32, .if_icmp .ge 17, 35, 49, 0, 0), (35, .aload_n 2, 36, 0, 0, 0), (36, .iload_n 3, 37, 0, 0, 0), (37, .aload_n 0, 38, 0, 0, 0), (38, .iload_n 3, 39, 0, 0, 0), (39, .invokevirtual 44, 42, 12, 2, 0), (42, .iastore, 43, 0, 0, 0), (43, .iinc 3 1, 46, 0, 0, 0), (46, .goto (-19), 49, 27, 0, 0), (49, .return_, 50, 0, 0, 0)]
def tb_5 : List EN := [(0, .aload_n 0, 1, 0, 0, 0), (1, .aload_n 1, 2, 0, 0, 0), (2, .getfield 48, 5, 2, 4, 1), (5, .putfield 31, 8, 1, 5, 0), (8, .aload_n 0, 9, 0, 0, 0), (9, .aload_n 1, 10, 0, 0, 0), (10, .getfield 51, 13, 2, 5, 1), (13, .putfield 34, 16, 1, 6, 0), (16, .aload_n 0, 17, 0, 0, 0), (17, .iconst 0, 18, 0, 0, 0), (18, .putfield 27, 21, 1, 4, 0), (21, .iconst 0, 22, 0, 0, 0), (22, .istore_n 2, 23, 0, 0, 0), (23, .iload_n 2, 24, 0, 0, 0), (24, .aload_n 0, 25, 0, 0, 0), (25, .getfield 31, 28, 1, 5, 0), (28, .if_icmp .ge 61, 31, 89, 0, 0), (31, .aload_n 0, 32, 0, 0, 0), (32, .getfield 11, 35, 1, 0, 0), (35, .iload_n 2, 36, 0, 0, 0), (36, .aaload, 37, 0, 0, 0), (37, .iconst 0, 38, 0, 0, 0), (38, .invokestatic 52, 41, 196, 2, 0), (41, .aload_n 0, 42, 0, 0, 0), (42, .getfield 16, 45, 1, 1, 0), (45, .iload_n 2, 46, 0, 0, 0), (46, .aaload, 47, 0, 0, 0), (47, .iconst 0, 48, 0, 0, 0), (48, .invokestatic 52, 51, 196, 2, 0), (51, .aload_n 0, 52, 0, 0, 0), (52, .getfield 11, 55, 1, 0, 0), (55, .iload_n 2, 56, 0, 0, 0), (56, .aaload, 57, 0, 0, 0), (57, .iconst 0, 58, 0, 0, 0), (58, .aload_n 1, 59, 0, 0, 0), (59, .getfield 58, 62, 2, 0, 1), (62, .iload_n 2, 63, 0, 0, 0), (63, .iaload, 64, 0, 0, 0), (64, .iastore, 65, 0, 0, 0), (65, .aload_n 0, 66, 0, 0, 0), (66, .getfield 16, 69, 1, 1, 0), (69, .iload_n 2, 70, 0, 0, 0), (70, .aaload, 71, 0, 0, 0), (71, .iconst 0, 72, 0, 0, 0), (72, .iconst 1, 73, 0, 0, 1), (73, .iload_n 2, 74, 0, 0, 0), (74, .ishl, 75, 0, 0, 0), (75, .iastore, 76, 0, 0, 0), (76, .aload_n 0, 77, 0, 0, 0), (77, .getfield 19, 80, 1, 2, 0), (80, .iload_n 2, 81, 0, 0, 0), (81, .iconst 0, 82, 0, 0, 0), (82, .bastore, 83, 0, 0, 0), (83, .iinc 2 1, 86, 0, 0, 0), (86, .goto (-63), 89, 23, 0, 0), (89, .return_, 90, 0, 0, 0)]
def tb_6 : List EN := [(0, .aload_n 0, 1, 0, 0, 0), (1, .bipush (-4), 3, 0, 0, (-4)), (3, .invokevirtual 61, 6, 7, 2, 0), (6, .istore_n 1, 7, 0, 0, 0), (7, .aload_n 0, 8, 0, 0, 0), (8, .iload_n 1, 9, 0, 0, 0), (9, .invokevirtual 61, 12, 7, 2, 0), (12, .istore_n 2, 13, 0, 0, 0), (13, .iload_n 1, 14, 0, 0, 0), (14, .bipush (-4), 16, 0, 0, (-4)), (16, .if_icmp .eq 9, 19, 25, 0, 0), (19, .iload_n 2, 20, 0, 0, 0), (20, .bipush (-4), 22, 0, 0, (-4)), (22, .if_icmp .ne 4, 25, 26, 0, 0), (25, .return_, 26, 0, 0, 0), (26, .aload_n 0, 27, 0, 0, 0), (27, .getfield 23, 30, 1, 3, 0), (30, .aload_n 0, 31, 0, 0, 0), (31, .getfield 27, 34, 1, 4, 0), (34, .bipush 100, 36, 0, 0, 100), (36, .iload_n 1, 37, 0, 0, 0), (37, .imul, 38, 0, 0, 0), (38, .iload_n 2, 39, 0, 0, 0), (39, .iadd, 40, 0, 0, 0), (40, .iastore, 41, 0, 0, 0), (41, .aload_n 0, 42, 0, 0, 0), (42, .dup, 43, 0, 0, 0), (43, .getfield 27, 46, 1, 4, 0), (46, .iconst 1, 47, 0, 0, 1), (47, .iadd, 48, 0, 0, 0), (48, .putfield 27, 51, 1, 4, 0), (51, .aload_n 0, 52, 0, 0, 0), (52, .iload_n 1, 53, 0, 0, 0), (53, .iload_n 2, 54, 0, 0, 0), (54, .invokestatic 64, 57, 1001, 2, 0), (57, .iload_n 1, 58, 0, 0, 0), (58, .iload_n 2, 59, 0, 0, 0), (59, .invokestatic 70, 62, 1000, 2, 0), (62, .invokevirtual 73, 65, 9, 3, 0), (65, .return_, 66, 0, 0, 0)]
def tb_7 : List EN := [(0, .bipush (-4), 2, 0, 0, (-4)), (2, .istore_n 2, 3, 0, 0, 0), (3, .iconst 0, 4, 0, 0, 0), (4, .istore_n 3, 5, 0, 0, 0), (5, .iload_n 3, 6, 0, 0, 0), (6, .aload_n 0, 7, 0, 0, 0), (7, .getfield 31, 10, 1, 5, 0), (10, .if_icmp .ge 44, 13, 54, 0, 0), (13, .aload_n 0, 14, 0, 0, 0), (14, .getfield 19, 17, 1, 2, 0), (17, .iload_n 3, 18, 0, 0, 0), (18, .baload, 19, 0, 0, 0), (19, .ifCond .ne 29, 22, 48, 0, 0), (22, .iload_n 3, 23, 0, 0, 0), (23, .iload_n 1, 24, 0, 0, 0), (24, .if_icmp .eq 24, 27, 48, 0, 0), (27, .iload_n 2, 28, 0, 0, 0), (28, .bipush (-4), 30, 0, 0, (-4)), (30, .if_icmp .eq 16, 33, 46, 0, 0), (33, .aload_n 0, 34, 0, 0, 0), (34, .iload_n 3, 35, 0, 0, 0), (35, .invokevirtual 77, 38, 8, 2, 0), (38, .aload_n 0, 39, 0, 0, 0), (39, .iload_n 2, 40, 0, 0, 0), (40, .invokevirtual 77, 43, 8, 2, 0), (43, .if_icmp .le 5, 46, 48, 0, 0), (46, .iload_n 3, 47, 0, 0, 0), (47, .istore_n 2, 48, 0, 0, 0), (48, .iinc 3 1, 51, 0, 0, 0), (51, .goto (-46), 54, 5, 0, 0), (54, .iload_n 2, 55, 0, 0, 0), (55, .ireturn, 56, 0, 0, 0)]
def tb_8 : List EN := [(0, .aload_n 0, 1, 0, 0, 0), (1, .getfield 11, 4, 1, 0, 0), (4, .iload_n 1, 5, 0, 0, 0), (5, .aaload, 6, 0, 0, 0), (6, .iconst 0, 7, 0, 0, 0), (7, .iaload, 8, 0, 0, 0), (8, .aload_n 0, 9, 0, 0, 0), (9, .getfield 11, 12, 1, 0, 0), (12, .iload_n 1, 13, 0, 0, 0), (13, .aaload, 14, 0, 0, 0), (14, .aload_n 0, 15, 0, 0, 0), (15, .getfield 34, 18, 1, 6, 0), (18, .iconst 1, 19, 0, 0, 1), (19, .isub, 20, 0, 0, 0), (20, .iaload, 21, 0, 0, 0), (21, .isub, 22, 0, 0, 0), (22, .ireturn, 23, 0, 0, 0)]
def tb_9 : List EN := [(0, .iconst 0, 1, 0, 0, 0), (1, .istore_n 3, 2, 0, 0, 0), (2, .iload_n 3, 3, 0, 0, 0), (3, .aload_n 0, 4, 0, 0, 0), (4, .getfield 34, 7, 1, 6, 0), (7, .if_icmp .ge 61, 10, 68, 0, 0), (10, .aload_n 0, 11, 0, 0, 0), (11, .getfield 11, 14, 1, 0, 0), (14, .iload_n 1, 15, 0, 0, 0), (15, .aaload, 16, 0, 0, 0), (16, .iload_n 3, 17, 0, 0, 0), (17, .dup2, 18, 0, 0, 0), (18, .iaload, 19, 0, 0, 0), (19, .aload_n 0, 20, 0, 0, 0), (20, .getfield 11, 23, 1, 0, 0), (23, .iload_n 2, 24, 0, 0, 0), (24, .aaload, 25, 0, 0, 0), (25, .aload_n 0, 26, 0, 0, 0), (26, .getfield 34, 29, 1, 6, 0), (29, .iconst 1, 30, 0, 0, 1), (30, .isub, 31, 0, 0, 0), (31, .iload_n 3, 32, 0, 0, 0), (32, .isub, 33, 0, 0, 0), (33, .iaload, 34, 0, 0, 0), (34, .iadd, 35, 0, 0, 0), (35, .iastore, 36, 0, 0, 0), (36, .aload_n 0, 37, 0, 0, 0), (37, .getfield 16, 40, 1, 1, 0), (40, .iload_n 1, 41, 0, 0, 0), (41, .aaload, 42, 0, 0, 0), (42, .iload_n 3, 43, 0, 0, 0), (43, .dup2, 44, 0, 0, 0), (44, .iaload, 45, 0, 0, 0), (45, .aload_n 0, 46, 0, 0, 0), (46, .getfield 16, 49, 1, 1, 0), (49, .iload_n 2, 50, 0, 0, 0), (50, .aaload, 51, 0, 0, 0), (51, .aload_n 0, 52, 0, 0, 0), (52, .getfield 34, 55, 1, 6, 0), (55, .iconst 1, 56, 0, 0, 1), (56, .isub, 57, 0, 0, 0), (57, .iload_n 3, 58, 0, 0, 0), (58, .isub, 59, 0, 0, 0), (59, .iaload, 60, 0, 0, 0), (60, .ior, 61, 0, 0, 0), (61, .iastore, 62, 0, 0, 0), (62, .iinc 3 1, 65, 0, 0, 0), (65, .goto (-63), 68, 2, 0, 0), (68, .aload_n 0, 69, 0, 0, 0), (69, .getfield 19, 72, 1, 2, 0), (72, .iload_n 2, 73, 0, 0, 0), (73, .iconst 1, 74, 0, 0, 1), (74, .bastore, 75, 0, 0, 0), (75, .iconst 1, 76, 0, 0, 1), (76, .istore_n 3, 77, 0, 0, 0), (77, .iload_n 3, 78, 0, 0, 0), (78, .aload_n 0, 79, 0, 0, 0), (79, .getfield 34, 82, 1, 6, 0), (82, .if_icmp .ge 59, 85, 141, 0, 0), (85, .iload_n 3, 86, 0, 0, 0), (86, .istore 4, 88, 0, 0, 0), (88, .iload 4, 90, 0, 0, 0), (90, .ifCond .le 45, 93, 135, 0, 0), (93, .aload_n 0, 94, 0, 0, 0), (94, .iload_n 1, 95, 0, 0, 0), (95, .iload 4, 97, 0, 0, 0), (97, .iload 4, 99, 0, 0, 0), (99, .iconst 1, 100, 0, 0, 1), (100, .isub, 101, 0, 0, 0), (101, .invokevirtual 80, 104, 10, 4, 0), (104, .ifCond .eq 31, 107, 135, 0, 0), (107, .aload_n 0, 108, 0, 0, 0), (108, .getfield 11, 111, 1, 0, 0), (111, .iload_n 1, 112, 0, 0, 0), (112, .aaload, 113, 0, 0, 0), (113, .iload 4, 115, 0, 0, 0), (115, .invokestatic 84, 118, 11, 2, 0), (118, .aload_n 0, 119, 0, 0, 0), (119, .getfield 16, 122, 1, 1, 0), (122, .iload_n 1, 123, 0, 0, 0), (123, .aaload, 124, 0, 0, 0), (124, .iload 4, 126, 0, 0, 0), (126, .invokestatic 84, 129, 11, 2, 0), (129, .iinc 4 (-1), 132, 0, 0, 0), (132, .goto (-44), 135, 88, 0, 0), (135, .iinc 3 1, 138, 0, 0, 0), (138, .goto (-61), 141, 77, 0, 0), (141, .return_, 142, 0, 0, 0)]
def tb_10 : List EN := [(0, .aload_n 0, 1, 0, 0, 0), (1, .getfield 11, 4, 1, 0, 0), (4, .iload_n 1, 5, 0, 0, 0), (5, .aaload, 6, 0, 0, 0), (6, .iload_n 2, 7, 0, 0, 0), (7, .iaload, 8, 0, 0, 0), (8, .aload_n 0, 9, 0, 0, 0), (9, .getfield 11, 12, 1, 0, 0), (12, .iload_n 1, 13, 0, 0, 0), (13, .aaload, 14, 0, 0, 0), (14, .iload_n 3, 15, 0, 0, 0), (15, .iaload, 16, 0, 0, 0), (16, .if_icmp .eq 28, 19, 44, 0, 0), (19, .aload_n 0, 20, 0, 0, 0), (20, .getfield 11, 23, 1, 0, 0), (23, .iload_n 1, 24, 0, 0, 0), (24, .aaload, 25, 0, 0, 0), (25, .iload_n 2, 26, 0, 0, 0), (26, .iaload, 27, 0, 0, 0), (27, .aload_n 0, 28, 0, 0, 0), (28, .getfield 11, 31, 1, 0, 0), (31, .iload_n 1, 32, 0, 0, 0), (32, .aaload, 33, 0, 0, 0), (33, .iload_n 3, 34, 0, 0, 0), (34, .iaload, 35, 0, 0, 0), (35, .if_icmp .le 7, 38, 42, 0, 0), (38, .iconst 1, 39, 0, 0, 1), (39, .goto 4, 42, 43, 0, 0), (42, .iconst 0, 43, 0, 0, 0), (43, .ireturn, 44, 1, 0, 0), (44, .aload_n 0, 45, 0, 0, 0), (45, .getfield 16, 48, 1, 1, 0), (48, .iload_n 1, 49, 0, 0, 0), (49, .aaload, 50, 0, 0, 0), (50, .iload_n 2, 51, 0, 0, 0), (51, .iaload, 52, 0, 0, 0), (52, .istore 4, 54, 0, 0, 0), (54, .aload_n 0, 55, 0, 0, 0), (55, .getfield 16, 58, 1, 1, 0), (58, .iload_n 1, 59, 0, 0, 0), (59, .aaload, 60, 0, 0, 0), (60, .iload_n 3, 61, 0, 0, 0), (61, .iaload, 62, 0, 0, 0), (62, .istore 5, 64, 0, 0, 0), (64, .iload 4, 66, 0, 0, 0), (66, .iload 4, 68, 0, 0, 0), (68, .ineg, 69, 0, 0, 0), (69, .iand, 70, 0, 0, 0), (70, .iload 5, 72, 0, 0, 0), (72, .iload 5, 74, 0, 0, 0), (74, .ineg, 75, 0, 0, 0), (75, .iand, 76, 0, 0, 0), (76, .if_icmp .ge 7, 79, 83, 0, 0), (79, .iconst 1, 80, 0, 0, 1), (80, .goto 4, 83, 84, 0, 0), (83, .iconst 0, 84, 0, 0, 0), (84, .ireturn, 85, 1, 0, 0)]
def tb_11 : List EN := [(0, .aload_n 0, 1, 0, 0, 0), (1, .iload_n 1, 2, 0, 0, 0), (2, .iaload, 3, 0, 0, 0), (3, .istore_n 2, 4, 0, 0, 0), (4, .aload_n 0, 5, 0, 0, 0), (5, .iload_n 1, 6, 0, 0, 0), (6, .aload_n 0, 7, 0, 0, 0), (7, .iload_n 1, 8, 0, 0, 0), (8, .iconst 1, 9, 0, 0, 1), (9, .isub, 10, 0, 0, 0), (10, .iaload, 11, 0, 0, 0), (11, .iastore, 12, 0, 0, 0), (12, .aload_n 0, 13, 0, 0, 0), (13, .iload_n 1, 14, 0, 0, 0), (14, .iconst 1, 15, 0, 0, 1), (15, .isub, 16, 0, 0, 0), (16, .iload_n 2, 17, 0, 0, 0), (17, .iastore, 18, 0, 0, 0), (18, .return_, 19, 0, 0, 0)]
def tb_12 : List EN := [(0, .iconst 0, 1, 0, 0, 0), (1, .istore_n 2, 2, 0, 0, 0), (2, .iload_n 2, 3, 0, 0, 0), (3, .aload_n 0, 4, 0, 0, 0), (4, .getfield 34, 7, 1, 6, 0), (7, .if_icmp .ge 26, 10, 33, 0, 0), (10, .aload_n 0, 11, 0, 0, 0), (11, .getfield 16, 14, 1, 1, 0), (14, .iconst 0, 15, 0, 0, 0), (15, .aaload, 16, 0, 0, 0), (16, .iload_n 2, 17, 0, 0, 0), (17, .iaload, 18, 0, 0, 0), (18, .iconst 1, 19, 0, 0, 1), (19, .iload_n 1, 20, 0, 0, 0), (20, .ishl, 21, 0, 0, 0), (21, .iand, 22, 0, 0, 0), (22, .ifCond .eq 5, 25, 27, 0, 0), (25, .iload_n 2, 26, 0, 0, 0), (26, .ireturn, 27, 0, 0, 0), (27, .iinc 2 1, 30, 0, 0, 0), (30, .goto (-28), 33, 2, 0, 0), (33, .iconst 0, 34, 0, 0, 0), (34, .ireturn, 35, 0, 0, 0)]
def tb_13 : List EN := [(0, .aload_n 0, 1, 0, 0, 0), (1, .iconst 0, 2, 0, 0, 0), (2, .putfield 27, 5, 2, 4, 0), (5, .aload_n 0, 6, 0, 0, 0), (6, .iconst 2, 7, 0, 0, 2), (7, .putfield 31, 10, 2, 5, 0), (10, .aload_n 0, 11, 0, 0, 0), (11, .iconst 0, 12, 0, 0, 0), (12, .putfield 34, 15, 2, 6, 0), (15, .aload_n 0, 16, 0, 0, 0), (16, .bipush 10, 18, 0, 0, 10), (18, .putfield 37, 21, 2, 7, 0), (21, .aload_n 0, 22, 0, 0, 0), (22, .iconst 5, 23, 0, 0, 5), (23, .putfield 40, 26, 2, 8, 0), (26, .return_, 27, 0, 0, 0)]
def tb_14 : List EN := [(0, .aload_n 1, 1, 0, 0, 0), (1, .getfield 9, 4, 2, 0, 0), (4, .iconst 0, 5, 0, 0, 0), (5, .aload_n 0, 6, 0, 0, 0), (6, .getfield 9, 9, 2, 0, 0), (9, .iconst 0, 10, 0, 0, 0), (10, .bipush 16, 12, 0, 0, 16), (12, .invokestatic 43, 15, 1002, 5, 0), (15, .aload_n 1, 16, 0, 0, 0), (16, .getfield 15, 19, 2, 1, 0), (19, .iconst 0, 20, 0, 0, 0), (20, .aload_n 0, 21, 0, 0, 0), (21, .getfield 15, 24, 2, 1, 0), (24, .iconst 0, 25, 0, 0, 0), (25, .bipush 16, 27, 0, 0, 16), (27, .invokestatic 43, 30, 1002, 5, 0), (30, .aload_n 1, 31, 0, 0, 0), (31, .getfield 18, 34, 2, 2, 0), (34, .iconst 0, 35, 0, 0, 0), (35, .aload_n 0, 36, 0, 0, 0), (36, .getfield 18, 39, 2, 2, 0), (39, .iconst 0, 40, 0, 0, 0), (40, .bipush 16, 42, 0, 0, 16), (42, .invokestatic 43, 45, 1002, 5, 0), (45, .aload_n 0, 46, 0, 0, 0), (46, .aload_n 1, 47, 0, 0, 0), (47, .getfield 27, 50, 2, 4, 0), (50, .putfield 27, 53, 2, 4, 0), (53, .aload_n 0, 54, 0, 0, 0), (54, .aload_n 1, 55, 0, 0, 0), (55, .getfield 31, 58, 2, 5, 0), (58, .putfield 31, 61, 2, 5, 0), (61, .aload_n 0, 62, 0, 0, 0), (62, .aload_n 1, 63, 0, 0, 0), (63, .getfield 34, 66, 2, 6, 0), (66, .putfield 34, 69, 2, 6, 0), (69, .aload_n 0, 70, 0, 0, 0), (70, .aload_n 1, 71, 0, 0, 0), (71, .getfield 37, 74, 2, 7, 0), (74, .putfield 37, 77, 2, 7, 0), (77, .aload_n 0, 78, 0, 0, 0), (78, .aload_n 1, 79, 0, 0, 0), (79, .getfield 40, 82, 2, 8, 0), (82, .putfield 40, 85, 2, 8, 0), (85, .return_, 86, 0, 0, 0)]
def tb_15 : List EN := [(0, .aload_n 0, 1, 0, 0, 0), (1, .getfield 27, 4, 2, 4, 0), (4, .bipush 16, 6, 0, 0, 16), (6, .if_icmp .ge 43, 9, 49, 0, 0), (9, .aload_n 0, 10, 0, 0, 0), (10, .getfield 9, 13, 2, 0, 0), (13, .aload_n 0, 14, 0, 0, 0), (14, .getfield 27, 17, 2, 4, 0), (17, .iload_n 1, 18, 0, 0, 0), (18, .iastore, 19, 0, 0, 0), (19, .aload_n 0, 20, 0, 0, 0), (20, .getfield 15, 23, 2, 1, 0), (23, .aload_n 0, 24, 0, 0, 0), (24, .getfield 27, 27, 2, 4, 0), (27, .iload_n 1, 28, 0, 0, 0), (28, .iastore, 29, 0, 0, 0), (29, .aload_n 0, 30, 0, 0, 0), (30, .getfield 18, 33, 2, 2, 0), (33, .aload_n 0, 34, 0, 0, 0), (34, .getfield 27, 37, 2, 4, 0), (37, .iload_n 2, 38, 0, 0, 0), (38, .iastore, 39, 0, 0, 0), (39, .aload_n 0, 40, 0, 0, 0), (40, .dup, 41, 0, 0, 0), (41, .getfield 27, 44, 2, 4, 0), (44, .iconst 1, 45, 0, 0, 1), (45, .iadd, 46, 0, 0, 0), (46, .putfield 27, 49, 2, 4, 0), (49, .return_, 50, 0, 0, 0)]
def tb_16 : List EN := [(0, .iload_n 1, 1, 0, 0, 0), (1, .iconst 1, 2, 0, 0, 1), (2, .iadd, 3, 0, 0, 0), (3, .istore_n 2, 4, 0, 0, 0), (4, .iload_n 2, 5, 0, 0, 0), (5, .aload_n 0, 6, 0, 0, 0), (6, .getfield 27, 9, 2, 4, 0), (9, .if_icmp .ge 51, 12, 60, 0, 0), (12, .aload_n 0, 13, 0, 0, 0), (13, .getfield 9, 16, 2, 0, 0), (16, .iload_n 2, 17, 0, 0, 0), (17, .iconst 1, 18, 0, 0, 1), (18, .isub, 19, 0, 0, 0), (19, .aload_n 0, 20, 0, 0, 0), (20, .getfield 9, 23, 2, 0, 0), (23, .iload_n 2, 24, 0, 0, 0), (24, .iaload, 25, 0, 0, 0), (25, .iastore, 26, 0, 0, 0), (26, .aload_n 0, 27, 0, 0, 0), (27, .getfield 15, 30, 2, 1, 0), (30, .iload_n 2, 31, 0, 0, 0), (31, .iconst 1, 32, 0, 0, 1), (32, .isub, 33, 0, 0, 0), (33, .aload_n 0, 34, 0, 0, 0), (34, .getfield 15, 37, 2, 1, 0), (37, .iload_n 2, 38, 0, 0, 0), (38, .iaload, 39, 0, 0, 0), (39, .iastore, 40, 0, 0, 0), (40, .aload_n 0, 41, 0, 0, 0), (41, .getfield 18, 44, 2, 2, 0), (44, .iload_n 2, 45, 0, 0, 0), (45, .iconst 1, 46, 0, 0, 1), (46, .isub, 47, 0, 0, 0), (47, .aload_n 0, 48, 0, 0, 0), (48, .getfield 18, 51, 2, 2, 0), (51, .iload_n 2, 52, 0, 0, 0), (52, .iaload, 53, 0, 0, 0), (53, .iastore, 54, 0, 0, 0), (54, .iinc 2 1, 57, 0, 0, 0), (57, .goto (-53), 60, 4, 0, 0), (60, .aload_n 0, 61, 0, 0, 0), (61, .dup, 62, 0, 0, 0), (62, .getfield 27, 65, 2, 4, 0), (65, .iconst 1, 66, 0, 0, 1), (66, .isub, 67, 0, 0, 0), (67, .putfield 27, 70, 2, 4, 0), (70, .return_, 71, 0, 0, 0)]
def tb_17 : List EN := [(0, .aload_n 0, 1, 0, 0, 0), (1, .getfield 15, 4, 2, 1, 0), (4, .aload_n 0, 5, 0, 0, 0), (5, .getfield 18, 8, 2, 2, 0), (8, .aload_n 0, 9, 0, 0, 0), (9, .getfield 27, 12, 2, 4, 0), (12, .aload_n 0, 13, 0, 0, 0), (13, .getfield 21, 16, 2, 3, 0), (16, .invokestatic 49, 19, 102, 4, 1), (19, .aload_n 0, 20, 0, 0, 0), (20, .getfield 21, 23, 2, 3, 0), (23, .iload_n 1, 24, 0, 0, 0), (24, .iaload, 25, 0, 0, 0), (25, .ireturn, 26, 0, 0, 0)]
def tb_18 : List EN := [(0, .aload_n 0, 1, 0, 0, 0), (1, .getfield 15, 4, 2, 1, 0), (4, .aload_n 0, 5, 0, 0, 0), (5, .getfield 18, 8, 2, 2, 0), (8, .aload_n 0, 9, 0, 0, 0), (9, .getfield 27, 12, 2, 4, 0), (12, .aload_n 0, 13, 0, 0, 0), (13, .getfield 21, 16, 2, 3, 0), (16, .invokestatic 49, 19, 102, 4, 1), (19, .aload_n 0, 20, 0, 0, 0), (20, .getfield 21, 23, 2, 3, 0), (23, .aload_n 0, 24, 0, 0, 0), (24, .getfield 31, 27, 2, 5, 0), (27, .invokestatic 53, 30, 103, 2, 1), (30, .ireturn, 31, 0, 0, 0)]
def tb_19 : List EN := [(0, .aload_n 0, 1, 0, 0, 0), (1, .getfield 21, 4, 2, 3, 0), (4, .aload_n 0, 5, 0, 0, 0), (5, .invokevirtual 57, 8, 18, 1, 0), (8, .iaload, 9, 0, 0, 0), (9, .ireturn, 10, 0, 0, 0)]
def tb_20 : List EN := [(0, .aload_n 0, 1, 0, 0, 0), (1, .getfield 9, 4, 2, 0, 0), (4, .aload_n 0, 5, 0, 0, 0), (5, .getfield 18, 8, 2, 2, 0), (8, .aload_n 0, 9, 0, 0, 0), (9, .getfield 27, 12, 2, 4, 0), (12, .aload_n 0, 13, 0, 0, 0), (13, .getfield 21, 16, 2, 3, 0), (16, .invokestatic 49, 19, 102, 4, 1), (19, .aload_n 0, 20, 0, 0, 0), (20, .getfield 21, 23, 2, 3, 0), (23, .aload_n 0, 24, 0, 0, 0), (24, .getfield 21, 27, 2, 3, 0), (27, .aload_n 0, 28, 0, 0, 0), (28, .getfield 31, 31, 2, 5, 0), (31, .invokestatic 53, 34, 103, 2, 1), (34, .iaload, 35, 0, 0, 0), (35, .ireturn, 36, 0, 0, 0)]
def tb_21 : List EN := [(0, .aload_n 0, 1, 0, 0, 0), (1, .invokevirtual 61, 4, 19, 1, 0), (4, .istore_n 1, 5, 0, 0, 0), (5, .aload_n 0, 6, 0, 0, 0), (6, .getfield 21, 9, 2, 3, 0), (9, .aload_n 0, 10, 0, 0, 0), (10, .getfield 31, 13, 2, 5, 0), (13, .invokestatic 64, 16, 104, 2, 1), (16, .iload_n 1, 17, 0, 0, 0), (17, .isub, 18, 0, 0, 0), (18, .ireturn, 19, 0, 0, 0)]
def tb_22 : List EN := [(0, .aload_n 0, 1, 0, 0, 0), (1, .getfield 15, 4, 2, 1, 0), (4, .aload_n 0, 5, 0, 0, 0), (5, .getfield 18, 8, 2, 2, 0), (8, .aload_n 0, 9, 0, 0, 0), (9, .getfield 27, 12, 2, 4, 0), (12, .aload_n 0, 13, 0, 0, 0), (13, .getfield 21, 16, 2, 3, 0), (16, .invokestatic 49, 19, 102, 4, 1), (19, .aload_n 0, 20, 0, 0, 0), (20, .getfield 21, 23, 2, 3, 0), (23, .aload_n 0, 24, 0, 0, 0), (24, .getfield 18, 27, 2, 2, 0), (27, .iload_n 1, 28, 0, 0, 0), (28, .iaload, 29, 0, 0, 0), (29, .dup2, 30, 0, 0, 0), (30, .iaload, 31, 0, 0, 0), (31, .aload_n 0, 32, 0, 0, 0), (32, .getfield 15, 35, 2, 1, 0), (35, .iload_n 2, 36, 0, 0, 0), (36, .iaload, 37, 0, 0, 0), (37, .aload_n 0, 38, 0, 0, 0), (38, .getfield 15, 41, 2, 1, 0), (41, .iload_n 1, 42, 0, 0, 0), (42, .iaload, 43, 0, 0, 0), (43, .isub, 44, 0, 0, 0), (44, .iadd, 45, 0, 0, 0), (45, .iastore, 46, 0, 0, 0), (46, .aload_n 0, 47, 0, 0, 0), (47, .getfield 21, 50, 2, 3, 0), (50, .aload_n 0, 51, 0, 0, 0), (51, .getfield 18, 54, 2, 2, 0), (54, .iload_n 2, 55, 0, 0, 0), (55, .iaload, 56, 0, 0, 0), (56, .dup2, 57, 0, 0, 0), (57, .iaload, 58, 0, 0, 0), (58, .aload_n 0, 59, 0, 0, 0), (59, .getfield 15, 62, 2, 1, 0), (62, .iload_n 1, 63, 0, 0, 0), (63, .iaload, 64, 0, 0, 0), (64, .aload_n 0, 65, 0, 0, 0), (65, .getfield 15, 68, 2, 1, 0), (68, .iload_n 2, 69, 0, 0, 0), (69, .iaload, 70, 0, 0, 0), (70, .isub, 71, 0, 0, 0), (71, .iadd, 72, 0, 0, 0), (72, .iastore, 73, 0, 0, 0), (73, .aload_n 0, 74, 0, 0, 0), (74, .getfield 21, 77, 2, 3, 0), (77, .aload_n 0, 78, 0, 0, 0), (78, .getfield 21, 81, 2, 3, 0), (81, .aload_n 0, 82, 0, 0, 0), (82, .getfield 31, 85, 2, 5, 0), (85, .invokestatic 53, 88, 103, 2, 1), (88, .iaload, 89, 0, 0, 0), (89, .ireturn, 90, 0, 0, 0)]
def tb_23 : List EN := [(0, .iconst 0, 1, 0, 0, 0), (1, .istore_n 2, 2, 0, 0, 0), (2, .iconst 0, 3, 0, 0, 0), (3, .istore_n 3, 4, 0, 0, 0), (4, .iload_n 3, 5, 0, 0, 0), (5, .aload_n 0, 6, 0, 0, 0), (6, .getfield 27, 9, 2, 4, 0), (9, .if_icmp .ge 47, 12, 56, 0, 0), (12, .aload_n 0, 13, 0, 0, 0), (13, .getfield 9, 16, 2, 0, 0), (16, .iload_n 3, 17, 0, 0, 0), (17, .iaload, 18, 0, 0, 0), (18, .aload_n 0, 19, 0, 0, 0), (19, .getfield 9, 22, 2, 0, 0), (22, .iload_n 1, 23, 0, 0, 0), (23, .iaload, 24, 0, 0, 0), (24, .if_icmp .gt 23, 27, 47, 0, 0), (27, .aload_n 0, 28, 0, 0, 0), (28, .getfield 9, 31, 2, 0, 0), (31, .iload_n 3, 32, 0, 0, 0), (32, .iaload, 33, 0, 0, 0), (33, .aload_n 0, 34, 0, 0, 0), (34, .getfield 9, 37, 2, 0, 0), (37, .iload_n 1, 38, 0, 0, 0), (38, .iaload, 39, 0, 0, 0), (39, .if_icmp .ne 11, 42, 50, 0, 0), (42, .iload_n 3, 43, 0, 0, 0), (43, .iload_n 1, 44, 0, 0, 0), (44, .if_icmp .ge 6, 47, 50, 0, 0), (47, .iinc 2 1, 50, 0, 0, 0), (50, .iinc 3 1, 53, 0, 0, 0), (53, .goto (-49), 56, 4, 0, 0), (56, .iload_n 2, 57, 0, 0, 0), (57, .ireturn, 58, 0, 0, 0)]
def tb_24 : List EN := [(0, .iconst 0, 1, 0, 0, 0), (1, .istore_n 2, 2, 0, 0, 0), (2, .iconst 0, 3, 0, 0, 0), (3, .istore_n 3, 4, 0, 0, 0), (4, .iload_n 3, 5, 0, 0, 0), (5, .aload_n 0, 6, 0, 0, 0), (6, .getfield 27, 9, 2, 4, 0), (9, .if_icmp .ge 25, 12, 34, 0, 0), (12, .aload_n 0, 13, 0, 0, 0), (13, .getfield 18, 16, 2, 2, 0), (16, .iload_n 3, 17, 0, 0, 0), (17, .iaload, 18, 0, 0, 0), (18, .iload_n 1, 19, 0, 0, 0), (19, .if_icmp .ne 9, 22, 28, 0, 0), (22, .iload_n 2, 23, 0, 0, 0), (23, .iconst 1, 24, 0, 0, 1), (24, .iload_n 3, 25, 0, 0, 0), (25, .ishl, 26, 0, 0, 0), (26, .ior, 27, 0, 0, 0), (27, .istore_n 2, 28, 0, 0, 0), (28, .iinc 3 1, 31, 0, 0, 0), (31, .goto (-27), 34, 4, 0, 0), (34, .iload_n 2, 35, 0, 0, 0), (35, .ireturn, 36, 0, 0, 0)]
def tb_25 : List EN := [(0, .bipush (-4), 2, 0, 0, (-4)), (2, .istore_n 2, 3, 0, 0, 0), (3, .iconst 0, 4, 0, 0, 0), (4, .istore_n 3, 5, 0, 0, 0), (5, .iload_n 3, 6, 0, 0, 0), (6, .aload_n 0, 7, 0, 0, 0), (7, .getfield 27, 10, 2, 4, 0), (10, .if_icmp .ge 42, 13, 52, 0, 0), (13, .aload_n 0, 14, 0, 0, 0), (14, .getfield 18, 17, 2, 2, 0), (17, .iload_n 3, 18, 0, 0, 0), (18, .iaload, 19, 0, 0, 0), (19, .iload_n 1, 20, 0, 0, 0), (20, .if_icmp .ne 26, 23, 46, 0, 0), (23, .iload_n 2, 24, 0, 0, 0), (24, .bipush (-4), 26, 0, 0, (-4)), (26, .if_icmp .eq 18, 29, 44, 0, 0), (29, .aload_n 0, 30, 0, 0, 0), (30, .getfield 15, 33, 2, 1, 0), (33, .iload_n 3, 34, 0, 0, 0), (34, .iaload, 35, 0, 0, 0), (35, .aload_n 0, 36, 0, 0, 0), (36, .getfield 15, 39, 2, 1, 0), (39, .iload_n 2, 40, 0, 0, 0), (40, .iaload, 41, 0, 0, 0), (41, .if_icmp .le 5, 44, 46, 0, 0), (44, .iload_n 3, 45, 0, 0, 0), (45, .istore_n 2, 46, 0, 0, 0), (46, .iinc 3 1, 49, 0, 0, 0), (49, .goto (-44), 52, 5, 0, 0), (52, .iload_n 2, 53, 0, 0, 0), (53, .ireturn, 54, 0, 0, 0)]
def tb_26 : List EN := [(0, .iconst 0, 1, 0, 0, 0), (1, .istore_n 2, 2, 0, 0, 0), (2, .iconst 0, 3, 0, 0, 0), (3, .istore_n 3, 4, 0, 0, 0), (4, .iload_n 3, 5, 0, 0, 0), (5, .aload_n 0, 6, 0, 0, 0), (6, .getfield 27, 9, 2, 4, 0), (9, .if_icmp .ge 37, 12, 46, 0, 0), (12, .aload_n 0, 13, 0, 0, 0), (13, .getfield 18, 16, 2, 2, 0), (16, .iload_n 3, 17, 0, 0, 0), (17, .iaload, 18, 0, 0, 0), (18, .iload_n 1, 19, 0, 0, 0), (19, .if_icmp .ne 21, 22, 40, 0, 0), (22, .iload_n 2, 23, 0, 0, 0), (23, .iconst 0, 24, 0, 0, 0), (24, .aload_n 0, 25, 0, 0, 0), (25, .getfield 15, 28, 2, 1, 0), (28, .iload_n 3, 29, 0, 0, 0), (29, .iaload, 30, 0, 0, 0), (30, .aload_n 0, 31, 0, 0, 0), (31, .getfield 34, 34, 2, 6, 0), (34, .isub, 35, 0, 0, 0), (35, .invokestatic 67, 38, 1000, 2, 0), (38, .iadd, 39, 0, 0, 0), (39, .istore_n 2, 40, 0, 0, 0), (40, .iinc 3 1, 43, 0, 0, 0), (43, .goto (-39), 46, 4, 0, 0), (46, .iload_n 2, 47, 0, 0, 0), (47, .ireturn, 48, 0, 0, 0)]
def tb_27 : List EN := [(0, .iconst 0, 1, 0, 0, 0), (1, .istore_n 1, 2, 0, 0, 0), (2, .iconst 0, 3, 0, 0, 0), (3, .istore_n 2, 4, 0, 0, 0), (4, .iload_n 2, 5, 0, 0, 0), (5, .aload_n 0, 6, 0, 0, 0), (6, .getfield 31, 9, 2, 5, 0), (9, .if_icmp .ge 20, 12, 29, 0, 0), (12, .aload_n 0, 13, 0, 0, 0), (13, .iload_n 2, 14, 0, 0, 0), (14, .invokevirtual 73, 17, 24, 2, 0), (17, .ifCond .ne 6, 20, 23, 0, 0), (20, .iinc 1 1, 23, 0, 0, 0), (23, .iinc 2 1, 26, 0, 0, 0), (26, .goto (-22), 29, 4, 0, 0), (29, .iload_n 1, 30, 0, 0, 0), (30, .ireturn, 31, 0, 0, 0)]
def tb_28 : List EN := [(0, .iconst 0, 1, 0, 0, 0), (1, .istore_n 1, 2, 0, 0, 0), (2, .iconst 0, 3, 0, 0, 0), (3, .istore_n 2, 4, 0, 0, 0), (4, .iload_n 2, 5, 0, 0, 0), (5, .aload_n 0, 6, 0, 0, 0), (6, .getfield 27, 9, 2, 4, 0), (9, .if_icmp .ge 27, 12, 36, 0, 0), (12, .aload_n 0, 13, 0, 0, 0), (13, .getfield 15, 16, 2, 1, 0), (16, .iload_n 2, 17, 0, 0, 0), (17, .iaload, 18, 0, 0, 0), (18, .aload_n 0, 19, 0, 0, 0), (19, .getfield 9, 22, 2, 0, 0), (22, .iload_n 2, 23, 0, 0, 0), (23, .iaload, 24, 0, 0, 0), (24, .if_icmp .ge 6, 27, 30, 0, 0), (27, .iinc 1 1, 30, 0, 0, 0), (30, .iinc 2 1, 33, 0, 0, 0), (33, .goto (-29), 36, 4, 0, 0), (36, .iload_n 1, 37, 0, 0, 0), (37, .ireturn, 38, 0, 0, 0)]
def tb_29 : List EN := [(0, .bipush (-4), 2, 0, 0, (-4)), (2, .istore_n 1, 3, 0, 0, 0), (3, .iconst 0, 4, 0, 0, 0), (4, .istore_n 2, 5, 0, 0, 0), (5, .iload_n 2, 6, 0, 0, 0), (6, .aload_n 0, 7, 0, 0, 0), (7, .getfield 27, 10, 2, 4, 0), (10, .if_icmp .ge 20, 13, 30, 0, 0), (13, .iload_n 1, 14, 0, 0, 0), (14, .aload_n 0, 15, 0, 0, 0), (15, .getfield 9, 18, 2, 0, 0), (18, .iload_n 2, 19, 0, 0, 0), (19, .iaload, 20, 0, 0, 0), (20, .invokestatic 67, 23, 1000, 2, 0), (23, .istore_n 1, 24, 0, 0, 0), (24, .iinc 2 1, 27, 0, 0, 0), (27, .goto (-22), 30, 5, 0, 0), (30, .iload_n 1, 31, 0, 0, 0), (31, .ireturn, 32, 0, 0, 0)]
def tb_30 : List EN := [(0, .iconst 0, 1, 0, 0, 0), (1, .istore_n 2, 2, 0, 0, 0), (2, .iload_n 2, 3, 0, 0, 0), (3, .iload_n 1, 4, 0, 0, 0), (4, .if_icmp .ge 16, 7, 20, 0, 0), (7, .aload_n 0, 8, 0, 0, 0), (8, .invokevirtual 77, 11, 31, 1, 0), (11, .ifCond .eq 9, 14, 20, 0, 0), (14, .iinc 2 1, 17, 0, 0, 0), (17, .goto (-15), 20, 2, 0, 0), (20, .iload_n 2, 21, 0, 0, 0), (21, .ireturn, 22, 0, 0, 0)]
def tb_31 : List EN := [(0, .aload_n 0, 1, 0, 0, 0), (1, .invokevirtual 61, 4, 19, 1, 0), (4, .aload_n 0, 5, 0, 0, 0), (5, .getfield 40, 8, 2, 8, 0), (8, .iadd, 9, 0, 0, 0), (9, .istore_n 1, 10, 0, 0, 0), (10, .iconst 0, 11, 0, 0, 0), (11, .istore_n 2, 12, 0, 0, 0), (12, .iconst 0, 13, 0, 0, 0), (13, .istore_n 3, 14, 0, 0, 0), (14, .iload_n 3, 15, 0, 0, 0), (15, .aload_n 0, 16, 0, 0, 0), (16, .getfield 31, 19, 2, 5, 0), (19, .if_icmp .ge 29, 22, 48, 0, 0), (22, .aload_n 0, 23, 0, 0, 0), (23, .getfield 21, 26, 2, 3, 0), (26, .iload_n 3, 27, 0, 0, 0), (27, .iaload, 28, 0, 0, 0), (28, .iload_n 1, 29, 0, 0, 0), (29, .if_icmp .le 13, 32, 42, 0, 0), (32, .aload_n 0, 33, 0, 0, 0), (33, .iload_n 3, 34, 0, 0, 0), (34, .invokevirtual 81, 37, 32, 2, 0), (37, .ifCond .eq 5, 40, 42, 0, 0), (40, .iconst 1, 41, 0, 0, 1), (41, .istore_n 2, 42, 0, 0, 0), (42, .iinc 3 1, 45, 0, 0, 0), (45, .goto (-31), 48, 14, 0, 0), (48, .iload_n 2, 49, 0, 0, 0), (49, .ireturn, 50, 1, 0, 0)]
def tb_32 : List EN := [(0, .aload_n 0, 1, 0, 0, 0), (1, .iload_n 1, 2, 0, 0, 0), (2, .invokevirtual 85, 5, 25, 2, 0), (5, .istore_n 2, 6, 0, 0, 0), (6, .iload_n 2, 7, 0, 0, 0), (7, .bipush (-4), 9, 0, 0, (-4)), (9, .if_icmp .eq 16, 12, 25, 0, 0), (12, .aload_n 0, 13, 0, 0, 0), (13, .getfield 15, 16, 2, 1, 0), (16, .iload_n 2, 17, 0, 0, 0), (17, .iaload, 18, 0, 0, 0), (18, .aload_n 0, 19, 0, 0, 0), (19, .getfield 34, 22, 2, 6, 0), (22, .if_icmp .gt 5, 25, 27, 0, 0), (25, .iconst 0, 26, 0, 0, 0), (26, .ireturn, 27, 1, 0, 0), (27, .aload_n 0, 28, 0, 0, 0), (28, .getfield 15, 31, 2, 1, 0), (31, .iload_n 2, 32, 0, 0, 0), (32, .aload_n 0, 33, 0, 0, 0), (33, .getfield 34, 36, 2, 6, 0), (36, .aload_n 0, 37, 0, 0, 0), (37, .getfield 15, 40, 2, 1, 0), (40, .iload_n 2, 41, 0, 0, 0), (41, .iaload, 42, 0, 0, 0), (42, .aload_n 0, 43, 0, 0, 0), (43, .getfield 37, 46, 2, 7, 0), (46, .isub, 47, 0, 0, 0), (47, .invokestatic 67, 50, 1000, 2, 0), (50, .iastore, 51, 0, 0, 0), (51, .iconst 1, 52, 0, 0, 1), (52, .ireturn, 53, 1, 0, 0)]
def tb_33 : List EN := [(0, .aload_n 0, 1, 0, 0, 0), (1, .iload_n 1, 2, 0, 0, 0), (2, .putfield 15, 5, 3, 1, 0), (5, .aload_n 0, 6, 0, 0, 0), (6, .iload_n 2, 7, 0, 0, 0), (7, .putfield 19, 10, 3, 2, 0), (10, .aload_n 0, 11, 0, 0, 0), (11, .getfield 9, 14, 3, 0, 0), (14, .iconst 0, 15, 0, 0, 0), (15, .invokestatic 22, 18, 196, 2, 0), (18, .return_, 19, 0, 0, 0)]
def tb_34 : List EN := [(0, .aload_n 0, 1, 0, 0, 0), (1, .getfield 15, 4, 3, 1, 0), (4, .iconst (-1), 5, 0, 0, (-1)), (5, .if_icmp .ne 5, 8, 10, 0, 0), (8, .iconst 1, 9, 0, 0, 1), (9, .ireturn, 10, 0, 0, 0), (10, .iload_n 1, 11, 0, 0, 0), (11, .iconst 0, 12, 0, 0, 0), (12, .aload_n 0, 13, 0, 0, 0), (13, .getfield 19, 16, 3, 2, 0), (16, .iconst 1, 17, 0, 0, 1), (17, .isub, 18, 0, 0, 0), (18, .invokestatic 28, 21, 89, 3, 1), (21, .ifCond .ne 5, 24, 26, 0, 0), (24, .iconst 2, 25, 0, 0, 2), (25, .ireturn, 26, 0, 0, 0), (26, .aload_n 0, 27, 0, 0, 0), (27, .getfield 9, 30, 3, 0, 0), (30, .iload_n 1, 31, 0, 0, 0), (31, .aload_n 0, 32, 0, 0, 0), (32, .getfield 15, 35, 3, 1, 0), (35, .ifCond .ne 8, 38, 43, 0, 0), (38, .iload_n 2, 39, 0, 0, 0), (39, .i2b, 40, 0, 0, 0), (40, .goto 17, 43, 57, 0, 0), (43, .aload_n 0, 44, 0, 0, 0), (44, .getfield 15, 47, 3, 1, 0), (47, .iconst 1, 48, 0, 0, 1), (48, .if_icmp .ne 8, 51, 56, 0, 0), (51, .iload_n 2, 52, 0, 0, 0), (52, .i2s, 53, 0, 0, 0), (53, .goto 4, 56, 57, 0, 0), (56, .iload_n 2, 57, 0, 0, 0), (57, .iastore, 58, 0, 0, 0), (58, .iconst 0, 59, 0, 0, 0), (59, .ireturn, 60, 0, 0, 0)]
def tb_35 : List EN := [(0, .aload_n 0, 1, 0, 0, 0), (1, .getfield 15, 4, 3, 1, 0), (4, .iload_n 1, 5, 0, 0, 0), (5, .if_icmp .ne 17, 8, 22, 0, 0), (8, .iload_n 2, 9, 0, 0, 0), (9, .iconst 0, 10, 0, 0, 0), (10, .aload_n 0, 11, 0, 0, 0), (11, .getfield 19, 14, 3, 2, 0), (14, .iconst 1, 15, 0, 0, 1), (15, .isub, 16, 0, 0, 0), (16, .invokestatic 28, 19, 89, 3, 1), (19, .ifCond .ne 5, 22, 24, 0, 0), (22, .iconst 0, 23, 0, 0, 0), (23, .ireturn, 24, 0, 0, 0), (24, .iload_n 3, 25, 0, 0, 0), (25, .aload_n 0, 26, 0, 0, 0), (26, .getfield 19, 29, 3, 2, 0), (29, .iload_n 2, 30, 0, 0, 0), (30, .isub, 31, 0, 0, 0), (31, .iconst 2, 32, 0, 0, 2), (32, .idiv, 33, 0, 0, 0), (33, .invokestatic 32, 36, 1001, 2, 0), (36, .ireturn, 37, 0, 0, 0)]
def tb_36 : List EN := [(0, .aload_n 0, 1, 0, 0, 0), (1, .getfield 15, 4, 3, 1, 0), (4, .iconst (-1), 5, 0, 0, (-1)), (5, .if_icmp .ne 5, 8, 10, 0, 0), (8, .iconst 1, 9, 0, 0, 1), (9, .ireturn, 10, 0, 0, 0), (10, .aload_n 0, 11, 0, 0, 0), (11, .getfield 15, 14, 3, 1, 0), (14, .iload_n 1, 15, 0, 0, 0), (15, .if_icmp .ne 7, 18, 22, 0, 0), (18, .iconst 2, 19, 0, 0, 2), (19, .goto 4, 22, 23, 0, 0), (22, .iconst 3, 23, 0, 0, 3), (23, .ireturn, 24, 0, 0, 0)]
def tb_37 : List EN := [(0, .iload_n 1, 1, 0, 0, 0), (1, .ifCond .lt 20, 4, 21, 0, 0), (4, .iload_n 1, 5, 0, 0, 0), (5, .aload_n 0, 6, 0, 0, 0), (6, .getfield 13, 9, 4, 1, 0), (9, .if_icmp .ge 12, 12, 21, 0, 0), (12, .aload_n 0, 13, 0, 0, 0), (13, .getfield 9, 16, 4, 0, 0), (16, .iload_n 1, 17, 0, 0, 0), (17, .baload, 18, 0, 0, 0), (18, .goto 4, 21, 22, 0, 0), (21, .iconst 0, 22, 0, 0, 0), (22, .ireturn, 23, 0, 0, 0)]
def tb_38 : List EN := [(0, .iload_n 3, 1, 0, 0, 0), (1, .iload_n 2, 2, 0, 0, 0), (2, .isub, 3, 0, 0, 0), (3, .aload_n 1, 4, 0, 0, 0), (4, .invokevirtual 17, 7, 1003, 1, 0), (7, .if_icmp .eq 5, 10, 12, 0, 0), (10, .iconst 0, 11, 0, 0, 0), (11, .ireturn, 12, 1, 0, 0), (12, .iconst 0, 13, 0, 0, 0), (13, .istore 4, 15, 0, 0, 0), (15, .iload 4, 17, 0, 0, 0), (17, .aload_n 1, 18, 0, 0, 0), (18, .invokevirtual 17, 21, 1003, 1, 0), (21, .if_icmp .ge 28, 24, 49, 0, 0), (24, .aload_n 0, 25, 0, 0, 0), (25, .iload_n 2, 26, 0, 0, 0), (26, .iload 4, 28, 0, 0, 0), (28, .iadd, 29, 0, 0, 0), (29, .invokevirtual 22, 32, 37, 2, 0), (32, .aload_n 1, 33, 0, 0, 0), (33, .iload 4, 35, 0, 0, 0), (35, .invokevirtual 26, 38, 1004, 2, 0), (38, .if_icmp .eq 5, 41, 43, 0, 0), (41, .iconst 0, 42, 0, 0, 0), (42, .ireturn, 43, 1, 0, 0), (43, .iinc 4 1, 46, 0, 0, 0), (46, .goto (-31), 49, 15, 0, 0), (49, .iconst 1, 50, 0, 0, 1), (50, .ireturn, 51, 1, 0, 0)]
def tb_39 : List EN := [(0, .aload_n 0, 1, 0, 0, 0), (1, .getfield 37, 4, 5, 1, 0), (4, .invokevirtual 41, 7, 13, 1, 1), (7, .aload_n 0, 8, 0, 0, 0), (8, .iconst 0, 9, 0, 0, 0), (9, .putfield 9, 12, 5, 2, 0), (12, .aload_n 0, 13, 0, 0, 0), (13, .iconst 0, 14, 0, 0, 0), (14, .putfield 15, 17, 5, 3, 0), (17, .aload_n 0, 18, 0, 0, 0), (18, .iconst 0, 19, 0, 0, 0), (19, .putfield 24, 22, 5, 6, 0), (22, .aload_n 0, 23, 0, 0, 0), (23, .iconst 0, 24, 0, 0, 0), (24, .putfield 30, 27, 5, 8, 0), (27, .iconst 1, 28, 0, 0, 1), (28, .istore_n 1, 29, 0, 0, 0), (29, .iconst 0, 30, 0, 0, 0), (30, .istore_n 2, 31, 0, 0, 0), (31, .iload_n 1, 32, 0, 0, 0), (32, .ifCond .eq 21, 35, 53, 0, 0), (35, .iload_n 2, 36, 0, 0, 0), (36, .sipush 160, 39, 0, 0, 160), (39, .if_icmp .gt 14, 42, 53, 0, 0), (42, .aload_n 0, 43, 0, 0, 0), (43, .invokevirtual 48, 46, 40, 1, 0), (46, .istore_n 1, 47, 0, 0, 0), (47, .iinc 2 1, 50, 0, 0, 0), (50, .goto (-19), 53, 31, 0, 0), (53, .return_, 54, 0, 0, 0)]
def tb_40 : List EN := [(0, .aload_n 0, 1, 0, 0, 0), (1, .invokevirtual 52, 4, 48, 1, 0), (4, .ifCond .eq 11, 7, 15, 0, 0), (7, .aload_n 0, 8, 0, 0, 0), (8, .getfield 18, 11, 5, 4, 0), (11, .iconst 3, 12, 0, 0, 3), (12, .if_icmp .ne 5, 15, 17, 0, 0), (15, .iconst 0, 16, 0, 0, 0), (16, .ireturn, 17, 1, 0, 0), (17, .aload_n 0, 18, 0, 0, 0), (18, .getfield 18, 21, 5, 4, 0), (21, .ifCond .ne 10, 24, 31, 0, 0), (24, .aload_n 0, 25, 0, 0, 0), (25, .invokevirtual 55, 28, 41, 1, 0), (28, .goto 4, 31, 32, 0, 0), (31, .iconst 5, 32, 0, 0, 5), (32, .istore_n 1, 33, 0, 0, 0), (33, .iload_n 1, 34, 0, 0, 0), (34, .iconst 5, 35, 0, 0, 5), (35, .if_icmp .ne 9, 38, 44, 0, 0), (38, .aload_n 0, 39, 0, 0, 0), (39, .iconst 2, 40, 0, 0, 2), (40, .invokevirtual 59, 43, 51, 2, 0), (43, .ireturn, 44, 1, 0, 0), (44, .iload_n 1, 45, 0, 0, 0), (45, .iconst 1, 46, 0, 0, 1), (46, .if_icmp .ne 8, 49, 54, 0, 0), (49, .aload_n 0, 50, 0, 0, 0), (50, .invokevirtual 63, 53, 47, 1, 0), (53, .ireturn, 54, 1, 0, 0), (54, .aload_n 0, 55, 0, 0, 0), (55, .getfield 30, 58, 5, 8, 0), (58, .iconst 1, 59, 0, 0, 1), (59, .iload_n 1, 60, 0, 0, 0), (60, .ishl, 61, 0, 0, 0), (61, .iand, 62, 0, 0, 0), (62, .ifCond .eq 9, 65, 71, 0, 0), (65, .aload_n 0, 66, 0, 0, 0), (66, .iconst 4, 67, 0, 0, 4), (67, .invokevirtual 59, 70, 51, 2, 0), (70, .ireturn, 71, 1, 0, 0), (71, .aload_n 0, 72, 0, 0, 0), (72, .dup, 73, 0, 0, 0), (73, .getfield 30, 76, 5, 8, 0), (76, .iconst 1, 77, 0, 0, 1), (77, .iload_n 1, 78, 0, 0, 0), (78, .ishl, 79, 0, 0, 0), (79, .ior, 80, 0, 0, 0), (80, .putfield 30, 83, 5, 8, 0), (83, .aload_n 0, 84, 0, 0, 0), (84, .iload_n 1, 85, 0, 0, 0), (85, .invokevirtual 66, 88, 43, 2, 0), (88, .ireturn, 89, 1, 0, 0)]
def tb_41 : List EN := [(0, .iconst 0, 1, 0, 0, 0), (1, .istore_n 1, 2, 0, 0, 0), (2, .iload_n 1, 3, 0, 0, 0), (3, .iconst 5, 4, 0, 0, 5), (4, .if_icmp .ge 33, 7, 37, 0, 0), (7, .aload_n 0, 8, 0, 0, 0), (8, .getfield 33, 11, 5, 0, 0), (11, .iload_n 1, 12, 0, 0, 0), (12, .invokestatic 69, 15, 42, 1, 0), (15, .aload_n 0, 16, 0, 0, 0), (16, .getfield 21, 19, 5, 5, 0), (19, .aload_n 0, 20, 0, 0, 0), (20, .getfield 24, 23, 5, 6, 0), (23, .invokevirtual 73, 26, 38, 4, 1), (26, .ifCond .eq 5, 29, 31, 0, 0), (29, .iload_n 1, 30, 0, 0, 0), (30, .ireturn, 31, 0, 0, 0), (31, .iinc 1 1, 34, 0, 0, 0), (34, .goto (-32), 37, 2, 0, 0), (37, .iconst 5, 38, 0, 0, 5), (38, .ireturn, 39, 0, 0, 0)]
def tb_42 : List EN := [(0, .iload_n 0, 1, 0, 0, 0), (1, .tableswitch 43 0 3 #[31, 34, 37, 40], 32, 0, 0, 0), (32, .ldc 77, 34, 100, 1, 0), (34, .areturn, 35, 0, 0, 0), (35, .ldc 79, 37, 101, 1, 0), (37, .areturn, 38, 0, 0, 0), (38, .ldc 81, 40, 102, 1, 0), (40, .areturn, 41, 0, 0, 0), (41, .ldc 83, 43, 103, 1, 0), (43, .areturn, 44, 0, 0, 0), (44, .ldc 85, 46, 104, 1, 0), (46, .areturn, 47, 0, 0, 0)]
def tb_43 : List EN := [(0, .aload_n 0, 1, 0, 0, 0), (1, .invokevirtual 52, 4, 48, 1, 0), (4, .ifCond .ne 5, 7, 9, 0, 0), (7, .iconst 0, 8, 0, 0, 0), (8, .ireturn, 9, 1, 0, 0), (9, .aload_n 0, 10, 0, 0, 0), (10, .getfield 18, 13, 5, 4, 0), (13, .iconst 1, 14, 0, 0, 1), (14, .if_icmp .eq 9, 17, 23, 0, 0), (17, .aload_n 0, 18, 0, 0, 0), (18, .iconst 2, 19, 0, 0, 2), (19, .invokevirtual 59, 22, 51, 2, 0), (22, .ireturn, 23, 1, 0, 0), (23, .aload_n 0, 24, 0, 0, 0), (24, .getfield 27, 27, 5, 7, 0), (27, .iload_n 1, 28, 0, 0, 0), (28, .invokestatic 87, 31, 44, 1, 0), (31, .iload_n 1, 32, 0, 0, 0), (32, .invokestatic 91, 35, 45, 1, 0), (35, .invokestatic 94, 38, 89, 3, 1), (38, .ifCond .ne 9, 41, 47, 0, 0), (41, .aload_n 0, 42, 0, 0, 0), (42, .iconst 3, 43, 0, 0, 3), (43, .invokevirtual 59, 46, 51, 2, 0), (46, .ireturn, 47, 1, 0, 0), (47, .aload_n 0, 48, 0, 0, 0), (48, .iload_n 1, 49, 0, 0, 0), (49, .invokevirtual 98, 52, 46, 2, 0), (52, .aload_n 0, 53, 0, 0, 0), (53, .invokevirtual 52, 56, 48, 1, 0), (56, .ifCond .eq 23, 59, 79, 0, 0), (59, .aload_n 0, 60, 0, 0, 0), (60, .getfield 18, 63, 5, 4, 0), (63, .iconst 2, 64, 0, 0, 2), (64, .if_icmp .eq 11, 67, 75, 0, 0), (67, .aload_n 0, 68, 0, 0, 0), (68, .iconst 2, 69, 0, 0, 2), (69, .invokevirtual 59, 72, 51, 2, 0), (72, .ifCond .eq 7, 75, 79, 0, 0), (75, .iconst 1, 76, 0, 0, 1), (76, .goto 4, 79, 80, 0, 0), (79, .iconst 0, 80, 0, 0, 0), (80, .ireturn, 81, 1, 0, 0)]
def tb_44 : List EN := [(0, .iload_n 0, 1, 0, 0, 0), (1, .lookupswitch 31 #[(0, 27), (3, 29)], 28, 0, 0, 0), (28, .iconst 2, 29, 0, 0, 2), (29, .ireturn, 30, 0, 0, 0), (30, .iconst 1, 31, 0, 0, 1), (31, .ireturn, 32, 0, 0, 0), (32, .iconst 0, 33, 0, 0, 0), (33, .ireturn, 34, 0, 0, 0)]
def tb_45 : List EN := [(0, .iload_n 0, 1, 0, 0, 0), (1, .tableswitch 40 0 3 #[31, 40, 33, 37], 32, 0, 0, 0), (32, .iconst 5, 33, 0, 0, 5), (33, .ireturn, 34, 0, 0, 0), (34, .sipush 999, 37, 0, 0, 999), (37, .ireturn, 38, 0, 0, 0), (38, .bipush 99, 40, 0, 0, 99), (40, .ireturn, 41, 0, 0, 0), (41, .bipush 99, 43, 0, 0, 99), (43, .ireturn, 44, 0, 0, 0)]
def tb_46 : List EN := [(0, .iload_n 1, 1, 0, 0, 0), (1, .tableswitch 73 0 3 #[31, 73, 45, 59], 32, 0, 0, 0), (32, .aload_n 0, 33, 0, 0, 0), (33, .getfield 37, 36, 5, 1, 0), (36, .aload_n 0, 37, 0, 0, 0), (37, .getfield 27, 40, 5, 7, 0), (40, .putfield 102, 43, 2, 5, 1), (43, .goto 42, 46, 85, 0, 0), (46, .aload_n 0, 47, 0, 0, 0), (47, .getfield 37, 50, 5, 1, 0), (50, .aload_n 0, 51, 0, 0, 0), (51, .getfield 27, 54, 5, 7, 0), (54, .putfield 105, 57, 2, 6, 1), (57, .goto 28, 60, 85, 0, 0), (60, .aload_n 0, 61, 0, 0, 0), (61, .getfield 37, 64, 5, 1, 0), (64, .aload_n 0, 65, 0, 0, 0), (65, .getfield 27, 68, 5, 7, 0), (68, .putfield 107, 71, 2, 7, 1), (71, .goto 14, 74, 85, 0, 0), (74, .aload_n 0, 75, 0, 0, 0), (75, .getfield 37, 78, 5, 1, 0), (78, .aload_n 0, 79, 0, 0, 0), (79, .getfield 27, 82, 5, 7, 0), (82, .putfield 109, 85, 2, 8, 1), (85, .return_, 86, 0, 0, 0)]
def tb_47 : List EN := [(0, .iconst 0, 1, 0, 0, 0), (1, .istore_n 1, 2, 0, 0, 0), (2, .iload_n 1, 3, 0, 0, 0), (3, .bipush 16, 5, 0, 0, 16), (5, .if_icmp .gt 96, 8, 101, 0, 0), (8, .aload_n 0, 9, 0, 0, 0), (9, .invokevirtual 52, 12, 48, 1, 0), (12, .ifCond .ne 5, 15, 17, 0, 0), (15, .iconst 0, 16, 0, 0, 0), (16, .ireturn, 17, 1, 0, 0), (17, .aload_n 0, 18, 0, 0, 0), (18, .getfield 18, 21, 5, 4, 0), (21, .iconst 2, 22, 0, 0, 2), (22, .if_icmp .ne 9, 25, 31, 0, 0), (25, .iload_n 1, 26, 0, 0, 0), (26, .ifCond .le 5, 29, 31, 0, 0), (29, .iconst 1, 30, 0, 0, 1), (30, .ireturn, 31, 1, 0, 0), (31, .aload_n 0, 32, 0, 0, 0), (32, .getfield 18, 35, 5, 4, 0), (35, .iconst 1, 36, 0, 0, 1), (36, .if_icmp .eq 9, 39, 45, 0, 0), (39, .aload_n 0, 40, 0, 0, 0), (40, .iconst 2, 41, 0, 0, 2), (41, .invokevirtual 59, 44, 51, 2, 0), (44, .ireturn, 45, 1, 0, 0), (45, .aload_n 0, 46, 0, 0, 0), (46, .getfield 37, 49, 5, 1, 0), (49, .getfield 111, 52, 2, 4, 1), (52, .bipush 16, 54, 0, 0, 16), (54, .if_icmp .lt 9, 57, 63, 0, 0), (57, .aload_n 0, 58, 0, 0, 0), (58, .iconst 5, 59, 0, 0, 5), (59, .invokevirtual 59, 62, 51, 2, 0), (62, .ireturn, 63, 1, 0, 0), (63, .aload_n 0, 64, 0, 0, 0), (64, .getfield 27, 67, 5, 7, 0), (67, .iconst 1, 68, 0, 0, 1), (68, .sipush 999, 71, 0, 0, 999), (71, .invokestatic 94, 74, 89, 3, 1), (74, .ifCond .ne 9, 77, 83, 0, 0), (77, .aload_n 0, 78, 0, 0, 0), (78, .iconst 3, 79, 0, 0, 3), (79, .invokevirtual 59, 82, 51, 2, 0), (82, .ireturn, 83, 1, 0, 0), (83, .aload_n 0, 84, 0, 0, 0), (84, .getfield 37, 87, 5, 1, 0), (87, .aload_n 0, 88, 0, 0, 0), (88, .getfield 27, 91, 5, 7, 0), (91, .iconst 0, 92, 0, 0, 0), (92, .invokevirtual 114, 95, 15, 3, 1), (95, .iinc 1 1, 98, 0, 0, 0), (98, .goto (-96), 101, 2, 0, 0), (101, .aload_n 0, 102, 0, 0, 0), (102, .iconst 5, 103, 0, 0, 5), (103, .invokevirtual 59, 106, 51, 2, 0), (106, .ireturn, 107, 1, 0, 0)]
def tb_48 : List EN := [(0, .aload_n 0, 1, 0, 0, 0), (1, .aload_n 0, 2, 0, 0, 0), (2, .getfield 24, 5, 5, 6, 0), (5, .putfield 21, 8, 5, 5, 0), (8, .aload_n 0, 9, 0, 0, 0), (9, .getfield 21, 12, 5, 5, 0), (12, .aload_n 0, 13, 0, 0, 0), (13, .getfield 33, 16, 5, 0, 0), (16, .getfield 118, 19, 4, 1, 1), (19, .if_icmp .ge 32, 22, 51, 0, 0), (22, .aload_n 0, 23, 0, 0, 0), (23, .getfield 33, 26, 5, 0, 0), (26, .aload_n 0, 27, 0, 0, 0), (27, .getfield 21, 30, 5, 5, 0), (30, .invokevirtual 121, 33, 37, 2, 1), (33, .bipush 32, 35, 0, 0, 32), (35, .if_icmp .ne 16, 38, 51, 0, 0), (38, .aload_n 0, 39, 0, 0, 0), (39, .dup, 40, 0, 0, 0), (40, .getfield 21, 43, 5, 5, 0), (43, .iconst 1, 44, 0, 0, 1), (44, .iadd, 45, 0, 0, 0), (45, .putfield 21, 48, 5, 5, 0), (48, .goto (-40), 51, 8, 0, 0), (51, .aload_n 0, 52, 0, 0, 0), (52, .aload_n 0, 53, 0, 0, 0), (53, .getfield 21, 56, 5, 5, 0), (56, .putfield 24, 59, 5, 6, 0), (59, .aload_n 0, 60, 0, 0, 0), (60, .getfield 21, 63, 5, 5, 0), (63, .aload_n 0, 64, 0, 0, 0), (64, .getfield 33, 67, 5, 0, 0), (67, .getfield 118, 70, 4, 1, 1), (70, .if_icmp .lt 10, 73, 80, 0, 0), (73, .aload_n 0, 74, 0, 0, 0), (74, .iconst 3, 75, 0, 0, 3), (75, .putfield 18, 78, 5, 4, 0), (78, .iconst 1, 79, 0, 0, 1), (79, .ireturn, 80, 1, 0, 0), (80, .aload_n 0, 81, 0, 0, 0), (81, .getfield 33, 84, 5, 0, 0), (84, .aload_n 0, 85, 0, 0, 0), (85, .getfield 21, 88, 5, 5, 0), (88, .invokevirtual 121, 91, 37, 2, 1), (91, .istore_n 1, 92, 0, 0, 0), (92, .iload_n 1, 93, 0, 0, 0), (93, .bipush 59, 95, 0, 0, 59), (95, .if_icmp .ne 20, 98, 115, 0, 0), (98, .aload_n 0, 99, 0, 0, 0), (99, .iconst 2, 100, 0, 0, 2), (100, .putfield 18, 103, 5, 4, 0), (103, .aload_n 0, 104, 0, 0, 0), (104, .dup, 105, 0, 0, 0), (105, .getfield 24, 108, 5, 6, 0), (108, .iconst 1, 109, 0, 0, 1), (109, .iadd, 110, 0, 0, 0), (110, .putfield 24, 113, 5, 6, 0), (113, .iconst 1, 114, 0, 0, 1), (114, .ireturn, 115, 1, 0, 0), (115, .iload_n 1, 116, 0, 0, 0), (116, .bipush 97, 118, 0, 0, 97), (118, .bipush 122, 120, 0, 0, 122), (120, .invokestatic 94, 123, 89, 3, 1), (123, .ifCond .eq 18, 126, 141, 0, 0), (126, .aload_n 0, 127, 0, 0, 0), (127, .iconst 0, 128, 0, 0, 0), (128, .putfield 18, 131, 5, 4, 0), (131, .aload_n 0, 132, 0, 0, 0), (132, .bipush 97, 134, 0, 0, 97), (134, .bipush 122, 136, 0, 0, 122), (136, .invokevirtual 124, 139, 49, 3, 0), (139, .iconst 1, 140, 0, 0, 1), (140, .ireturn, 141, 1, 0, 0), (141, .iload_n 1, 142, 0, 0, 0), (142, .bipush 48, 144, 0, 0, 48), (144, .bipush 57, 146, 0, 0, 57), (146, .invokestatic 94, 149, 89, 3, 1), (149, .ifCond .eq 21, 152, 170, 0, 0), (152, .aload_n 0, 153, 0, 0, 0), (153, .iconst 1, 154, 0, 0, 1), (154, .putfield 18, 157, 5, 4, 0), (157, .aload_n 0, 158, 0, 0, 0), (158, .bipush 48, 160, 0, 0, 48), (160, .bipush 57, 162, 0, 0, 57), (162, .invokevirtual 124, 165, 49, 3, 0), (165, .aload_n 0, 166, 0, 0, 0), (166, .invokevirtual 127, 169, 50, 1, 0), (169, .ireturn, 170, 1, 0, 0), (170, .aload_n 0, 171, 0, 0, 0), (171, .iconst 1, 172, 0, 0, 1), (172, .invokevirtual 59, 175, 51, 2, 0), (175, .ireturn, 176, 1, 0, 0)]
def tb_49 : List EN := [(0, .aload_n 0, 1, 0, 0, 0), (1, .getfield 24, 4, 5, 6, 0), (4, .aload_n 0, 5, 0, 0, 0), (5, .getfield 33, 8, 5, 0, 0), (8, .getfield 118, 11, 4, 1, 1), (11, .if_icmp .ge 35, 14, 46, 0, 0), (14, .aload_n 0, 15, 0, 0, 0), (15, .getfield 33, 18, 5, 0, 0), (18, .aload_n 0, 19, 0, 0, 0), (19, .getfield 24, 22, 5, 6, 0), (22, .invokevirtual 121, 25, 37, 2, 1), (25, .iload_n 1, 26, 0, 0, 0), (26, .iload_n 2, 27, 0, 0, 0), (27, .invokestatic 94, 30, 89, 3, 1), (30, .ifCond .eq 16, 33, 46, 0, 0), (33, .aload_n 0, 34, 0, 0, 0), (34, .dup, 35, 0, 0, 0), (35, .getfield 24, 38, 5, 6, 0), (38, .iconst 1, 39, 0, 0, 1), (39, .iadd, 40, 0, 0, 0), (40, .putfield 24, 43, 5, 6, 0), (43, .goto (-43), 46, 0, 0, 0), (46, .return_, 47, 0, 0, 0)]
def tb_50 : List EN := [(0, .aload_n 0, 1, 0, 0, 0), (1, .iconst 0, 2, 0, 0, 0), (2, .putfield 27, 5, 5, 7, 0), (5, .aload_n 0, 6, 0, 0, 0), (6, .getfield 24, 9, 5, 6, 0), (9, .aload_n 0, 10, 0, 0, 0), (10, .getfield 21, 13, 5, 5, 0), (13, .isub, 14, 0, 0, 0), (14, .iconst 3, 15, 0, 0, 3), (15, .if_icmp .le 9, 18, 24, 0, 0), (18, .aload_n 0, 19, 0, 0, 0), (19, .iconst 1, 20, 0, 0, 1), (20, .invokevirtual 59, 23, 51, 2, 0), (23, .ireturn, 24, 1, 0, 0), (24, .aload_n 0, 25, 0, 0, 0), (25, .getfield 21, 28, 5, 5, 0), (28, .istore_n 1, 29, 0, 0, 0), (29, .iload_n 1, 30, 0, 0, 0), (30, .aload_n 0, 31, 0, 0, 0), (31, .getfield 24, 34, 5, 6, 0), (34, .if_icmp .ge 32, 37, 66, 0, 0), (37, .aload_n 0, 38, 0, 0, 0), (38, .bipush 10, 40, 0, 0, 10), (40, .aload_n 0, 41, 0, 0, 0), (41, .getfield 27, 44, 5, 7, 0), (44, .imul, 45, 0, 0, 0), (45, .aload_n 0, 46, 0, 0, 0), (46, .getfield 33, 49, 5, 0, 0), (49, .iload_n 1, 50, 0, 0, 0), (50, .invokevirtual 121, 53, 37, 2, 1), (53, .iadd, 54, 0, 0, 0), (54, .bipush 48, 56, 0, 0, 48), (56, .isub, 57, 0, 0, 0), (57, .putfield 27, 60, 5, 7, 0), (60, .iinc 1 1, 63, 0, 0, 0), (63, .goto (-34), 66, 29, 0, 0), (66, .iconst 1, 67, 0, 0, 1), (67, .ireturn, 68, 1, 0, 0)]
def tb_51 : List EN := [(0, .aload_n 0, 1, 0, 0, 0), (1, .iload_n 1, 2, 0, 0, 0), (2, .putfield 9, 5, 5, 2, 0), (5, .aload_n 0, 6, 0, 0, 0), (6, .aload_n 0, 7, 0, 0, 0), (7, .getfield 21, 10, 5, 5, 0), (10, .putfield 15, 13, 5, 3, 0), (13, .iconst 0, 14, 0, 0, 0), (14, .ireturn, 15, 1, 0, 0)]
def tb_52 : List EN := [(0, .iload_n 2, 1, 0, 0, 0), (1, .tableswitch 65 1 3 #[27, 35, 50], 28, 0, 0, 0), (28, .aload_n 0, 29, 0, 0, 0), (29, .aload_n 1, 30, 0, 0, 0), (30, .invokevirtual 35, 33, 54, 2, 0), (33, .goto 38, 36, 71, 0, 0), (36, .aload_n 0, 37, 0, 0, 0), (37, .getfield 24, 40, 6, 3, 0), (40, .aload_n 1, 41, 0, 0, 0), (41, .aload_n 0, 42, 0, 0, 0), (42, .getfield 9, 45, 6, 0, 0), (45, .invokevirtual 39, 48, 4, 3, 1), (48, .goto 23, 51, 71, 0, 0), (51, .aload_n 0, 52, 0, 0, 0), (52, .getfield 31, 55, 6, 4, 0), (55, .aload_n 1, 56, 0, 0, 0), (56, .aload_n 0, 57, 0, 0, 0), (57, .getfield 9, 60, 6, 0, 0), (60, .invokevirtual 43, 63, 0, 3, 1), (63, .goto 8, 66, 71, 0, 0), (66, .aload_n 0, 67, 0, 0, 0), (67, .aload_n 1, 68, 0, 0, 0), (68, .invokevirtual 44, 71, 53, 2, 0), (71, .return_, 72, 0, 0, 0)]
def tb_53 : List EN := [(0, .iconst 0, 1, 0, 0, 0), (1, .istore_n 2, 2, 0, 0, 0), (2, .iload_n 2, 3, 0, 0, 0), (3, .aload_n 1, 4, 0, 0, 0), (4, .getfield 47, 7, 2, 4, 1), (7, .if_icmp .ge 21, 10, 28, 0, 0), (10, .aload_n 0, 11, 0, 0, 0), (11, .getfield 9, 14, 6, 0, 0), (14, .iload_n 2, 15, 0, 0, 0), (15, .iload_n 2, 16, 0, 0, 0), (16, .aload_n 1, 17, 0, 0, 0), (17, .getfield 53, 20, 2, 5, 1), (20, .irem, 21, 0, 0, 0), (21, .iastore, 22, 0, 0, 0), (22, .iinc 2 1, 25, 0, 0, 0), (25, .goto (-23), 28, 2, 0, 0), (28, .return_, 29, 0, 0, 0)]
def tb_54 : List EN := [(0, .iconst 0, 1, 0, 0, 0), (1, .istore_n 2, 2, 0, 0, 0), (2, .iload_n 2, 3, 0, 0, 0), (3, .aload_n 1, 4, 0, 0, 0), (4, .getfield 47, 7, 2, 4, 1), (7, .if_icmp .ge 20, 10, 27, 0, 0), (10, .aload_n 0, 11, 0, 0, 0), (11, .getfield 18, 14, 6, 2, 0), (14, .aload_n 1, 15, 0, 0, 0), (15, .iload_n 2, 16, 0, 0, 0), (16, .invokevirtual 56, 19, 23, 2, 1), (19, .iload_n 2, 20, 0, 0, 0), (20, .iastore, 21, 0, 0, 0), (21, .iinc 2 1, 24, 0, 0, 0), (24, .goto (-22), 27, 2, 0, 0), (27, .aload_n 0, 28, 0, 0, 0), (28, .getfield 15, 31, 6, 1, 0), (31, .iconst 0, 32, 0, 0, 0), (32, .invokestatic 60, 35, 196, 2, 0), (35, .iconst 0, 36, 0, 0, 0), (36, .istore_n 2, 37, 0, 0, 0), (37, .iload_n 2, 38, 0, 0, 0), (38, .aload_n 1, 39, 0, 0, 0), (39, .getfield 47, 42, 2, 4, 1), (42, .if_icmp .ge 53, 45, 95, 0, 0), (45, .aload_n 0, 46, 0, 0, 0), (46, .getfield 18, 49, 6, 2, 0), (49, .iload_n 2, 50, 0, 0, 0), (50, .iaload, 51, 0, 0, 0), (51, .istore_n 3, 52, 0, 0, 0), (52, .aload_n 0, 53, 0, 0, 0), (53, .getfield 9, 56, 6, 0, 0), (56, .iload_n 3, 57, 0, 0, 0), (57, .aload_n 0, 58, 0, 0, 0), (58, .getfield 15, 61, 6, 1, 0), (61, .aload_n 1, 62, 0, 0, 0), (62, .getfield 53, 65, 2, 5, 1), (65, .invokestatic 66, 68, 103, 2, 1), (68, .iastore, 69, 0, 0, 0), (69, .aload_n 0, 70, 0, 0, 0), (70, .getfield 15, 73, 6, 1, 0), (73, .aload_n 0, 74, 0, 0, 0), (74, .getfield 9, 77, 6, 0, 0), (77, .iload_n 3, 78, 0, 0, 0), (78, .iaload, 79, 0, 0, 0), (79, .dup2, 80, 0, 0, 0), (80, .iaload, 81, 0, 0, 0), (81, .aload_n 1, 82, 0, 0, 0), (82, .getfield 70, 85, 2, 0, 1), (85, .iload_n 3, 86, 0, 0, 0), (86, .iaload, 87, 0, 0, 0), (87, .iadd, 88, 0, 0, 0), (88, .iastore, 89, 0, 0, 0), (89, .iinc 2 1, 92, 0, 0, 0), (92, .goto (-55), 95, 37, 0, 0), (95, .return_, 96, 0, 0, 0)]
def tb_55 : List EN := [(0, .aload_n 1, 1, 0, 0, 0), (1, .getfield 70, 4, 2, 0, 1), (4, .aload_n 0, 5, 0, 0, 0), (5, .getfield 9, 8, 6, 0, 0), (8, .aload_n 1, 9, 0, 0, 0), (9, .getfield 47, 12, 2, 4, 1), (12, .aload_n 0, 13, 0, 0, 0), (13, .getfield 15, 16, 6, 1, 0), (16, .invokestatic 73, 19, 102, 4, 1), (19, .aload_n 0, 20, 0, 0, 0), (20, .getfield 15, 23, 6, 1, 0), (23, .aload_n 0, 24, 0, 0, 0), (24, .getfield 15, 27, 6, 1, 0), (27, .aload_n 1, 28, 0, 0, 0), (28, .getfield 53, 31, 2, 5, 1), (31, .invokestatic 66, 34, 103, 2, 1), (34, .iaload, 35, 0, 0, 0), (35, .ireturn, 36, 0, 0, 0)]
def tb_56 : List EN := [(0, .aload_n 0, 1, 0, 0, 0), (1, .aload_n 1, 2, 0, 0, 0), (2, .invokevirtual 77, 5, 55, 2, 0), (5, .istore_n 2, 6, 0, 0, 0), (6, .aload_n 0, 7, 0, 0, 0), (7, .getfield 15, 10, 6, 1, 0), (10, .aload_n 1, 11, 0, 0, 0), (11, .getfield 53, 14, 2, 5, 1), (14, .invokestatic 81, 17, 104, 2, 1), (17, .iload_n 2, 18, 0, 0, 0), (18, .isub, 19, 0, 0, 0), (19, .ireturn, 20, 0, 0, 0)]
def tb_57 : List EN := [(0, .iconst 0, 1, 0, 0, 0), (1, .istore_n 2, 2, 0, 0, 0), (2, .iconst 0, 3, 0, 0, 0), (3, .istore_n 3, 4, 0, 0, 0), (4, .iload_n 3, 5, 0, 0, 0), (5, .aload_n 1, 6, 0, 0, 0), (6, .getfield 47, 9, 2, 4, 1), (9, .if_icmp .ge 27, 12, 36, 0, 0), (12, .aload_n 0, 13, 0, 0, 0), (13, .getfield 9, 16, 6, 0, 0), (16, .iload_n 3, 17, 0, 0, 0), (17, .iaload, 18, 0, 0, 0), (18, .aload_n 1, 19, 0, 0, 0), (19, .getfield 84, 22, 2, 2, 1), (22, .iload_n 3, 23, 0, 0, 0), (23, .iaload, 24, 0, 0, 0), (24, .if_icmp .eq 6, 27, 30, 0, 0), (27, .iinc 2 1, 30, 0, 0, 0), (30, .iinc 3 1, 33, 0, 0, 0), (33, .goto (-29), 36, 4, 0, 0), (36, .iload_n 2, 37, 0, 0, 0), (37, .ireturn, 38, 0, 0, 0)]
def tb_58 : List EN := [(0, .iload_n 1, 1, 0, 0, 0), (1, .iconst 0, 2, 0, 0, 0), (2, .bipush 127, 4, 0, 0, 127), (4, .invokestatic 64, 7, 89, 3, 0), (7, .ifCond .ne 5, 10, 12, 0, 0), (10, .iconst (-1), 11, 0, 0, (-1)), (11, .ireturn, 12, 0, 0, 0), (12, .aload_n 0, 13, 0, 0, 0), (13, .getfield 10, 16, 7, 0, 0), (16, .getfield 68, 19, 4, 1, 1), (19, .sipush 160, 22, 0, 0, 160), (22, .if_icmp .lt 6, 25, 28, 0, 0), (25, .bipush (-3), 27, 0, 0, (-3)), (27, .ireturn, 28, 0, 0, 0), (28, .aload_n 0, 29, 0, 0, 0), (29, .getfield 10, 32, 7, 0, 0), (32, .getfield 71, 35, 4, 0, 1), (35, .aload_n 0, 36, 0, 0, 0), (36, .getfield 10, 39, 7, 0, 0), (39, .getfield 68, 42, 4, 1, 1), (42, .iload_n 1, 43, 0, 0, 0), (43, .i2b, 44, 0, 0, 0), (44, .bastore, 45, 0, 0, 0), (45, .aload_n 0, 46, 0, 0, 0), (46, .getfield 10, 49, 7, 0, 0), (49, .dup, 50, 0, 0, 0), (50, .getfield 68, 53, 4, 1, 1), (53, .iconst 1, 54, 0, 0, 1), (54, .iadd, 55, 0, 0, 0), (55, .putfield 68, 58, 4, 1, 1), (58, .aload_n 0, 59, 0, 0, 0), (59, .getfield 10, 62, 7, 0, 0), (62, .getfield 68, 65, 4, 1, 1), (65, .ireturn, 66, 0, 0, 0)]
def tb_59 : List EN := [(0, .iload_n 1, 1, 0, 0, 0), (1, .iconst 0, 2, 0, 0, 0), (2, .aload_n 0, 3, 0, 0, 0), (3, .getfield 10, 6, 7, 0, 0), (6, .getfield 68, 9, 4, 1, 1), (9, .invokestatic 64, 12, 89, 3, 0), (12, .ifCond .ne 5, 15, 17, 0, 0), (15, .iconst (-1), 16, 0, 0, (-1)), (16, .ireturn, 17, 0, 0, 0), (17, .aload_n 0, 18, 0, 0, 0), (18, .getfield 10, 21, 7, 0, 0), (21, .getfield 68, 24, 4, 1, 1), (24, .istore_n 2, 25, 0, 0, 0), (25, .aload_n 0, 26, 0, 0, 0), (26, .getfield 10, 29, 7, 0, 0), (29, .iload_n 1, 30, 0, 0, 0), (30, .putfield 68, 33, 4, 1, 1), (33, .iload_n 2, 34, 0, 0, 0), (34, .ireturn, 35, 0, 0, 0)]
def tb_60 : List EN := [(0, .aload_n 0, 1, 0, 0, 0), (1, .getfield 31, 4, 7, 3, 0), (4, .invokevirtual 75, 7, 39, 1, 1), (7, .aload_n 0, 8, 0, 0, 0), (8, .getfield 10, 11, 7, 0, 0), (11, .iconst 0, 12, 0, 0, 0), (12, .putfield 68, 15, 4, 1, 1), (15, .aload_n 0, 16, 0, 0, 0), (16, .aload_n 0, 17, 0, 0, 0), (17, .getfield 31, 20, 7, 3, 0), (20, .getfield 78, 23, 5, 2, 1), (23, .putfield 57, 26, 7, 8, 0), (26, .aload_n 0, 27, 0, 0, 0), (27, .getfield 57, 30, 7, 8, 0), (30, .ifCond .eq 14, 33, 44, 0, 0), (33, .bipush (-10), 35, 0, 0, (-10)), (35, .aload_n 0, 36, 0, 0, 0), (36, .getfield 31, 39, 7, 3, 0), (39, .getfield 81, 42, 5, 3, 1), (42, .isub, 43, 0, 0, 0), (43, .ireturn, 44, 0, 0, 0), (44, .aload_n 0, 45, 0, 0, 0), (45, .getfield 19, 48, 7, 1, 0), (48, .aload_n 0, 49, 0, 0, 0), (49, .getfield 23, 52, 7, 2, 0), (52, .invokevirtual 84, 55, 14, 2, 1), (55, .aload_n 0, 56, 0, 0, 0), (56, .iconst 0, 57, 0, 0, 0), (57, .invokevirtual 88, 60, 97, 2, 0), (60, .aload_n 0, 61, 0, 0, 0), (61, .invokevirtual 92, 64, 99, 1, 0), (64, .aload_n 0, 65, 0, 0, 0), (65, .getfield 19, 68, 7, 1, 0), (68, .getfield 95, 71, 2, 4, 1), (71, .ireturn, 72, 0, 0, 0)]
def tb_61 : List EN := [(0, .aload_n 0, 1, 0, 0, 0), (1, .getfield 57, 4, 7, 8, 0), (4, .ireturn, 5, 0, 0, 0)]
def tb_62 : List EN := [(0, .iload_n 1, 1, 0, 0, 0), (1, .tableswitch 155 0 9 #[55, 63, 71, 79, 87, 95, 103, 111, 119, 137], 56, 0, 0, 0), (56, .aload_n 0, 57, 0, 0, 0), (57, .getfield 19, 60, 7, 1, 0), (60, .getfield 95, 63, 2, 4, 1), (63, .ireturn, 64, 0, 0, 0), (64, .aload_n 0, 65, 0, 0, 0), (65, .getfield 19, 68, 7, 1, 0), (68, .getfield 98, 71, 2, 5, 1), (71, .ireturn, 72, 0, 0, 0), (72, .aload_n 0, 73, 0, 0, 0), (73, .getfield 19, 76, 7, 1, 0), (76, .getfield 101, 79, 2, 6, 1), (79, .ireturn, 80, 0, 0, 0), (80, .aload_n 0, 81, 0, 0, 0), (81, .getfield 19, 84, 7, 1, 0), (84, .getfield 104, 87, 2, 7, 1), (87, .ireturn, 88, 0, 0, 0), (88, .aload_n 0, 89, 0, 0, 0), (89, .getfield 19, 92, 7, 1, 0), (92, .getfield 107, 95, 2, 8, 1), (95, .ireturn, 96, 0, 0, 0), (96, .aload_n 0, 97, 0, 0, 0), (97, .getfield 19, 100, 7, 1, 0), (100, .invokevirtual 110, 103, 18, 1, 1), (103, .ireturn, 104, 0, 0, 0), (104, .aload_n 0, 105, 0, 0, 0), (105, .getfield 19, 108, 7, 1, 0), (108, .invokevirtual 114, 111, 19, 1, 1), (111, .ireturn, 112, 0, 0, 0), (112, .aload_n 0, 113, 0, 0, 0), (113, .getfield 19, 116, 7, 1, 0), (116, .invokevirtual 117, 119, 21, 1, 1), (119, .ireturn, 120, 0, 0, 0), (120, .aload_n 0, 121, 0, 0, 0), (121, .getfield 19, 124, 7, 1, 0), (124, .getfield 120, 127, 2, 1, 1), (127, .aload_n 0, 128, 0, 0, 0), (128, .getfield 19, 131, 7, 1, 0), (131, .getfield 95, 134, 2, 4, 1), (134, .invokestatic 124, 137, 101, 2, 0), (137, .ireturn, 138, 0, 0, 0), (138, .aload_n 0, 139, 0, 0, 0), (139, .getfield 19, 142, 7, 1, 0), (142, .getfield 128, 145, 2, 0, 1), (145, .aload_n 0, 146, 0, 0, 0), (146, .getfield 19, 149, 7, 1, 0), (149, .getfield 95, 152, 2, 4, 1), (152, .invokestatic 124, 155, 101, 2, 0), (155, .ireturn, 156, 0, 0, 0), (156, .iconst (-1), 157, 0, 0, (-1)), (157, .ireturn, 158, 0, 0, 0)]
def tb_63 : List EN := [(0, .aload_n 0, 1, 0, 0, 0), (1, .iload_n 1, 2, 0, 0, 0), (2, .invokevirtual 131, 5, 90, 2, 0), (5, .ifCond .ne 5, 8, 10, 0, 0), (8, .iconst (-1), 9, 0, 0, (-1)), (9, .ireturn, 10, 0, 0, 0), (10, .iload_n 2, 11, 0, 0, 0), (11, .tableswitch 68 0 3 #[29, 39, 49, 59], 40, 0, 0, 0), (40, .aload_n 0, 41, 0, 0, 0), (41, .getfield 19, 44, 7, 1, 0), (44, .getfield 128, 47, 2, 0, 1), (47, .iload_n 1, 48, 0, 0, 0), (48, .iaload, 49, 0, 0, 0), (49, .ireturn, 50, 0, 0, 0), (50, .aload_n 0, 51, 0, 0, 0), (51, .getfield 19, 54, 7, 1, 0), (54, .getfield 120, 57, 2, 1, 1), (57, .iload_n 1, 58, 0, 0, 0), (58, .iaload, 59, 0, 0, 0), (59, .ireturn, 60, 0, 0, 0), (60, .aload_n 0, 61, 0, 0, 0), (61, .getfield 19, 64, 7, 1, 0), (64, .getfield 135, 67, 2, 2, 1), (67, .iload_n 1, 68, 0, 0, 0), (68, .iaload, 69, 0, 0, 0), (69, .ireturn, 70, 0, 0, 0), (70, .aload_n 0, 71, 0, 0, 0), (71, .getfield 19, 74, 7, 1, 0), (74, .iload_n 1, 75, 0, 0, 0), (75, .invokevirtual 138, 78, 23, 2, 1), (78, .ireturn, 79, 0, 0, 0), (79, .iconst (-1), 80, 0, 0, (-1)), (80, .ireturn, 81, 0, 0, 0)]
def tb_64 : List EN := [(0, .aload_n 0, 1, 0, 0, 0), (1, .iload_n 1, 2, 0, 0, 0), (2, .invokevirtual 142, 5, 91, 2, 0), (5, .ifCond .ne 5, 8, 10, 0, 0), (8, .iconst (-1), 9, 0, 0, (-1)), (9, .ireturn, 10, 0, 0, 0), (10, .iload_n 2, 11, 0, 0, 0), (11, .tableswitch 81 0 4 #[33, 42, 54, 63, 72], 44, 0, 0, 0), (44, .aload_n 0, 45, 0, 0, 0), (45, .getfield 19, 48, 7, 1, 0), (48, .iload_n 1, 49, 0, 0, 0), (49, .invokevirtual 145, 52, 17, 2, 1), (52, .ireturn, 53, 0, 0, 0), (53, .aload_n 0, 54, 0, 0, 0), (54, .getfield 19, 57, 7, 1, 0), (57, .iload_n 1, 58, 0, 0, 0), (58, .invokevirtual 148, 61, 24, 2, 1), (61, .invokestatic 151, 64, 195, 1, 0), (64, .ireturn, 65, 0, 0, 0), (65, .aload_n 0, 66, 0, 0, 0), (66, .getfield 19, 69, 7, 1, 0), (69, .iload_n 1, 70, 0, 0, 0), (70, .invokevirtual 156, 73, 25, 2, 1), (73, .ireturn, 74, 0, 0, 0), (74, .aload_n 0, 75, 0, 0, 0), (75, .getfield 19, 78, 7, 1, 0), (78, .iload_n 1, 79, 0, 0, 0), (79, .invokevirtual 148, 82, 24, 2, 1), (82, .ireturn, 83, 0, 0, 0), (83, .aload_n 0, 84, 0, 0, 0), (84, .getfield 19, 87, 7, 1, 0), (87, .iload_n 1, 88, 0, 0, 0), (88, .invokevirtual 159, 91, 26, 2, 1), (91, .ireturn, 92, 0, 0, 0), (92, .iconst (-1), 93, 0, 0, (-1)), (93, .ireturn, 94, 0, 0, 0)]
def tb_65 : List EN := [(0, .iload_n 1, 1, 0, 0, 0), (1, .invokestatic 162, 4, 92, 1, 0), (4, .ifCond .ne 5, 7, 9, 0, 0), (7, .iconst (-1), 8, 0, 0, (-1)), (8, .ireturn, 9, 0, 0, 0), (9, .aload_n 0, 10, 0, 0, 0), (10, .iload_n 1, 11, 0, 0, 0), (11, .invokevirtual 165, 14, 93, 2, 0), (14, .ifCond .ne 6, 17, 20, 0, 0), (17, .bipush (-2), 19, 0, 0, (-2)), (19, .ireturn, 20, 0, 0, 0), (20, .aload_n 0, 21, 0, 0, 0), (21, .iload_n 1, 22, 0, 0, 0), (22, .invokevirtual 88, 25, 97, 2, 0), (25, .aload_n 0, 26, 0, 0, 0), (26, .getfield 19, 29, 7, 1, 0), (29, .invokevirtual 117, 32, 21, 1, 1), (32, .ireturn, 33, 0, 0, 0)]
def tb_66 : List EN := [(0, .iload_n 1, 1, 0, 0, 0), (1, .invokestatic 162, 4, 92, 1, 0), (4, .ifCond .eq 12, 7, 16, 0, 0), (7, .iload_n 2, 8, 0, 0, 0), (8, .iconst 0, 9, 0, 0, 0), (9, .iconst 2, 10, 0, 0, 2), (10, .invokestatic 64, 13, 89, 3, 0), (13, .ifCond .ne 5, 16, 18, 0, 0), (16, .iconst (-1), 17, 0, 0, (-1)), (17, .ireturn, 18, 0, 0, 0), (18, .aload_n 0, 19, 0, 0, 0), (19, .iload_n 1, 20, 0, 0, 0), (20, .invokevirtual 165, 23, 93, 2, 0), (23, .ifCond .ne 6, 26, 29, 0, 0), (26, .bipush (-2), 28, 0, 0, (-2)), (28, .ireturn, 29, 0, 0, 0), (29, .aload_n 0, 30, 0, 0, 0), (30, .getfield 46, 33, 7, 6, 0), (33, .aload_n 0, 34, 0, 0, 0), (34, .getfield 19, 37, 7, 1, 0), (37, .iload_n 1, 38, 0, 0, 0), (38, .invokevirtual 168, 41, 52, 3, 1), (41, .iload_n 2, 42, 0, 0, 0), (42, .lookupswitch 50 #[(0, 26), (1, 38)], 68, 0, 0, 0), (68, .aload_n 0, 69, 0, 0, 0), (69, .getfield 46, 72, 7, 6, 0), (72, .aload_n 0, 73, 0, 0, 0), (73, .getfield 19, 76, 7, 1, 0), (76, .invokevirtual 172, 79, 55, 2, 1), (79, .ireturn, 80, 0, 0, 0), (80, .aload_n 0, 81, 0, 0, 0), (81, .getfield 46, 84, 7, 6, 0), (84, .aload_n 0, 85, 0, 0, 0), (85, .getfield 19, 88, 7, 1, 0), (88, .invokevirtual 175, 91, 56, 2, 1), (91, .ireturn, 92, 0, 0, 0), (92, .aload_n 0, 93, 0, 0, 0), (93, .getfield 46, 96, 7, 6, 0), (96, .aload_n 0, 97, 0, 0, 0), (97, .getfield 19, 100, 7, 1, 0), (100, .invokevirtual 177, 103, 57, 2, 1), (103, .ireturn, 104, 0, 0, 0)]
def tb_67 : List EN := [(0, .iload_n 1, 1, 0, 0, 0), (1, .invokestatic 162, 4, 92, 1, 0), (4, .ifCond .eq 11, 7, 15, 0, 0), (7, .aload_n 0, 8, 0, 0, 0), (8, .iload_n 2, 9, 0, 0, 0), (9, .invokevirtual 131, 12, 90, 2, 0), (12, .ifCond .ne 5, 15, 17, 0, 0), (15, .iconst (-1), 16, 0, 0, (-1)), (16, .ireturn, 17, 0, 0, 0), (17, .aload_n 0, 18, 0, 0, 0), (18, .iload_n 1, 19, 0, 0, 0), (19, .invokevirtual 165, 22, 93, 2, 0), (22, .ifCond .ne 6, 25, 28, 0, 0), (25, .bipush (-2), 27, 0, 0, (-2)), (27, .ireturn, 28, 0, 0, 0), (28, .aload_n 0, 29, 0, 0, 0), (29, .getfield 46, 32, 7, 6, 0), (32, .aload_n 0, 33, 0, 0, 0), (33, .getfield 19, 36, 7, 1, 0), (36, .iload_n 1, 37, 0, 0, 0), (37, .invokevirtual 168, 40, 52, 3, 1), (40, .aload_n 0, 41, 0, 0, 0), (41, .getfield 46, 44, 7, 6, 0), (44, .getfield 180, 47, 6, 0, 1), (47, .iload_n 2, 48, 0, 0, 0), (48, .iaload, 49, 0, 0, 0), (49, .ireturn, 50, 0, 0, 0)]
def tb_68 : List EN := [(0, .aload_n 0, 1, 0, 0, 0), (1, .getfield 19, 4, 7, 1, 0), (4, .getfield 128, 7, 2, 0, 1), (7, .aload_n 0, 8, 0, 0, 0), (8, .getfield 19, 11, 7, 1, 0), (11, .getfield 95, 14, 2, 4, 1), (14, .invokestatic 124, 17, 101, 2, 0), (17, .aload_n 0, 18, 0, 0, 0), (18, .getfield 19, 21, 7, 1, 0), (21, .getfield 98, 24, 2, 5, 1), (24, .idiv, 25, 0, 0, 0), (25, .istore_n 2, 26, 0, 0, 0), (26, .iload_n 1, 27, 0, 0, 0), (27, .tableswitch 43 0 2 #[25, 27, 37], 52, 0, 0, 0), (52, .iload_n 2, 53, 0, 0, 0), (53, .ireturn, 54, 0, 0, 0), (54, .iload_n 2, 55, 0, 0, 0), (55, .aload_n 0, 56, 0, 0, 0), (56, .getfield 19, 59, 7, 1, 0), (59, .invokevirtual 183, 62, 20, 1, 1), (62, .isub, 63, 0, 0, 0), (63, .ireturn, 64, 0, 0, 0), (64, .aload_n 0, 65, 0, 0, 0), (65, .iload_n 2, 66, 0, 0, 0), (66, .invokevirtual 186, 69, 98, 2, 0), (69, .ireturn, 70, 0, 0, 0), (70, .iconst (-1), 71, 0, 0, (-1)), (71, .ireturn, 72, 0, 0, 0)]
def tb_69 : List EN := [(0, .iload_n 1, 1, 0, 0, 0), (1, .ifCond .ge 5, 4, 6, 0, 0), (4, .iconst (-1), 5, 0, 0, (-1)), (5, .ireturn, 6, 0, 0, 0), (6, .aload_n 0, 7, 0, 0, 0), (7, .getfield 46, 10, 7, 6, 0), (10, .aload_n 0, 11, 0, 0, 0), (11, .getfield 19, 14, 7, 1, 0), (14, .iconst 2, 15, 0, 0, 2), (15, .invokevirtual 168, 18, 52, 3, 1), (18, .iload_n 1, 19, 0, 0, 0), (19, .aload_n 0, 20, 0, 0, 0), (20, .getfield 46, 23, 7, 6, 0), (23, .getfield 189, 26, 6, 3, 1), (26, .getfield 193, 29, 1, 4, 1), (29, .if_icmp .ge 18, 32, 47, 0, 0), (32, .aload_n 0, 33, 0, 0, 0), (33, .getfield 46, 36, 7, 6, 0), (36, .getfield 189, 39, 6, 3, 1), (39, .getfield 198, 42, 1, 3, 1), (42, .iload_n 1, 43, 0, 0, 0), (43, .iaload, 44, 0, 0, 0), (44, .goto 5, 47, 49, 0, 0), (47, .bipush (-4), 49, 0, 0, (-4)), (49, .ireturn, 50, 0, 0, 0)]
def tb_70 : List EN := [(0, .aload_n 0, 1, 0, 0, 0), (1, .iload_n 1, 2, 0, 0, 0), (2, .invokevirtual 131, 5, 90, 2, 0), (5, .ifCond .eq 11, 8, 16, 0, 0), (8, .aload_n 0, 9, 0, 0, 0), (9, .iload_n 2, 10, 0, 0, 0), (10, .invokevirtual 142, 13, 91, 2, 0), (13, .ifCond .ne 5, 16, 18, 0, 0), (16, .iconst (-1), 17, 0, 0, (-1)), (17, .ireturn, 18, 0, 0, 0), (18, .aload_n 0, 19, 0, 0, 0), (19, .getfield 19, 22, 7, 1, 0), (22, .getfield 135, 25, 2, 2, 1), (25, .iload_n 1, 26, 0, 0, 0), (26, .iaload, 27, 0, 0, 0), (27, .istore_n 3, 28, 0, 0, 0), (28, .aload_n 0, 29, 0, 0, 0), (29, .getfield 19, 32, 7, 1, 0), (32, .getfield 135, 35, 2, 2, 1), (35, .iload_n 1, 36, 0, 0, 0), (36, .iload_n 2, 37, 0, 0, 0), (37, .iastore, 38, 0, 0, 0), (38, .iload_n 3, 39, 0, 0, 0), (39, .ireturn, 40, 0, 0, 0)]
def tb_71 : List EN := [(0, .aload_n 0, 1, 0, 0, 0), (1, .iload_n 1, 2, 0, 0, 0), (2, .invokevirtual 131, 5, 90, 2, 0), (5, .ifCond .eq 11, 8, 16, 0, 0), (8, .aload_n 0, 9, 0, 0, 0), (9, .iload_n 2, 10, 0, 0, 0), (10, .invokevirtual 131, 13, 90, 2, 0), (13, .ifCond .ne 5, 16, 18, 0, 0), (16, .iconst (-1), 17, 0, 0, (-1)), (17, .ireturn, 18, 0, 0, 0), (18, .aload_n 0, 19, 0, 0, 0), (19, .getfield 19, 22, 7, 1, 0), (22, .getfield 135, 25, 2, 2, 1), (25, .iload_n 1, 26, 0, 0, 0), (26, .iaload, 27, 0, 0, 0), (27, .istore_n 3, 28, 0, 0, 0), (28, .aload_n 0, 29, 0, 0, 0), (29, .getfield 19, 32, 7, 1, 0), (32, .getfield 135, 35, 2, 2, 1), (35, .iload_n 1, 36, 0, 0, 0), (36, .aload_n 0, 37, 0, 0, 0), (37, .getfield 19, 40, 7, 1, 0), (40, .getfield 135, 43, 2, 2, 1), (43, .iload_n 2, 44, 0, 0, 0), (44, .iaload, 45, 0, 0, 0), (45, .iastore, 46, 0, 0, 0), (46, .aload_n 0, 47, 0, 0, 0), (47, .getfield 19, 50, 7, 1, 0), (50, .getfield 135, 53, 2, 2, 1), (53, .iload_n 2, 54, 0, 0, 0), (54, .iload_n 3, 55, 0, 0, 0), (55, .iastore, 56, 0, 0, 0), (56, .aload_n 0, 57, 0, 0, 0), (57, .getfield 19, 60, 7, 1, 0), (60, .invokevirtual 117, 63, 21, 1, 1), (63, .ireturn, 64, 0, 0, 0)]
def tb_72 : List EN := [(0, .aload_n 0, 1, 0, 0, 0), (1, .getfield 19, 4, 7, 1, 0), (4, .invokevirtual 114, 7, 19, 1, 1), (7, .istore_n 1, 8, 0, 0, 0), (8, .bipush (-4), 10, 0, 0, (-4)), (10, .istore_n 2, 11, 0, 0, 0), (11, .iconst 0, 12, 0, 0, 0), (12, .istore_n 3, 13, 0, 0, 0), (13, .iload_n 3, 14, 0, 0, 0), (14, .aload_n 0, 15, 0, 0, 0), (15, .getfield 19, 18, 7, 1, 0), (18, .getfield 95, 21, 2, 4, 1), (21, .if_icmp .ge 61, 24, 82, 0, 0), (24, .iload_n 3, 25, 0, 0, 0), (25, .iconst 1, 26, 0, 0, 1), (26, .iadd, 27, 0, 0, 0), (27, .istore 4, 29, 0, 0, 0), (29, .iload 4, 31, 0, 0, 0), (31, .aload_n 0, 32, 0, 0, 0), (32, .getfield 19, 35, 7, 1, 0), (35, .getfield 95, 38, 2, 4, 1), (38, .if_icmp .ge 38, 41, 76, 0, 0), (41, .aload_n 0, 42, 0, 0, 0), (42, .getfield 19, 45, 7, 1, 0), (45, .iload_n 3, 46, 0, 0, 0), (46, .iload 4, 48, 0, 0, 0), (48, .invokevirtual 201, 51, 22, 3, 1), (51, .istore 5, 53, 0, 0, 0), (53, .iload 5, 55, 0, 0, 0), (55, .iload_n 1, 56, 0, 0, 0), (56, .if_icmp .le 14, 59, 70, 0, 0), (59, .iload 5, 61, 0, 0, 0), (61, .istore_n 1, 62, 0, 0, 0), (62, .bipush 100, 64, 0, 0, 100), (64, .iload_n 3, 65, 0, 0, 0), (65, .imul, 66, 0, 0, 0), (66, .iload 4, 68, 0, 0, 0), (68, .iadd, 69, 0, 0, 0), (69, .istore_n 2, 70, 0, 0, 0), (70, .iinc 4 1, 73, 0, 0, 0), (73, .goto (-44), 76, 29, 0, 0), (76, .iinc 3 1, 79, 0, 0, 0), (79, .goto (-66), 82, 13, 0, 0), (82, .iload_n 2, 83, 0, 0, 0), (83, .ireturn, 84, 0, 0, 0)]
def tb_73 : List EN := [(0, .iload_n 1, 1, 0, 0, 0), (1, .iconst 1, 2, 0, 0, 1), (2, .sipush 999, 5, 0, 0, 999), (5, .invokestatic 64, 8, 89, 3, 0), (8, .ifCond .ne 5, 11, 13, 0, 0), (11, .iconst (-1), 12, 0, 0, (-1)), (12, .ireturn, 13, 0, 0, 0), (13, .aload_n 0, 14, 0, 0, 0), (14, .getfield 19, 17, 7, 1, 0), (17, .getfield 95, 20, 2, 4, 1), (20, .bipush 16, 22, 0, 0, 16), (22, .if_icmp .lt 6, 25, 28, 0, 0), (25, .bipush (-3), 27, 0, 0, (-3)), (27, .ireturn, 28, 0, 0, 0), (28, .aload_n 0, 29, 0, 0, 0), (29, .getfield 19, 32, 7, 1, 0), (32, .iload_n 1, 33, 0, 0, 0), (33, .aload_n 0, 34, 0, 0, 0), (34, .getfield 19, 37, 7, 1, 0), (37, .invokevirtual 110, 40, 18, 1, 1), (40, .invokevirtual 205, 43, 15, 3, 1), (43, .aload_n 0, 44, 0, 0, 0), (44, .getfield 19, 47, 7, 1, 0), (47, .getfield 95, 50, 2, 4, 1), (50, .ireturn, 51, 0, 0, 0)]
def tb_74 : List EN := [(0, .aload_n 0, 1, 0, 0, 0), (1, .iload_n 1, 2, 0, 0, 0), (2, .invokevirtual 131, 5, 90, 2, 0), (5, .ifCond .ne 5, 8, 10, 0, 0), (8, .iconst (-1), 9, 0, 0, (-1)), (9, .ireturn, 10, 0, 0, 0), (10, .aload_n 0, 11, 0, 0, 0), (11, .getfield 19, 14, 7, 1, 0), (14, .iload_n 1, 15, 0, 0, 0), (15, .invokevirtual 209, 18, 16, 2, 1), (18, .aload_n 0, 19, 0, 0, 0), (19, .getfield 19, 22, 7, 1, 0), (22, .getfield 95, 25, 2, 4, 1), (25, .ireturn, 26, 0, 0, 0)]
def tb_75 : List EN := [(0, .aload_n 0, 1, 0, 0, 0), (1, .iload_n 1, 2, 0, 0, 0), (2, .invokevirtual 131, 5, 90, 2, 0), (5, .ifCond .eq 14, 8, 19, 0, 0), (8, .iload_n 2, 9, 0, 0, 0), (9, .iconst 1, 10, 0, 0, 1), (10, .sipush 999, 13, 0, 0, 999), (13, .invokestatic 64, 16, 89, 3, 0), (16, .ifCond .ne 5, 19, 21, 0, 0), (19, .iconst (-1), 20, 0, 0, (-1)), (20, .ireturn, 21, 0, 0, 0), (21, .aload_n 0, 22, 0, 0, 0), (22, .getfield 19, 25, 7, 1, 0), (25, .getfield 128, 28, 2, 0, 1), (28, .iload_n 1, 29, 0, 0, 0), (29, .iaload, 30, 0, 0, 0), (30, .istore_n 3, 31, 0, 0, 0), (31, .aload_n 0, 32, 0, 0, 0), (32, .getfield 19, 35, 7, 1, 0), (35, .getfield 128, 38, 2, 0, 1), (38, .iload_n 1, 39, 0, 0, 0), (39, .iload_n 2, 40, 0, 0, 0), (40, .iastore, 41, 0, 0, 0), (41, .aload_n 0, 42, 0, 0, 0), (42, .getfield 19, 45, 7, 1, 0), (45, .getfield 120, 48, 2, 1, 1), (48, .iload_n 1, 49, 0, 0, 0), (49, .iload_n 2, 50, 0, 0, 0), (50, .iastore, 51, 0, 0, 0), (51, .iload_n 3, 52, 0, 0, 0), (52, .ireturn, 53, 0, 0, 0)]
def tb_76 : List EN := [(0, .iconst (-1), 1, 0, 0, (-1)), (1, .istore_n 3, 2, 0, 0, 0), (2, .iload_n 1, 3, 0, 0, 0), (3, .ifCond .ne 33, 6, 36, 0, 0), (6, .iload_n 2, 7, 0, 0, 0), (7, .iconst 0, 8, 0, 0, 0), (8, .sipush 999, 11, 0, 0, 999), (11, .invokestatic 64, 14, 89, 3, 0), (14, .ifCond .eq 22, 17, 36, 0, 0), (17, .aload_n 0, 18, 0, 0, 0), (18, .getfield 19, 21, 7, 1, 0), (21, .getfield 101, 24, 2, 6, 1), (24, .istore_n 3, 25, 0, 0, 0), (25, .aload_n 0, 26, 0, 0, 0), (26, .getfield 19, 29, 7, 1, 0), (29, .iload_n 2, 30, 0, 0, 0), (30, .putfield 101, 33, 2, 6, 1), (33, .goto 68, 36, 101, 0, 0), (36, .iload_n 1, 37, 0, 0, 0), (37, .iconst 1, 38, 0, 0, 1), (38, .if_icmp .ne 32, 41, 70, 0, 0), (41, .iload_n 2, 42, 0, 0, 0), (42, .iconst 1, 43, 0, 0, 1), (43, .bipush 99, 45, 0, 0, 99), (45, .invokestatic 64, 48, 89, 3, 0), (48, .ifCond .eq 22, 51, 70, 0, 0), (51, .aload_n 0, 52, 0, 0, 0), (52, .getfield 19, 55, 7, 1, 0), (55, .getfield 104, 58, 2, 7, 1), (58, .istore_n 3, 59, 0, 0, 0), (59, .aload_n 0, 60, 0, 0, 0), (60, .getfield 19, 63, 7, 1, 0), (63, .iload_n 2, 64, 0, 0, 0), (64, .putfield 104, 67, 2, 7, 1), (67, .goto 34, 70, 101, 0, 0), (70, .iload_n 1, 71, 0, 0, 0), (71, .iconst 2, 72, 0, 0, 2), (72, .if_icmp .ne 29, 75, 101, 0, 0), (75, .iload_n 2, 76, 0, 0, 0), (76, .iconst 0, 77, 0, 0, 0), (77, .bipush 99, 79, 0, 0, 99), (79, .invokestatic 64, 82, 89, 3, 0), (82, .ifCond .eq 19, 85, 101, 0, 0), (85, .aload_n 0, 86, 0, 0, 0), (86, .getfield 19, 89, 7, 1, 0), (89, .getfield 107, 92, 2, 8, 1), (92, .istore_n 3, 93, 0, 0, 0), (93, .aload_n 0, 94, 0, 0, 0), (94, .getfield 19, 97, 7, 1, 0), (97, .iload_n 2, 98, 0, 0, 0), (98, .putfield 107, 101, 2, 8, 1), (101, .iload_n 3, 102, 0, 0, 0), (102, .ireturn, 103, 0, 0, 0)]
def tb_77 : List EN := [(0, .iload_n 1, 1, 0, 0, 0), (1, .iconst 2, 2, 0, 0, 2), (2, .iconst 5, 3, 0, 0, 5), (3, .invokestatic 64, 6, 89, 3, 0), (6, .ifCond .ne 5, 9, 11, 0, 0), (9, .iconst (-1), 10, 0, 0, (-1)), (10, .ireturn, 11, 0, 0, 0), (11, .aload_n 0, 12, 0, 0, 0), (12, .getfield 19, 15, 7, 1, 0), (15, .getfield 98, 18, 2, 5, 1), (18, .istore_n 2, 19, 0, 0, 0), (19, .aload_n 0, 20, 0, 0, 0), (20, .getfield 19, 23, 7, 1, 0), (23, .iload_n 1, 24, 0, 0, 0), (24, .putfield 98, 27, 2, 5, 1), (27, .aload_n 0, 28, 0, 0, 0), (28, .iconst 0, 29, 0, 0, 0), (29, .invokevirtual 88, 32, 97, 2, 0), (32, .iload_n 2, 33, 0, 0, 0), (33, .ireturn, 34, 0, 0, 0)]
def tb_78 : List EN := [(0, .iload_n 1, 1, 0, 0, 0), (1, .iconst 1, 2, 0, 0, 1), (2, .sipush 200, 5, 0, 0, 200), (5, .invokestatic 64, 8, 89, 3, 0), (8, .ifCond .eq 14, 11, 22, 0, 0), (11, .aload_n 0, 12, 0, 0, 0), (12, .getfield 19, 15, 7, 1, 0), (15, .iload_n 1, 16, 0, 0, 0), (16, .invokevirtual 212, 19, 30, 2, 1), (19, .goto 4, 22, 23, 0, 0), (22, .iconst (-1), 23, 0, 0, (-1)), (23, .ireturn, 24, 0, 0, 0)]
def tb_79 : List EN := [(0, .iload_n 1, 1, 0, 0, 0), (1, .iconst 0, 2, 0, 0, 0), (2, .iconst 2, 3, 0, 0, 2), (3, .invokestatic 64, 6, 89, 3, 0), (6, .ifCond .ne 5, 9, 11, 0, 0), (9, .iconst (-1), 10, 0, 0, (-1)), (10, .ireturn, 11, 0, 0, 0), (11, .aload_n 0, 12, 0, 0, 0), (12, .getfield 23, 15, 7, 2, 0), (15, .aload_n 0, 16, 0, 0, 0), (16, .getfield 19, 19, 7, 1, 0), (19, .invokevirtual 84, 22, 14, 2, 1), (22, .aload_n 0, 23, 0, 0, 0), (23, .getfield 23, 26, 7, 2, 0), (26, .sipush 200, 29, 0, 0, 200), (29, .invokevirtual 212, 32, 30, 2, 1), (32, .istore_n 2, 33, 0, 0, 0), (33, .iload_n 1, 34, 0, 0, 0), (34, .lookupswitch 64 #[(0, 26), (1, 28)], 60, 0, 0, 0), (60, .iload_n 2, 61, 0, 0, 0), (61, .ireturn, 62, 0, 0, 0), (62, .aload_n 0, 63, 0, 0, 0), (63, .getfield 19, 66, 7, 1, 0), (66, .getfield 120, 69, 2, 1, 1), (69, .aload_n 0, 70, 0, 0, 0), (70, .getfield 19, 73, 7, 1, 0), (73, .getfield 95, 76, 2, 4, 1), (76, .invokestatic 124, 79, 101, 2, 0), (79, .aload_n 0, 80, 0, 0, 0), (80, .getfield 23, 83, 7, 2, 0), (83, .getfield 120, 86, 2, 1, 1), (86, .aload_n 0, 87, 0, 0, 0), (87, .getfield 23, 90, 7, 2, 0), (90, .getfield 95, 93, 2, 4, 1), (93, .invokestatic 124, 96, 101, 2, 0), (96, .isub, 97, 0, 0, 0), (97, .ireturn, 98, 0, 0, 0), (98, .aload_n 0, 99, 0, 0, 0), (99, .getfield 23, 102, 7, 2, 0), (102, .invokevirtual 117, 105, 21, 1, 1), (105, .ireturn, 106, 0, 0, 0)]
def tb_80 : List EN := [(0, .aload_n 0, 1, 0, 0, 0), (1, .getfield 19, 4, 7, 1, 0), (4, .getfield 128, 7, 2, 0, 1), (7, .aload_n 0, 8, 0, 0, 0), (8, .getfield 19, 11, 7, 1, 0), (11, .getfield 95, 14, 2, 4, 1), (14, .invokestatic 124, 17, 101, 2, 0), (17, .aload_n 0, 18, 0, 0, 0), (18, .getfield 19, 21, 7, 1, 0), (21, .getfield 120, 24, 2, 1, 1), (24, .aload_n 0, 25, 0, 0, 0), (25, .getfield 19, 28, 7, 1, 0), (28, .getfield 95, 31, 2, 4, 1), (31, .invokestatic 124, 34, 101, 2, 0), (34, .isub, 35, 0, 0, 0), (35, .istore_n 1, 36, 0, 0, 0), (36, .aload_n 0, 37, 0, 0, 0), (37, .getfield 19, 40, 7, 1, 0), (40, .getfield 128, 43, 2, 0, 1), (43, .iconst 0, 44, 0, 0, 0), (44, .aload_n 0, 45, 0, 0, 0), (45, .getfield 19, 48, 7, 1, 0), (48, .getfield 120, 51, 2, 1, 1), (51, .iconst 0, 52, 0, 0, 0), (52, .aload_n 0, 53, 0, 0, 0), (53, .getfield 19, 56, 7, 1, 0), (56, .getfield 95, 59, 2, 4, 1), (59, .invokestatic 215, 62, 1002, 5, 0), (62, .iload_n 1, 63, 0, 0, 0), (63, .ireturn, 64, 0, 0, 0)]
def tb_81 : List EN := [(0, .iload_n 2, 1, 0, 0, 0), (1, .iconst 1, 2, 0, 0, 1), (2, .bipush 16, 4, 0, 0, 16), (4, .invokestatic 64, 7, 89, 3, 0), (7, .ifCond .ne 5, 10, 12, 0, 0), (10, .iconst (-1), 11, 0, 0, (-1)), (11, .ireturn, 12, 0, 0, 0), (12, .iload_n 2, 13, 0, 0, 0), (13, .bipush 16, 15, 0, 0, 16), (15, .aload_n 0, 16, 0, 0, 0), (16, .getfield 19, 19, 7, 1, 0), (19, .getfield 95, 22, 2, 4, 1), (22, .isub, 23, 0, 0, 0), (23, .invokestatic 221, 26, 1001, 2, 0), (26, .istore_n 3, 27, 0, 0, 0), (27, .iload_n 1, 28, 0, 0, 0), (28, .istore 4, 30, 0, 0, 0), (30, .iconst 0, 31, 0, 0, 0), (31, .istore 5, 33, 0, 0, 0), (33, .iload 5, 35, 0, 0, 0), (35, .iload_n 3, 36, 0, 0, 0), (36, .if_icmp .ge 54, 39, 90, 0, 0), (39, .iload 4, 41, 0, 0, 0), (41, .ldc 226, 43, 0, 0, 1103515245), (43, .imul, 44, 0, 0, 0), (44, .sipush 12345, 47, 0, 0, 12345), (47, .iadd, 48, 0, 0, 0), (48, .istore 4, 50, 0, 0, 0), (50, .iload 4, 52, 0, 0, 0), (52, .bipush 16, 54, 0, 0, 16), (54, .iushr, 55, 0, 0, 0), (55, .sipush 32767, 58, 0, 0, 32767), (58, .iand, 59, 0, 0, 0), (59, .istore 6, 61, 0, 0, 0), (61, .aload_n 0, 62, 0, 0, 0), (62, .getfield 19, 65, 7, 1, 0), (65, .iload 6, 67, 0, 0, 0), (67, .sipush 200, 70, 0, 0, 200), (70, .irem, 71, 0, 0, 0), (71, .bipush 50, 73, 0, 0, 50), (73, .iadd, 74, 0, 0, 0), (74, .aload_n 0, 75, 0, 0, 0), (75, .getfield 19, 78, 7, 1, 0), (78, .invokevirtual 110, 81, 18, 1, 1), (81, .invokevirtual 205, 84, 15, 3, 1), (84, .iinc 5 1, 87, 0, 0, 0), (87, .goto (-54), 90, 33, 0, 0), (90, .iload_n 3, 91, 0, 0, 0), (91, .ireturn, 92, 0, 0, 0)]
def tb_82 : List EN := [(0, .iload_n 1, 1, 0, 0, 0), (1, .invokestatic 227, 4, 94, 1, 0), (4, .ifCond .ne 5, 7, 9, 0, 0), (7, .iconst (-1), 8, 0, 0, (-1)), (8, .ireturn, 9, 0, 0, 0), (9, .aload_n 0, 10, 0, 0, 0), (10, .getfield 39, 13, 7, 5, 0), (13, .iload_n 1, 14, 0, 0, 0), (14, .baload, 15, 0, 0, 0), (15, .ifCond .eq 7, 18, 22, 0, 0), (18, .iconst 1, 19, 0, 0, 1), (19, .goto 4, 22, 23, 0, 0), (22, .iconst 0, 23, 0, 0, 0), (23, .istore_n 2, 24, 0, 0, 0), (24, .aload_n 0, 25, 0, 0, 0), (25, .getfield 35, 28, 7, 4, 0), (28, .iload_n 1, 29, 0, 0, 0), (29, .aaload, 30, 0, 0, 0), (30, .aload_n 0, 31, 0, 0, 0), (31, .getfield 19, 34, 7, 1, 0), (34, .invokevirtual 84, 37, 14, 2, 1), (37, .aload_n 0, 38, 0, 0, 0), (38, .getfield 39, 41, 7, 5, 0), (41, .iload_n 1, 42, 0, 0, 0), (42, .iconst 1, 43, 0, 0, 1), (43, .bastore, 44, 0, 0, 0), (44, .iload_n 2, 45, 0, 0, 0), (45, .ireturn, 46, 0, 0, 0)]
def tb_83 : List EN := [(0, .iload_n 1, 1, 0, 0, 0), (1, .invokestatic 227, 4, 94, 1, 0), (4, .ifCond .ne 5, 7, 9, 0, 0), (7, .iconst (-1), 8, 0, 0, (-1)), (8, .ireturn, 9, 0, 0, 0), (9, .aload_n 0, 10, 0, 0, 0), (10, .getfield 39, 13, 7, 5, 0), (13, .iload_n 1, 14, 0, 0, 0), (14, .baload, 15, 0, 0, 0), (15, .ifCond .ne 6, 18, 21, 0, 0), (18, .bipush (-2), 20, 0, 0, (-2)), (20, .ireturn, 21, 0, 0, 0), (21, .aload_n 0, 22, 0, 0, 0), (22, .getfield 19, 25, 7, 1, 0), (25, .aload_n 0, 26, 0, 0, 0), (26, .getfield 35, 29, 7, 4, 0), (29, .iload_n 1, 30, 0, 0, 0), (30, .aaload, 31, 0, 0, 0), (31, .invokevirtual 84, 34, 14, 2, 1), (34, .aload_n 0, 35, 0, 0, 0), (35, .getfield 19, 38, 7, 1, 0), (38, .getfield 95, 41, 2, 4, 1), (41, .ireturn, 42, 0, 0, 0)]
def tb_84 : List EN := [(0, .iload_n 1, 1, 0, 0, 0), (1, .invokestatic 230, 4, 95, 1, 0), (4, .ifCond .eq 16, 7, 20, 0, 0), (7, .iload_n 2, 8, 0, 0, 0), (8, .invokestatic 233, 11, 96, 1, 0), (11, .ifCond .eq 9, 14, 20, 0, 0), (14, .iload_n 3, 15, 0, 0, 0), (15, .bipush 40, 17, 0, 0, 40), (17, .if_icmp .le 5, 20, 22, 0, 0), (20, .iconst (-1), 21, 0, 0, (-1)), (21, .ireturn, 22, 0, 0, 0), (22, .iload_n 3, 23, 0, 0, 0), (23, .ifCond .ge 6, 26, 29, 0, 0), (26, .bipush (-14), 28, 0, 0, (-14)), (28, .ireturn, 29, 0, 0, 0), (29, .aload_n 0, 30, 0, 0, 0), (30, .getfield 52, 33, 7, 7, 0), (33, .iload_n 1, 34, 0, 0, 0), (34, .aaload, 35, 0, 0, 0), (35, .iload_n 2, 36, 0, 0, 0), (36, .iload_n 3, 37, 0, 0, 0), (37, .invokevirtual 236, 40, 33, 3, 1), (40, .iconst 1, 41, 0, 0, 1), (41, .ireturn, 42, 0, 0, 0)]
def tb_85 : List EN := [(0, .iload_n 1, 1, 0, 0, 0), (1, .invokestatic 230, 4, 95, 1, 0), (4, .ifCond .ne 5, 7, 9, 0, 0), (7, .iconst (-1), 8, 0, 0, (-1)), (8, .ireturn, 9, 0, 0, 0), (9, .aload_n 0, 10, 0, 0, 0), (10, .getfield 52, 13, 7, 7, 0), (13, .iload_n 1, 14, 0, 0, 0), (14, .aaload, 15, 0, 0, 0), (15, .iload_n 2, 16, 0, 0, 0), (16, .iload_n 3, 17, 0, 0, 0), (17, .invokevirtual 239, 20, 34, 3, 1), (20, .istore 4, 22, 0, 0, 0), (22, .iload 4, 24, 0, 0, 0), (24, .ifCond .ne 7, 27, 31, 0, 0), (27, .iconst 1, 28, 0, 0, 1), (28, .goto 8, 31, 36, 0, 0), (31, .bipush (-10), 33, 0, 0, (-10)), (33, .iload 4, 35, 0, 0, 0), (35, .isub, 36, 0, 0, 0), (36, .ireturn, 37, 0, 0, 0)]
def tb_86 : List EN := [(0, .iload_n 1, 1, 0, 0, 0), (1, .invokestatic 230, 4, 95, 1, 0), (4, .ifCond .eq 21, 7, 25, 0, 0), (7, .iload_n 2, 8, 0, 0, 0), (8, .invokestatic 233, 11, 96, 1, 0), (11, .ifCond .eq 14, 14, 25, 0, 0), (14, .iload 4, 16, 0, 0, 0), (16, .iconst 0, 17, 0, 0, 0), (17, .bipush 20, 19, 0, 0, 20), (19, .invokestatic 64, 22, 89, 3, 0), (22, .ifCond .ne 5, 25, 27, 0, 0), (25, .iconst (-1), 26, 0, 0, (-1)), (26, .ireturn, 27, 0, 0, 0), (27, .aload_n 0, 28, 0, 0, 0), (28, .getfield 52, 31, 7, 7, 0), (31, .iload_n 1, 32, 0, 0, 0), (32, .aaload, 33, 0, 0, 0), (33, .astore 5, 35, 0, 0, 0), (35, .aload 5, 37, 0, 0, 0), (37, .iload_n 2, 38, 0, 0, 0), (38, .iload_n 3, 39, 0, 0, 0), (39, .iload 4, 41, 0, 0, 0), (41, .invokevirtual 242, 44, 35, 4, 1), (44, .istore 6, 46, 0, 0, 0), (46, .iconst 0, 47, 0, 0, 0), (47, .istore 7, 49, 0, 0, 0), (49, .iload 7, 51, 0, 0, 0), (51, .iload 6, 53, 0, 0, 0), (53, .if_icmp .ge 55, 56, 108, 0, 0), (56, .aload_n 0, 57, 0, 0, 0), (57, .aload 5, 59, 0, 0, 0), (59, .getfield 246, 62, 3, 0, 1), (62, .iload_n 3, 63, 0, 0, 0), (63, .iconst 2, 64, 0, 0, 2), (64, .iload 7, 66, 0, 0, 0), (66, .imul, 67, 0, 0, 0), (67, .iadd, 68, 0, 0, 0), (68, .iaload, 69, 0, 0, 0), (69, .invokevirtual 131, 72, 90, 2, 0), (72, .ifCond .eq 24, 75, 96, 0, 0), (75, .aload_n 0, 76, 0, 0, 0), (76, .aload 5, 78, 0, 0, 0), (78, .getfield 246, 81, 3, 0, 1), (81, .iload_n 3, 82, 0, 0, 0), (82, .iconst 2, 83, 0, 0, 2), (83, .iload 7, 85, 0, 0, 0), (85, .imul, 86, 0, 0, 0), (86, .iadd, 87, 0, 0, 0), (87, .iconst 1, 88, 0, 0, 1), (88, .iadd, 89, 0, 0, 0), (89, .iaload, 90, 0, 0, 0), (90, .invokevirtual 142, 93, 91, 2, 0), (93, .ifCond .ne 9, 96, 102, 0, 0), (96, .bipush (-20), 98, 0, 0, (-20)), (98, .iload 7, 100, 0, 0, 0), (100, .isub, 101, 0, 0, 0), (101, .ireturn, 102, 0, 0, 0), (102, .iinc 7 1, 105, 0, 0, 0), (105, .goto (-56), 108, 49, 0, 0), (108, .iconst 0, 109, 0, 0, 0), (109, .istore 7, 111, 0, 0, 0), (111, .iload 7, 113, 0, 0, 0), (113, .iload 6, 115, 0, 0, 0), (115, .if_icmp .ge 43, 118, 158, 0, 0), (118, .aload_n 0, 119, 0, 0, 0), (119, .getfield 19, 122, 7, 1, 0), (122, .getfield 135, 125, 2, 2, 1), (125, .aload 5, 127, 0, 0, 0), (127, .getfield 246, 130, 3, 0, 1), (130, .iload_n 3, 131, 0, 0, 0), (131, .iconst 2, 132, 0, 0, 2), (132, .iload 7, 134, 0, 0, 0), (134, .imul, 135, 0, 0, 0), (135, .iadd, 136, 0, 0, 0), (136, .iaload, 137, 0, 0, 0), (137, .aload 5, 139, 0, 0, 0), (139, .getfield 246, 142, 3, 0, 1), (142, .iload_n 3, 143, 0, 0, 0), (143, .iconst 2, 144, 0, 0, 2), (144, .iload 7, 146, 0, 0, 0), (146, .imul, 147, 0, 0, 0), (147, .iadd, 148, 0, 0, 0), (148, .iconst 1, 149, 0, 0, 1), (149, .iadd, 150, 0, 0, 0), (150, .iaload, 151, 0, 0, 0), (151, .iastore, 152, 0, 0, 0), (152, .iinc 7 1, 155, 0, 0, 0), (155, .goto (-44), 158, 111, 0, 0), (158, .aload_n 0, 159, 0, 0, 0), (159, .iload 6, 161, 0, 0, 0), (161, .iload 4, 163, 0, 0, 0), (163, .if_icmp .ne 7, 166, 170, 0, 0), (166, .iconst 0, 167, 0, 0, 0), (167, .goto 9, 170, 176, 0, 0), (170, .aload 5, 172, 0, 0, 0), (172, .iload_n 2, 173, 0, 0, 0), (173, .invokevirtual 249, 176, 36, 2, 1), (176, .putfield 61, 179, 7, 9, 0), (179, .iload 6, 181, 0, 0, 0), (181, .ireturn, 182, 0, 0, 0)]
def tb_87 : List EN := [(0, .aload_n 0, 1, 0, 0, 0), (1, .getfield 61, 4, 7, 9, 0), (4, .ireturn, 5, 0, 0, 0)]
def tb_88 : List EN := [(0, .iload_n 1, 1, 0, 0, 0), (1, .tableswitch 104 0 5 #[39, 44, 52, 60, 88, 96], 40, 0, 0, 0), (40, .aload_n 0, 41, 0, 0, 0), (41, .invokevirtual 252, 44, 100, 1, 0), (44, .ireturn, 45, 0, 0, 0), (45, .aload_n 0, 46, 0, 0, 0), (46, .getfield 19, 49, 7, 1, 0), (49, .invokevirtual 255, 52, 27, 1, 1), (52, .ireturn, 53, 0, 0, 0), (53, .aload_n 0, 54, 0, 0, 0), (54, .getfield 10, 57, 7, 0, 0), (57, .getfield 68, 60, 4, 1, 1), (60, .ireturn, 61, 0, 0, 0), (61, .aload_n 0, 62, 0, 0, 0), (62, .getfield 52, 65, 7, 7, 0), (65, .iconst 0, 66, 0, 0, 0), (66, .aaload, 67, 0, 0, 0), (67, .getfield 258, 70, 3, 1, 1), (70, .iconst (-1), 71, 0, 0, (-1)), (71, .if_icmp .ne 8, 74, 79, 0, 0), (74, .bipush (-4), 76, 0, 0, (-4)), (76, .goto 12, 79, 88, 0, 0), (79, .aload_n 0, 80, 0, 0, 0), (80, .getfield 52, 83, 7, 7, 0), (83, .iconst 0, 84, 0, 0, 0), (84, .aaload, 85, 0, 0, 0), (85, .getfield 261, 88, 3, 2, 1), (88, .ireturn, 89, 0, 0, 0), (89, .aload_n 0, 90, 0, 0, 0), (90, .getfield 19, 93, 7, 1, 0), (93, .invokevirtual 262, 96, 28, 1, 1), (96, .ireturn, 97, 0, 0, 0), (97, .aload_n 0, 98, 0, 0, 0), (98, .getfield 19, 101, 7, 1, 0), (101, .invokevirtual 265, 104, 29, 1, 1), (104, .ireturn, 105, 0, 0, 0), (105, .iconst (-1), 106, 0, 0, (-1)), (106, .ireturn, 107, 0, 0, 0)]
def tb_89 : List EN := [(0, .iload_n 0, 1, 0, 0, 0), (1, .iload_n 1, 2, 0, 0, 0), (2, .if_icmp .lt 12, 5, 14, 0, 0), (5, .iload_n 0, 6, 0, 0, 0), (6, .iload_n 2, 7, 0, 0, 0), (7, .if_icmp .gt 7, 10, 14, 0, 0), (10, .iconst 1, 11, 0, 0, 1), (11, .goto 4, 14, 15, 0, 0), (14, .iconst 0, 15, 0, 0, 0), (15, .ireturn, 16, 1, 0, 0)]
def tb_90 : List EN := [(0, .iload_n 1, 1, 0, 0, 0), (1, .iconst 0, 2, 0, 0, 0), (2, .aload_n 0, 3, 0, 0, 0), (3, .getfield 19, 6, 7, 1, 0), (6, .getfield 95, 9, 2, 4, 1), (9, .iconst 1, 10, 0, 0, 1), (10, .isub, 11, 0, 0, 0), (11, .invokestatic 64, 14, 89, 3, 0), (14, .ireturn, 15, 1, 0, 0)]
def tb_91 : List EN := [(0, .iload_n 1, 1, 0, 0, 0), (1, .iconst 0, 2, 0, 0, 0), (2, .aload_n 0, 3, 0, 0, 0), (3, .getfield 19, 6, 7, 1, 0), (6, .getfield 98, 9, 2, 5, 1), (9, .iconst 1, 10, 0, 0, 1), (10, .isub, 11, 0, 0, 0), (11, .invokestatic 64, 14, 89, 3, 0), (14, .ireturn, 15, 1, 0, 0)]
def tb_92 : List EN := [(0, .iload_n 0, 1, 0, 0, 0), (1, .iconst 0, 2, 0, 0, 0), (2, .iconst 3, 3, 0, 0, 3), (3, .invokestatic 64, 6, 89, 3, 0), (6, .ireturn, 7, 1, 0, 0)]
def tb_93 : List EN := [(0, .iload_n 1, 1, 0, 0, 0), (1, .iconst 3, 2, 0, 0, 3), (2, .if_icmp .ne 15, 5, 17, 0, 0), (5, .aload_n 0, 6, 0, 0, 0), (6, .getfield 19, 9, 7, 1, 0), (9, .getfield 95, 12, 2, 4, 1), (12, .bipush 9, 14, 0, 0, 9), (14, .if_icmp .gt 7, 17, 21, 0, 0), (17, .iconst 1, 18, 0, 0, 1), (18, .goto 4, 21, 22, 0, 0), (21, .iconst 0, 22, 0, 0, 0), (22, .ireturn, 23, 1, 0, 0)]
def tb_94 : List EN := [(0, .iload_n 0, 1, 0, 0, 0), (1, .iconst 0, 2, 0, 0, 0), (2, .iconst 1, 3, 0, 0, 1), (3, .invokestatic 64, 6, 89, 3, 0), (6, .ireturn, 7, 1, 0, 0)]
def tb_95 : List EN := [(0, .iload_n 0, 1, 0, 0, 0), (1, .iconst 0, 2, 0, 0, 0), (2, .iconst 3, 3, 0, 0, 3), (3, .invokestatic 64, 6, 89, 3, 0), (6, .ireturn, 7, 1, 0, 0)]
def tb_96 : List EN := [(0, .iload_n 0, 1, 0, 0, 0), (1, .iconst 0, 2, 0, 0, 0), (2, .iconst 2, 3, 0, 0, 2), (3, .invokestatic 64, 6, 89, 3, 0), (6, .ireturn, 7, 1, 0, 0)]
def tb_97 : List EN := [(0, .aload_n 0, 1, 0, 0, 0), (1, .getfield 46, 4, 7, 6, 0), (4, .aload_n 0, 5, 0, 0, 0), (5, .getfield 19, 8, 7, 1, 0), (8, .iload_n 1, 9, 0, 0, 0), (9, .invokevirtual 168, 12, 52, 3, 1), (12, .aload_n 0, 13, 0, 0, 0), (13, .getfield 46, 16, 7, 6, 0), (16, .getfield 180, 19, 6, 0, 1), (19, .iconst 0, 20, 0, 0, 0), (20, .aload_n 0, 21, 0, 0, 0), (21, .getfield 19, 24, 7, 1, 0), (24, .getfield 135, 27, 2, 2, 1), (27, .iconst 0, 28, 0, 0, 0), (28, .aload_n 0, 29, 0, 0, 0), (29, .getfield 19, 32, 7, 1, 0), (32, .getfield 95, 35, 2, 4, 1), (35, .invokestatic 215, 38, 1002, 5, 0), (38, .return_, 39, 0, 0, 0)]
def tb_98 : List EN := [(0, .iconst 0, 1, 0, 0, 0), (1, .istore_n 2, 2, 0, 0, 0), (2, .iconst 0, 3, 0, 0, 0), (3, .istore_n 3, 4, 0, 0, 0), (4, .iload_n 3, 5, 0, 0, 0), (5, .iconst 3, 6, 0, 0, 3), (6, .if_icmp .ge 39, 9, 45, 0, 0), (9, .aload_n 0, 10, 0, 0, 0), (10, .getfield 46, 13, 7, 6, 0), (13, .aload_n 0, 14, 0, 0, 0), (14, .getfield 19, 17, 7, 1, 0), (17, .iload_n 3, 18, 0, 0, 0), (18, .invokevirtual 168, 21, 52, 3, 1), (21, .aload_n 0, 22, 0, 0, 0), (22, .getfield 46, 25, 7, 6, 0), (25, .aload_n 0, 26, 0, 0, 0), (26, .getfield 19, 29, 7, 1, 0), (29, .invokevirtual 172, 32, 55, 2, 1), (32, .iload_n 1, 33, 0, 0, 0), (33, .if_icmp .lt 6, 36, 39, 0, 0), (36, .iinc 2 1, 39, 0, 0, 0), (39, .iinc 3 1, 42, 0, 0, 0), (42, .goto (-38), 45, 4, 0, 0), (45, .iload_n 2, 46, 0, 0, 0), (46, .ireturn, 47, 0, 0, 0)]
def tb_99 : List EN := [(0, .iconst 0, 1, 0, 0, 0), (1, .istore_n 1, 2, 0, 0, 0), (2, .iload_n 1, 3, 0, 0, 0), (3, .iconst 2, 4, 0, 0, 2), (4, .if_icmp .ge 16, 7, 20, 0, 0), (7, .aload_n 0, 8, 0, 0, 0), (8, .getfield 39, 11, 7, 5, 0), (11, .iload_n 1, 12, 0, 0, 0), (12, .iconst 0, 13, 0, 0, 0), (13, .bastore, 14, 0, 0, 0), (14, .iinc 1 1, 17, 0, 0, 0), (17, .goto (-15), 20, 2, 0, 0), (20, .return_, 21, 0, 0, 0)]
def tb_100 : List EN := [(0, .iconst 0, 1, 0, 0, 0), (1, .istore_n 1, 2, 0, 0, 0), (2, .iconst 0, 3, 0, 0, 0), (3, .istore_n 2, 4, 0, 0, 0), (4, .iload_n 2, 5, 0, 0, 0), (5, .iconst 2, 6, 0, 0, 2), (6, .if_icmp .ge 21, 9, 27, 0, 0), (9, .aload_n 0, 10, 0, 0, 0), (10, .getfield 39, 13, 7, 5, 0), (13, .iload_n 2, 14, 0, 0, 0), (14, .baload, 15, 0, 0, 0), (15, .ifCond .eq 6, 18, 21, 0, 0), (18, .iinc 1 1, 21, 0, 0, 0), (21, .iinc 2 1, 24, 0, 0, 0), (24, .goto (-20), 27, 4, 0, 0), (27, .iload_n 1, 28, 0, 0, 0), (28, .ireturn, 29, 0, 0, 0)]
def tb_101 : List EN := [(0, .iconst 0, 1, 0, 0, 0), (1, .istore_n 2, 2, 0, 0, 0), (2, .iconst 0, 3, 0, 0, 0), (3, .istore_n 3, 4, 0, 0, 0), (4, .iload_n 3, 5, 0, 0, 0), (5, .iload_n 1, 6, 0, 0, 0), (6, .if_icmp .ge 15, 9, 21, 0, 0), (9, .iload_n 2, 10, 0, 0, 0), (10, .aload_n 0, 11, 0, 0, 0), (11, .iload_n 3, 12, 0, 0, 0), (12, .iaload, 13, 0, 0, 0), (13, .iadd, 14, 0, 0, 0), (14, .istore_n 2, 15, 0, 0, 0), (15, .iinc 3 1, 18, 0, 0, 0), (18, .goto (-14), 21, 4, 0, 0), (21, .iload_n 2, 22, 0, 0, 0), (22, .ireturn, 23, 0, 0, 0)]
def tb_102 : List EN := [(0, .aload_n 3, 1, 0, 0, 0), (1, .iconst 0, 2, 0, 0, 0), (2, .invokestatic 268, 5, 196, 2, 0), (5, .iconst 0, 6, 0, 0, 0), (6, .istore 4, 8, 0, 0, 0), (8, .iload 4, 10, 0, 0, 0), (10, .iload_n 2, 11, 0, 0, 0), (11, .if_icmp .ge 22, 14, 33, 0, 0), (14, .aload_n 3, 15, 0, 0, 0), (15, .aload_n 1, 16, 0, 0, 0), (16, .iload 4, 18, 0, 0, 0), (18, .iaload, 19, 0, 0, 0), (19, .dup2, 20, 0, 0, 0), (20, .iaload, 21, 0, 0, 0), (21, .aload_n 0, 22, 0, 0, 0), (22, .iload 4, 24, 0, 0, 0), (24, .iaload, 25, 0, 0, 0), (25, .iadd, 26, 0, 0, 0), (26, .iastore, 27, 0, 0, 0), (27, .iinc 4 1, 30, 0, 0, 0), (30, .goto (-22), 33, 8, 0, 0), (33, .return_, 34, 0, 0, 0)]
def tb_103 : List EN := [(0, .iconst 0, 1, 0, 0, 0), (1, .istore_n 2, 2, 0, 0, 0), (2, .iconst 1, 3, 0, 0, 1), (3, .istore_n 3, 4, 0, 0, 0), (4, .iload_n 3, 5, 0, 0, 0), (5, .iload_n 1, 6, 0, 0, 0), (6, .if_icmp .ge 20, 9, 26, 0, 0), (9, .aload_n 0, 10, 0, 0, 0), (10, .iload_n 3, 11, 0, 0, 0), (11, .iaload, 12, 0, 0, 0), (12, .aload_n 0, 13, 0, 0, 0), (13, .iload_n 2, 14, 0, 0, 0), (14, .iaload, 15, 0, 0, 0), (15, .if_icmp .ge 5, 18, 20, 0, 0), (18, .iload_n 3, 19, 0, 0, 0), (19, .istore_n 2, 20, 0, 0, 0), (20, .iinc 3 1, 23, 0, 0, 0), (23, .goto (-19), 26, 4, 0, 0), (26, .iload_n 2, 27, 0, 0, 0), (27, .ireturn, 28, 0, 0, 0)]
def tb_104 : List EN := [(0, .aload_n 0, 1, 0, 0, 0), (1, .iconst 0, 2, 0, 0, 0), (2, .iaload, 3, 0, 0, 0), (3, .istore_n 2, 4, 0, 0, 0), (4, .iconst 1, 5, 0, 0, 1), (5, .istore_n 3, 6, 0, 0, 0), (6, .iload_n 3, 7, 0, 0, 0), (7, .iload_n 1, 8, 0, 0, 0), (8, .if_icmp .ge 17, 11, 25, 0, 0), (11, .iload_n 2, 12, 0, 0, 0), (12, .aload_n 0, 13, 0, 0, 0), (13, .iload_n 3, 14, 0, 0, 0), (14, .iaload, 15, 0, 0, 0), (15, .invokestatic 274, 18, 1000, 2, 0), (18, .istore_n 2, 19, 0, 0, 0), (19, .iinc 3 1, 22, 0, 0, 0), (22, .goto (-16), 25, 6, 0, 0), (25, .iload_n 2, 26, 0, 0, 0), (26, .ireturn, 27, 0, 0, 0)]
def tb_105 : List EN := [(137, .iconst 0, 138, 0, 0, 0), (138, .istore_n 1, 139, 0, 0, 0), (139, .iload_n 1, 140, 0, 0, 0), (140, .iconst 4, 141, 0, 0, 4), (141, .if_icmp .ge 17, 144, 158, 0, 0), (144, .aload_n 0, 145, 0, 0, 0), (145, .getfield 53, 148, 8, 22, 0), (148, .iload_n 1, 149, 0, 0, 0), (149, .bipush (-4), 151, 0, 0, (-4)), (151, .iastore, 152, 0, 0, 0), (152, .iinc 1 1, 155, 0, 0, 0), (155, .goto (-16), 158, 139, 0, 0), (158, .aload_n 0, 159, 0, 0, 0), (159, .invokevirtual 62, 162, 108, 1, 0), (162, .iconst 0, 163, 0, 0, 0), (163, .istore_n 1, 164, 0, 0, 0), (164, .iload_n 1, 165, 0, 0, 0), (165, .bipush 53, 167, 0, 0, 53), (167, .if_icmp .ge 21, 170, 188, 0, 0), (170, .aload_n 0, 171, 0, 0, 0), (171, .getfield 7, 174, 8, 0, 0), (174, .iload_n 1, 175, 0, 0, 0), (175, .aload_n 0, 176, 0, 0, 0), (176, .getfield 23, 179, 8, 4, 0), (179, .iload_n 1, 180, 0, 0, 0), (180, .iaload, 181, 0, 0, 0), (181, .iastore, 182, 0, 0, 0), (182, .iinc 1 1, 185, 0, 0, 0), (185, .goto (-21), 188, 164, 0, 0), (188, .return_, 189, 0, 0, 0)]
def tb_106 : List EN := [(0, .lload_n 0, 1, 0, 0, 0), (1, .lload_n 2, 2, 0, 0, 0), (2, .lcmp, 3, 0, 0, 0), (3, .ifCond .lt 14, 6, 17, 0, 0), (6, .lload_n 0, 7, 0, 0, 0), (7, .lload 4, 9, 0, 0, 0), (9, .lcmp, 10, 0, 0, 0), (10, .ifCond .gt 7, 13, 17, 0, 0), (13, .iconst 1, 14, 0, 0, 1), (14, .goto 4, 17, 18, 0, 0), (17, .iconst 0, 18, 0, 0, 0), (18, .ireturn, 19, 1, 0, 0)]
def tb_107 : List EN := [(0, .iload_n 0, 1, 0, 0, 0), (1, .ifCond .eq 7, 4, 8, 0, 0), (4, .iconst 1, 5, 0, 0, 1), (5, .goto 4, 8, 9, 0, 0), (8, .iconst 0, 9, 0, 0, 0), (9, .ireturn, 10, 0, 0, 0)]
def tb_108 : List EN := [(0, .iconst 0, 1, 0, 0, 0), (1, .istore_n 1, 2, 0, 0, 0), (2, .iload_n 1, 3, 0, 0, 0), (3, .bipush 53, 5, 0, 0, 53), (5, .if_icmp .ge 16, 8, 21, 0, 0), (8, .aload_n 0, 9, 0, 0, 0), (9, .getfield 23, 12, 8, 4, 0), (12, .iload_n 1, 13, 0, 0, 0), (13, .iconst 0, 14, 0, 0, 0), (14, .iastore, 15, 0, 0, 0), (15, .iinc 1 1, 18, 0, 0, 0), (18, .goto (-16), 21, 2, 0, 0), (21, .aload_n 0, 22, 0, 0, 0), (22, .getfield 23, 25, 8, 4, 0), (25, .iconst 1, 26, 0, 0, 1), (26, .iconst 2, 27, 0, 0, 2), (27, .iastore, 28, 0, 0, 0), (28, .aload_n 0, 29, 0, 0, 0), (29, .getfield 23, 32, 8, 4, 0), (32, .iconst 3, 33, 0, 0, 3), (33, .bipush 10, 35, 0, 0, 10), (35, .iastore, 36, 0, 0, 0), (36, .aload_n 0, 37, 0, 0, 0), (37, .getfield 23, 40, 8, 4, 0), (40, .iconst 4, 41, 0, 0, 4), (41, .iconst 5, 42, 0, 0, 5), (42, .iastore, 43, 0, 0, 0), (43, .iconst 0, 44, 0, 0, 0), (44, .istore_n 1, 45, 0, 0, 0), (45, .iload_n 1, 46, 0, 0, 0), (46, .iconst 5, 47, 0, 0, 5), (47, .if_icmp .ge 16, 50, 63, 0, 0), (50, .aload_n 0, 51, 0, 0, 0), (51, .getfield 29, 54, 8, 6, 0), (54, .iload_n 1, 55, 0, 0, 0), (55, .iconst 0, 56, 0, 0, 0), (56, .bastore, 57, 0, 0, 0), (57, .iinc 1 1, 60, 0, 0, 0), (60, .goto (-15), 63, 45, 0, 0), (63, .return_, 64, 0, 0, 0)]
def tb_109 : List EN := [(0, .iload_n 1, 1, 0, 0, 0), (1, .i2l, 2, 0, 0, 0), (2, .lconst 0, 3, 0, 0, 0), (3, .ldc2_w 65, 6, 0, 0, 127), (6, .invokestatic 67, 9, 106, 3, 0), (9, .ifCond .ne 5, 12, 14, 0, 0), (12, .iconst (-1), 13, 0, 0, (-1)), (13, .ireturn, 14, 0, 0, 0), (14, .aload_n 0, 15, 0, 0, 0), (15, .getfield 71, 18, 8, 7, 0), (18, .sipush 160, 21, 0, 0, 160), (21, .if_icmp .ne 6, 24, 27, 0, 0), (24, .bipush (-3), 26, 0, 0, (-3)), (26, .ireturn, 27, 0, 0, 0), (27, .aload_n 0, 28, 0, 0, 0), (28, .getfield 26, 31, 8, 5, 0), (31, .aload_n 0, 32, 0, 0, 0), (32, .getfield 71, 35, 8, 7, 0), (35, .iload_n 1, 36, 0, 0, 0), (36, .iastore, 37, 0, 0, 0), (37, .aload_n 0, 38, 0, 0, 0), (38, .dup, 39, 0, 0, 0), (39, .getfield 71, 42, 8, 7, 0), (42, .iconst 1, 43, 0, 0, 1), (43, .iadd, 44, 0, 0, 0), (44, .putfield 71, 47, 8, 7, 0), (47, .aload_n 0, 48, 0, 0, 0), (48, .getfield 71, 51, 8, 7, 0), (51, .ireturn, 52, 0, 0, 0)]
def tb_110 : List EN := [(0, .iload_n 1, 1, 0, 0, 0), (1, .i2l, 2, 0, 0, 0), (2, .lconst 0, 3, 0, 0, 0), (3, .aload_n 0, 4, 0, 0, 0), (4, .getfield 71, 7, 8, 7, 0), (7, .i2l, 8, 0, 0, 0), (8, .invokestatic 67, 11, 106, 3, 0), (11, .ifCond .ne 5, 14, 16, 0, 0), (14, .iconst (-1), 15, 0, 0, (-1)), (15, .ireturn, 16, 0, 0, 0), (16, .aload_n 0, 17, 0, 0, 0), (17, .getfield 71, 20, 8, 7, 0), (20, .istore_n 2, 21, 0, 0, 0), (21, .aload_n 0, 22, 0, 0, 0), (22, .iload_n 1, 23, 0, 0, 0), (23, .putfield 71, 26, 8, 7, 0), (26, .iload_n 2, 27, 0, 0, 0), (27, .ireturn, 28, 0, 0, 0)]
def tb_111 : List EN := [(0, .iload_n 1, 1, 0, 0, 0), (1, .ifCond .ne 23, 4, 24, 0, 0), (4, .aload_n 0, 5, 0, 0, 0), (5, .getfield 75, 8, 8, 12, 0), (8, .ifCond .ne 16, 11, 24, 0, 0), (11, .aload_n 0, 12, 0, 0, 0), (12, .iload_n 2, 13, 0, 0, 0), (13, .putfield 75, 16, 8, 12, 0), (16, .aload_n 0, 17, 0, 0, 0), (17, .aload_n 0, 18, 0, 0, 0), (18, .getfield 78, 21, 8, 9, 0), (21, .putfield 81, 24, 8, 13, 0), (24, .return_, 25, 0, 0, 0)]
def tb_112 : List EN := [(0, .iload_n 1, 1, 0, 0, 0), (1, .aload_n 0, 2, 0, 0, 0), (2, .getfield 71, 5, 8, 7, 0), (5, .if_icmp .ge 12, 8, 17, 0, 0), (8, .aload_n 0, 9, 0, 0, 0), (9, .getfield 26, 12, 8, 5, 0), (12, .iload_n 1, 13, 0, 0, 0), (13, .iaload, 14, 0, 0, 0), (14, .goto 4, 17, 18, 0, 0), (17, .iconst (-1), 18, 0, 0, (-1)), (18, .ireturn, 19, 0, 0, 0)]
def tb_113 : List EN := [(0, .aload_n 0, 1, 0, 0, 0), (1, .getfield 84, 4, 8, 10, 0), (4, .iconst 1, 5, 0, 0, 1), (5, .if_icmp .ne 68, 8, 73, 0, 0), (8, .aload_n 0, 9, 0, 0, 0), (9, .getfield 87, 12, 8, 8, 0), (12, .aload_n 0, 13, 0, 0, 0), (13, .getfield 78, 16, 8, 9, 0), (16, .isub, 17, 0, 0, 0), (17, .iload_n 1, 18, 0, 0, 0), (18, .if_icmp .ne 55, 21, 73, 0, 0), (21, .aload_n 0, 22, 0, 0, 0), (22, .aload_n 0, 23, 0, 0, 0), (23, .getfield 78, 26, 8, 9, 0), (26, .iload_n 2, 27, 0, 0, 0), (27, .iadd, 28, 0, 0, 0), (28, .invokevirtual 90, 31, 112, 2, 0), (31, .iload_n 3, 32, 0, 0, 0), (32, .if_icmp .ne 41, 35, 73, 0, 0), (35, .aload_n 0, 36, 0, 0, 0), (36, .aload_n 0, 37, 0, 0, 0), (37, .getfield 78, 40, 8, 9, 0), (40, .iload_n 2, 41, 0, 0, 0), (41, .iadd, 42, 0, 0, 0), (42, .iconst 1, 43, 0, 0, 1), (43, .iadd, 44, 0, 0, 0), (44, .invokevirtual 90, 47, 112, 2, 0), (47, .iload 4, 49, 0, 0, 0), (49, .if_icmp .ne 24, 52, 73, 0, 0), (52, .aload_n 0, 53, 0, 0, 0), (53, .aload_n 0, 54, 0, 0, 0), (54, .getfield 78, 57, 8, 9, 0), (57, .iload_n 2, 58, 0, 0, 0), (58, .iadd, 59, 0, 0, 0), (59, .iconst 2, 60, 0, 0, 2), (60, .iadd, 61, 0, 0, 0), (61, .invokevirtual 90, 64, 112, 2, 0), (64, .iload 5, 66, 0, 0, 0), (66, .if_icmp .ne 7, 69, 73, 0, 0), (69, .iconst 1, 70, 0, 0, 1), (70, .goto 4, 73, 74, 0, 0), (73, .iconst 0, 74, 0, 0, 0), (74, .ireturn, 75, 1, 0, 0)]
def tb_114 : List EN := [(0, .aload_n 0, 1, 0, 0, 0), (1, .bipush 6, 3, 0, 0, 6), (3, .iconst 0, 4, 0, 0, 0), (4, .bipush 103, 6, 0, 0, 103), (6, .bipush 114, 8, 0, 0, 114), (8, .bipush 111, 10, 0, 0, 111), (10, .invokevirtual 94, 13, 113, 6, 0), (13, .ifCond .eq 21, 16, 34, 0, 0), (16, .aload_n 0, 17, 0, 0, 0), (17, .bipush 6, 19, 0, 0, 6), (19, .iconst 3, 20, 0, 0, 3), (20, .bipush 117, 22, 0, 0, 117), (22, .bipush 112, 24, 0, 0, 112), (24, .bipush 115, 26, 0, 0, 115), (26, .invokevirtual 94, 29, 113, 6, 0), (29, .ifCond .eq 5, 32, 34, 0, 0), (32, .iconst 1, 33, 0, 0, 1), (33, .ireturn, 34, 0, 0, 0), (34, .aload_n 0, 35, 0, 0, 0), (35, .iconst 5, 36, 0, 0, 5), (36, .iconst 0, 37, 0, 0, 0), (37, .bipush 99, 39, 0, 0, 99), (39, .bipush 101, 41, 0, 0, 101), (41, .bipush 108, 43, 0, 0, 108), (43, .invokevirtual 94, 46, 113, 6, 0), (46, .ifCond .eq 20, 49, 66, 0, 0), (49, .aload_n 0, 50, 0, 0, 0), (50, .iconst 5, 51, 0, 0, 5), (51, .iconst 2, 52, 0, 0, 2), (52, .bipush 108, 54, 0, 0, 108), (54, .bipush 108, 56, 0, 0, 108), (56, .bipush 115, 58, 0, 0, 115), (58, .invokevirtual 94, 61, 113, 6, 0), (61, .ifCond .eq 5, 64, 66, 0, 0), (64, .iconst 0, 65, 0, 0, 0), (65, .ireturn, 66, 0, 0, 0), (66, .aload_n 0, 67, 0, 0, 0), (67, .iconst 5, 68, 0, 0, 5), (68, .iconst 0, 69, 0, 0, 0), (69, .bipush 102, 71, 0, 0, 102), (71, .bipush 108, 73, 0, 0, 108), (73, .bipush 111, 75, 0, 0, 111), (75, .invokevirtual 94, 78, 113, 6, 0), (78, .ifCond .eq 20, 81, 98, 0, 0), (81, .aload_n 0, 82, 0, 0, 0), (82, .iconst 5, 83, 0, 0, 5), (83, .iconst 2, 84, 0, 0, 2), (84, .bipush 111, 86, 0, 0, 111), (86, .bipush 111, 88, 0, 0, 111), (88, .bipush 114, 90, 0, 0, 114), (90, .invokevirtual 94, 93, 113, 6, 0), (93, .ifCond .eq 5, 96, 98, 0, 0), (96, .iconst 2, 97, 0, 0, 2), (97, .ireturn, 98, 0, 0, 0), (98, .aload_n 0, 99, 0, 0, 0), (99, .iconst 4, 100, 0, 0, 4), (100, .iconst 0, 101, 0, 0, 0), (101, .bipush 114, 103, 0, 0, 114), (103, .bipush 97, 105, 0, 0, 97), (105, .bipush 116, 107, 0, 0, 116), (107, .invokevirtual 94, 110, 113, 6, 0), (110, .ifCond .eq 20, 113, 130, 0, 0), (113, .aload_n 0, 114, 0, 0, 0), (114, .iconst 4, 115, 0, 0, 4), (115, .iconst 1, 116, 0, 0, 1), (116, .bipush 97, 118, 0, 0, 97), (118, .bipush 116, 120, 0, 0, 116), (120, .bipush 101, 122, 0, 0, 101), (122, .invokevirtual 94, 125, 113, 6, 0), (125, .ifCond .eq 5, 128, 130, 0, 0), (128, .iconst 3, 129, 0, 0, 3), (129, .ireturn, 130, 0, 0, 0), (130, .aload_n 0, 131, 0, 0, 0), (131, .iconst 5, 132, 0, 0, 5), (132, .iconst 0, 133, 0, 0, 0), (133, .bipush 115, 135, 0, 0, 115), (135, .bipush 108, 137, 0, 0, 108), (137, .bipush 97, 139, 0, 0, 97), (139, .invokevirtual 94, 142, 113, 6, 0), (142, .ifCond .eq 22, 145, 164, 0, 0), (145, .aload_n 0, 146, 0, 0, 0), (146, .iconst 5, 147, 0, 0, 5), (147, .iconst 2, 148, 0, 0, 2), (148, .bipush 97, 150, 0, 0, 97), (150, .bipush 99, 152, 0, 0, 99), (152, .bipush 107, 154, 0, 0, 107), (154, .invokevirtual 94, 157, 113, 6, 0), (157, .ifCond .eq 7, 160, 164, 0, 0), (160, .iconst 4, 161, 0, 0, 4), (161, .goto 5, 164, 166, 0, 0), (164, .bipush (-4), 166, 0, 0, (-4)), (166, .ireturn, 167, 0, 0, 0)]
def tb_115 : List EN := [(0, .aload_n 0, 1, 0, 0, 0), (1, .getfield 75, 4, 8, 12, 0), (4, .ifCond .le 4, 7, 8, 0, 0), (7, .return_, 8, 0, 0, 0), (8, .aload_n 0, 9, 0, 0, 0), (9, .aload_n 0, 10, 0, 0, 0), (10, .getfield 87, 13, 8, 8, 0), (13, .invokevirtual 90, 16, 112, 2, 0), (16, .bipush 32, 18, 0, 0, 32), (18, .if_icmp .ne 16, 21, 34, 0, 0), (21, .aload_n 0, 22, 0, 0, 0), (22, .dup, 23, 0, 0, 0), (23, .getfield 87, 26, 8, 8, 0), (26, .iconst 1, 27, 0, 0, 1), (27, .iadd, 28, 0, 0, 0), (28, .putfield 87, 31, 8, 8, 0), (31, .goto (-23), 34, 8, 0, 0), (34, .aload_n 0, 35, 0, 0, 0), (35, .aload_n 0, 36, 0, 0, 0), (36, .getfield 87, 39, 8, 8, 0), (39, .putfield 78, 42, 8, 9, 0), (42, .aload_n 0, 43, 0, 0, 0), (43, .aload_n 0, 44, 0, 0, 0), (44, .getfield 87, 47, 8, 8, 0), (47, .invokevirtual 90, 50, 112, 2, 0), (50, .istore_n 1, 51, 0, 0, 0), (51, .iload_n 1, 52, 0, 0, 0), (52, .ifCond .ge 11, 55, 63, 0, 0), (55, .aload_n 0, 56, 0, 0, 0), (56, .iconst 0, 57, 0, 0, 0), (57, .putfield 84, 60, 8, 10, 0), (60, .goto 214, 63, 274, 0, 0), (63, .iload_n 1, 64, 0, 0, 0), (64, .i2l, 65, 0, 0, 0), (65, .ldc2_w 98, 68, 0, 0, 97), (68, .ldc2_w 100, 71, 0, 0, 122), (71, .invokestatic 67, 74, 106, 3, 0), (74, .ifCond .eq 42, 77, 116, 0, 0), (77, .aload_n 0, 78, 0, 0, 0), (78, .iconst 1, 79, 0, 0, 1), (79, .putfield 84, 82, 8, 10, 0), (82, .aload_n 0, 83, 0, 0, 0), (83, .aload_n 0, 84, 0, 0, 0), (84, .getfield 87, 87, 8, 8, 0), (87, .invokevirtual 90, 90, 112, 2, 0), (90, .i2l, 91, 0, 0, 0), (91, .ldc2_w 98, 94, 0, 0, 97), (94, .ldc2_w 100, 97, 0, 0, 122), (97, .invokestatic 67, 100, 106, 3, 0), (100, .ifCond .eq 174, 103, 274, 0, 0), (103, .aload_n 0, 104, 0, 0, 0), (104, .dup, 105, 0, 0, 0), (105, .getfield 87, 108, 8, 8, 0), (108, .iconst 1, 109, 0, 0, 1), (109, .iadd, 110, 0, 0, 0), (110, .putfield 87, 113, 8, 8, 0), (113, .goto (-31), 116, 82, 0, 0), (116, .iload_n 1, 117, 0, 0, 0), (117, .i2l, 118, 0, 0, 0), (118, .ldc2_w 102, 121, 0, 0, 48), (121, .ldc2_w 104, 124, 0, 0, 57), (124, .invokestatic 67, 127, 106, 3, 0), (127, .ifCond .eq 116, 130, 243, 0, 0), (130, .aload_n 0, 131, 0, 0, 0), (131, .iconst 2, 132, 0, 0, 2), (132, .putfield 84, 135, 8, 10, 0), (135, .aload_n 0, 136, 0, 0, 0), (136, .iconst 0, 137, 0, 0, 0), (137, .putfield 106, 140, 8, 11, 0), (140, .aload_n 0, 141, 0, 0, 0), (141, .aload_n 0, 142, 0, 0, 0), (142, .getfield 87, 145, 8, 8, 0), (145, .invokevirtual 90, 148, 112, 2, 0), (148, .i2l, 149, 0, 0, 0), (149, .ldc2_w 102, 152, 0, 0, 48), (152, .ldc2_w 104, 155, 0, 0, 57), (155, .invokestatic 67, 158, 106, 3, 0), (158, .ifCond .eq 59, 161, 217, 0, 0), (161, .aload_n 0, 162, 0, 0, 0), (162, .aload_n 0, 163, 0, 0, 0), (163, .getfield 87, 166, 8, 8, 0), (166, .aload_n 0, 167, 0, 0, 0), (167, .getfield 78, 170, 8, 9, 0), (170, .isub, 171, 0, 0, 0), (171, .iconst 3, 172, 0, 0, 3), (172, .if_icmp .ge 25, 175, 197, 0, 0), (175, .bipush 10, 177, 0, 0, 10), (177, .aload_n 0, 178, 0, 0, 0), (178, .getfield 106, 181, 8, 11, 0), (181, .imul, 182, 0, 0, 0), (182, .aload_n 0, 183, 0, 0, 0), (183, .aload_n 0, 184, 0, 0, 0), (184, .getfield 87, 187, 8, 8, 0), (187, .invokevirtual 90, 190, 112, 2, 0), (190, .iadd, 191, 0, 0, 0), (191, .bipush 48, 193, 0, 0, 48), (193, .isub, 194, 0, 0, 0), (194, .goto 7, 197, 201, 0, 0), (197, .aload_n 0, 198, 0, 0, 0), (198, .getfield 106, 201, 8, 11, 0), (201, .putfield 106, 204, 8, 11, 0), (204, .aload_n 0, 205, 0, 0, 0), (205, .dup, 206, 0, 0, 0), (206, .getfield 87, 209, 8, 8, 0), (209, .iconst 1, 210, 0, 0, 1), (210, .iadd, 211, 0, 0, 0), (211, .putfield 87, 214, 8, 8, 0), (214, .goto (-74), 217, 140, 0, 0), (217, .aload_n 0, 218, 0, 0, 0), (218, .aload_n 0, 219, 0, 0, 0), (219, .getfield 87, 222, 8, 8, 0), (222, .aload_n 0, 223, 0, 0, 0), (223, .getfield 78, 226, 8, 9, 0), (226, .isub, 227, 0, 0, 0), (227, .iconst 3, 228, 0, 0, 3), (228, .if_icmp .gt 7, 231, 235, 0, 0), (231, .iconst 1, 232, 0, 0, 1), (232, .goto 4, 235, 236, 0, 0), (235, .iconst 0, 236, 0, 0, 0), (236, .iconst 1, 237, 0, 0, 1), (237, .invokevirtual 109, 240, 111, 3, 0), (240, .goto 34, 243, 274, 0, 0), (243, .aload_n 0, 244, 0, 0, 0), (244, .iconst 3, 245, 0, 0, 3), (245, .putfield 84, 248, 8, 10, 0), (248, .aload_n 0, 249, 0, 0, 0), (249, .iload_n 1, 250, 0, 0, 0), (250, .bipush 59, 252, 0, 0, 59), (252, .if_icmp .ne 7, 255, 259, 0, 0), (255, .iconst 1, 256, 0, 0, 1), (256, .goto 4, 259, 260, 0, 0), (259, .iconst 0, 260, 0, 0, 0), (260, .iconst 1, 261, 0, 0, 1), (261, .invokevirtual 109, 264, 111, 3, 0), (264, .aload_n 0, 265, 0, 0, 0), (265, .dup, 266, 0, 0, 0), (266, .getfield 87, 269, 8, 8, 0), (269, .iconst 1, 270, 0, 0, 1), (270, .iadd, 271, 0, 0, 0), (271, .putfield 87, 274, 8, 8, 0), (274, .return_, 275, 0, 0, 0)]
def tb_116 : List EN := [(0, .iload_n 0, 1, 0, 0, 0), (1, .iconst 1, 2, 0, 0, 1), (2, .if_icmp .ne 7, 5, 9, 0, 0), (5, .iconst 2, 6, 0, 0, 2), (6, .goto 13, 9, 19, 0, 0), (9, .iload_n 0, 10, 0, 0, 0), (10, .iconst 3, 11, 0, 0, 3), (11, .if_icmp .ne 7, 14, 18, 0, 0), (14, .iconst 1, 15, 0, 0, 1), (15, .goto 4, 18, 19, 0, 0), (18, .iconst 0, 19, 0, 0, 0), (19, .ireturn, 20, 0, 0, 0)]
def tb_117 : List EN := [(0, .iload_n 0, 1, 0, 0, 0), (1, .iconst 1, 2, 0, 0, 1), (2, .if_icmp .ne 7, 5, 9, 0, 0), (5, .iconst 5, 6, 0, 0, 5), (6, .goto 16, 9, 22, 0, 0), (9, .iload_n 0, 10, 0, 0, 0), (10, .iconst 2, 11, 0, 0, 2), (11, .if_icmp .ne 9, 14, 20, 0, 0), (14, .sipush 999, 17, 0, 0, 999), (17, .goto 5, 20, 22, 0, 0), (20, .bipush 99, 22, 0, 0, 99), (22, .ireturn, 23, 0, 0, 0)]
def tb_118 : List EN := [(0, .aload_n 0, 1, 0, 0, 0), (1, .getfield 75, 4, 8, 12, 0), (4, .ifCond .ne 21, 7, 25, 0, 0), (7, .aload_n 0, 8, 0, 0, 0), (8, .aload_n 0, 9, 0, 0, 0), (9, .getfield 84, 12, 8, 10, 0), (12, .iconst 2, 13, 0, 0, 2), (13, .if_icmp .ne 7, 16, 20, 0, 0), (16, .iconst 1, 17, 0, 0, 1), (17, .goto 4, 20, 21, 0, 0), (20, .iconst 0, 21, 0, 0, 0), (21, .iconst 2, 22, 0, 0, 2), (22, .invokevirtual 109, 25, 111, 3, 0), (25, .aload_n 0, 26, 0, 0, 0), (26, .getfield 75, 29, 8, 12, 0), (29, .ifCond .ne 20, 32, 49, 0, 0), (32, .aload_n 0, 33, 0, 0, 0), (33, .aload_n 0, 34, 0, 0, 0), (34, .getfield 106, 37, 8, 11, 0), (37, .i2l, 38, 0, 0, 0), (38, .iload_n 1, 39, 0, 0, 0), (39, .i2l, 40, 0, 0, 0), (40, .iload_n 2, 41, 0, 0, 0), (41, .i2l, 42, 0, 0, 0), (42, .invokestatic 67, 45, 106, 3, 0), (45, .iconst 3, 46, 0, 0, 3), (46, .invokevirtual 109, 49, 111, 3, 0), (49, .aload_n 0, 50, 0, 0, 0), (50, .getfield 75, 53, 8, 12, 0), (53, .ifCond .ne 10, 56, 63, 0, 0), (56, .aload_n 0, 57, 0, 0, 0), (57, .getfield 106, 60, 8, 11, 0), (60, .goto 4, 63, 64, 0, 0), (63, .iconst 0, 64, 0, 0, 0), (64, .istore_n 3, 65, 0, 0, 0), (65, .aload_n 0, 66, 0, 0, 0), (66, .invokevirtual 113, 69, 115, 1, 0), (69, .iload_n 3, 70, 0, 0, 0), (70, .ireturn, 71, 0, 0, 0)]
def tb_119 : List EN := [(0, .aload_n 0, 1, 0, 0, 0), (1, .getfield 75, 4, 8, 12, 0), (4, .ifCond .ne 32, 7, 36, 0, 0), (7, .aload_n 0, 8, 0, 0, 0), (8, .getfield 84, 11, 8, 10, 0), (11, .iconst 2, 12, 0, 0, 2), (12, .if_icmp .ne 24, 15, 36, 0, 0), (15, .aload_n 0, 16, 0, 0, 0), (16, .aload_n 0, 17, 0, 0, 0), (17, .getfield 23, 20, 8, 4, 0), (20, .iconst 0, 21, 0, 0, 0), (21, .iaload, 22, 0, 0, 0), (22, .bipush 16, 24, 0, 0, 16), (24, .if_icmp .ge 7, 27, 31, 0, 0), (27, .iconst 1, 28, 0, 0, 1), (28, .goto 4, 31, 32, 0, 0), (31, .iconst 0, 32, 0, 0, 0), (32, .iconst 5, 33, 0, 0, 5), (33, .invokevirtual 109, 36, 111, 3, 0), (36, .aload_n 0, 37, 0, 0, 0), (37, .iconst 1, 38, 0, 0, 1), (38, .sipush 999, 41, 0, 0, 999), (41, .invokevirtual 116, 44, 118, 3, 0), (44, .istore_n 1, 45, 0, 0, 0), (45, .iload_n 1, 46, 0, 0, 0), (46, .ifCond .le 27, 49, 73, 0, 0), (49, .aload_n 0, 50, 0, 0, 0), (50, .getfield 23, 53, 8, 4, 0), (53, .iconst 5, 54, 0, 0, 5), (54, .aload_n 0, 55, 0, 0, 0), (55, .getfield 23, 58, 8, 4, 0), (58, .iconst 0, 59, 0, 0, 0), (59, .iaload, 60, 0, 0, 0), (60, .iadd, 61, 0, 0, 0), (61, .iload_n 1, 62, 0, 0, 0), (62, .iastore, 63, 0, 0, 0), (63, .aload_n 0, 64, 0, 0, 0), (64, .getfield 23, 67, 8, 4, 0), (67, .iconst 0, 68, 0, 0, 0), (68, .dup2, 69, 0, 0, 0), (69, .iaload, 70, 0, 0, 0), (70, .iconst 1, 71, 0, 0, 1), (71, .iadd, 72, 0, 0, 0), (72, .iastore, 73, 0, 0, 0), (73, .return_, 74, 0, 0, 0)]
def tb_120 : List EN := [(0, .aload_n 0, 1, 0, 0, 0), (1, .invokevirtual 120, 4, 114, 1, 0), (4, .istore_n 1, 5, 0, 0, 0), (5, .aload_n 0, 6, 0, 0, 0), (6, .iload_n 1, 7, 0, 0, 0), (7, .bipush (-4), 9, 0, 0, (-4)), (9, .if_icmp .eq 7, 12, 16, 0, 0), (12, .iconst 1, 13, 0, 0, 1), (13, .goto 4, 16, 17, 0, 0), (16, .iconst 0, 17, 0, 0, 0), (17, .iconst 2, 18, 0, 0, 2), (18, .invokevirtual 109, 21, 111, 3, 0), (21, .aload_n 0, 22, 0, 0, 0), (22, .iload_n 1, 23, 0, 0, 0), (23, .bipush (-4), 25, 0, 0, (-4)), (25, .if_icmp .eq 12, 28, 37, 0, 0), (28, .aload_n 0, 29, 0, 0, 0), (29, .getfield 29, 32, 8, 6, 0), (32, .iload_n 1, 33, 0, 0, 0), (33, .baload, 34, 0, 0, 0), (34, .ifCond .ne 7, 37, 41, 0, 0), (37, .iconst 1, 38, 0, 0, 1), (38, .goto 4, 41, 42, 0, 0), (41, .iconst 0, 42, 0, 0, 0), (42, .iconst 4, 43, 0, 0, 4), (43, .invokevirtual 109, 46, 111, 3, 0), (46, .aload_n 0, 47, 0, 0, 0), (47, .invokevirtual 113, 50, 115, 1, 0), (50, .aload_n 0, 51, 0, 0, 0), (51, .getfield 75, 54, 8, 12, 0), (54, .ifCond .le 4, 57, 58, 0, 0), (57, .return_, 58, 0, 0, 0), (58, .iload_n 1, 59, 0, 0, 0), (59, .ifCond .ne 29, 62, 88, 0, 0), (62, .aload_n 0, 63, 0, 0, 0), (63, .invokevirtual 124, 66, 119, 1, 0), (66, .aload_n 0, 67, 0, 0, 0), (67, .getfield 75, 70, 8, 12, 0), (70, .ifCond .ne 43, 73, 113, 0, 0), (73, .aload_n 0, 74, 0, 0, 0), (74, .getfield 84, 77, 8, 10, 0), (77, .iconst 2, 78, 0, 0, 2), (78, .if_icmp .ne 35, 81, 113, 0, 0), (81, .aload_n 0, 82, 0, 0, 0), (82, .invokevirtual 124, 85, 119, 1, 0), (85, .goto (-19), 88, 66, 0, 0), (88, .aload_n 0, 89, 0, 0, 0), (89, .getfield 29, 92, 8, 6, 0), (92, .iload_n 1, 93, 0, 0, 0), (93, .iconst 1, 94, 0, 0, 1), (94, .bastore, 95, 0, 0, 0), (95, .aload_n 0, 96, 0, 0, 0), (96, .getfield 23, 99, 8, 4, 0), (99, .iload_n 1, 100, 0, 0, 0), (100, .aload_n 0, 101, 0, 0, 0), (101, .iload_n 1, 102, 0, 0, 0), (102, .invokestatic 127, 105, 116, 1, 0), (105, .iload_n 1, 106, 0, 0, 0), (106, .invokestatic 130, 109, 117, 1, 0), (109, .invokevirtual 116, 112, 118, 3, 0), (112, .iastore, 113, 0, 0, 0), (113, .aload_n 0, 114, 0, 0, 0), (114, .getfield 75, 117, 8, 12, 0), (117, .ifCond .ne 21, 120, 138, 0, 0), (120, .aload_n 0, 121, 0, 0, 0), (121, .aload_n 0, 122, 0, 0, 0), (122, .getfield 84, 125, 8, 10, 0), (125, .iconst 3, 126, 0, 0, 3), (126, .if_icmp .ne 7, 129, 133, 0, 0), (129, .iconst 1, 130, 0, 0, 1), (130, .goto 4, 133, 134, 0, 0), (133, .iconst 0, 134, 0, 0, 0), (134, .iconst 2, 135, 0, 0, 2), (135, .invokevirtual 109, 138, 111, 3, 0), (138, .aload_n 0, 139, 0, 0, 0), (139, .invokevirtual 113, 142, 115, 1, 0), (142, .return_, 143, 0, 0, 0)]
def tb_121 : List EN := [(0, .aload_n 0, 1, 0, 0, 0), (1, .iconst 0, 2, 0, 0, 0), (2, .putfield 75, 5, 8, 12, 0), (5, .aload_n 0, 6, 0, 0, 0), (6, .iconst 0, 7, 0, 0, 0), (7, .putfield 87, 10, 8, 8, 0), (10, .aload_n 0, 11, 0, 0, 0), (11, .invokevirtual 62, 14, 108, 1, 0), (14, .aload_n 0, 15, 0, 0, 0), (15, .invokevirtual 113, 18, 115, 1, 0), (18, .aload_n 0, 19, 0, 0, 0), (19, .getfield 75, 22, 8, 12, 0), (22, .ifCond .ne 17, 25, 39, 0, 0), (25, .aload_n 0, 26, 0, 0, 0), (26, .getfield 84, 29, 8, 10, 0), (29, .ifCond .eq 10, 32, 39, 0, 0), (32, .aload_n 0, 33, 0, 0, 0), (33, .invokevirtual 133, 36, 120, 1, 0), (36, .goto (-18), 39, 18, 0, 0), (39, .aload_n 0, 40, 0, 0, 0), (40, .iconst 0, 41, 0, 0, 0), (41, .putfield 71, 44, 8, 7, 0), (44, .aload_n 0, 45, 0, 0, 0), (45, .getfield 75, 48, 8, 12, 0), (48, .ifCond .le 11, 51, 59, 0, 0), (51, .bipush (-10), 53, 0, 0, (-10)), (53, .aload_n 0, 54, 0, 0, 0), (54, .getfield 81, 57, 8, 13, 0), (57, .isub, 58, 0, 0, 0), (58, .ireturn, 59, 0, 0, 0), (59, .iconst 0, 60, 0, 0, 0), (60, .istore_n 1, 61, 0, 0, 0), (61, .iload_n 1, 62, 0, 0, 0), (62, .bipush 53, 64, 0, 0, 53), (64, .if_icmp .ge 21, 67, 85, 0, 0), (67, .aload_n 0, 68, 0, 0, 0), (68, .getfield 7, 71, 8, 0, 0), (71, .iload_n 1, 72, 0, 0, 0), (72, .aload_n 0, 73, 0, 0, 0), (73, .getfield 23, 76, 8, 4, 0), (76, .iload_n 1, 77, 0, 0, 0), (77, .iaload, 78, 0, 0, 0), (78, .iastore, 79, 0, 0, 0), (79, .iinc 1 1, 82, 0, 0, 0), (82, .goto (-21), 85, 61, 0, 0), (85, .iconst 0, 86, 0, 0, 0), (86, .istore_n 1, 87, 0, 0, 0), (87, .iload_n 1, 88, 0, 0, 0), (88, .aload_n 0, 89, 0, 0, 0), (89, .getfield 7, 92, 8, 0, 0), (92, .iconst 0, 93, 0, 0, 0), (93, .iaload, 94, 0, 0, 0), (94, .if_icmp .ge 26, 97, 120, 0, 0), (97, .aload_n 0, 98, 0, 0, 0), (98, .getfield 7, 101, 8, 0, 0), (101, .bipush 21, 103, 0, 0, 21), (103, .iload_n 1, 104, 0, 0, 0), (104, .iadd, 105, 0, 0, 0), (105, .aload_n 0, 106, 0, 0, 0), (106, .getfield 7, 109, 8, 0, 0), (109, .iconst 5, 110, 0, 0, 5), (110, .iload_n 1, 111, 0, 0, 0), (111, .iadd, 112, 0, 0, 0), (112, .iaload, 113, 0, 0, 0), (113, .iastore, 114, 0, 0, 0), (114, .iinc 1 1, 117, 0, 0, 0), (117, .goto (-30), 120, 87, 0, 0), (120, .aload_n 0, 121, 0, 0, 0), (121, .invokevirtual 136, 124, 155, 1, 0), (124, .aload_n 0, 125, 0, 0, 0), (125, .getfield 16, 128, 8, 2, 0), (128, .iconst 0, 129, 0, 0, 0), (129, .iconst 0, 130, 0, 0, 0), (130, .bastore, 131, 0, 0, 0), (131, .aload_n 0, 132, 0, 0, 0), (132, .getfield 16, 135, 8, 2, 0), (135, .iconst 1, 136, 0, 0, 1), (136, .iconst 0, 137, 0, 0, 0), (137, .bastore, 138, 0, 0, 0), (138, .aload_n 0, 139, 0, 0, 0), (139, .getfield 7, 142, 8, 0, 0), (142, .iconst 0, 143, 0, 0, 0), (143, .iaload, 144, 0, 0, 0), (144, .ireturn, 145, 0, 0, 0)]
def tb_122 : List EN := [(0, .aload_n 0, 1, 0, 0, 0), (1, .getfield 75, 4, 8, 12, 0), (4, .ireturn, 5, 0, 0, 0)]
def tb_123 : List EN := [(0, .iload_n 1, 1, 0, 0, 0), (1, .i2l, 2, 0, 0, 0), (2, .lconst 0, 3, 0, 0, 0), (3, .aload_n 0, 4, 0, 0, 0), (4, .getfield 7, 7, 8, 0, 0), (7, .iconst 0, 8, 0, 0, 0), (8, .iaload, 9, 0, 0, 0), (9, .iconst 1, 10, 0, 0, 1), (10, .isub, 11, 0, 0, 0), (11, .i2l, 12, 0, 0, 0), (12, .invokestatic 67, 15, 106, 3, 0), (15, .ireturn, 16, 1, 0, 0)]
def tb_124 : List EN := [(0, .iload_n 1, 1, 0, 0, 0), (1, .i2l, 2, 0, 0, 0), (2, .lconst 0, 3, 0, 0, 0), (3, .aload_n 0, 4, 0, 0, 0), (4, .getfield 7, 7, 8, 0, 0), (7, .iconst 1, 8, 0, 0, 1), (8, .iaload, 9, 0, 0, 0), (9, .iconst 1, 10, 0, 0, 1), (10, .isub, 11, 0, 0, 0), (11, .i2l, 12, 0, 0, 0), (12, .invokestatic 67, 15, 106, 3, 0), (15, .ireturn, 16, 1, 0, 0)]
def tb_125 : List EN := [(0, .iconst 0, 1, 0, 0, 0), (1, .istore_n 2, 2, 0, 0, 0), (2, .iload_n 2, 3, 0, 0, 0), (3, .iconst 5, 4, 0, 0, 5), (4, .if_icmp .ge 16, 7, 20, 0, 0), (7, .aload_n 0, 8, 0, 0, 0), (8, .getfield 32, 11, 8, 14, 0), (11, .iload_n 2, 12, 0, 0, 0), (12, .iconst 0, 13, 0, 0, 0), (13, .iastore, 14, 0, 0, 0), (14, .iinc 2 1, 17, 0, 0, 0), (17, .goto (-15), 20, 2, 0, 0), (20, .iconst 0, 21, 0, 0, 0), (21, .istore_n 2, 22, 0, 0, 0), (22, .iload_n 2, 23, 0, 0, 0), (23, .aload_n 0, 24, 0, 0, 0), (24, .getfield 7, 27, 8, 0, 0), (27, .iconst 0, 28, 0, 0, 0), (28, .iaload, 29, 0, 0, 0), (29, .if_icmp .ge 34, 32, 63, 0, 0), (32, .aload_n 0, 33, 0, 0, 0), (33, .getfield 32, 36, 8, 14, 0), (36, .aload_n 0, 37, 0, 0, 0), (37, .getfield 7, 40, 8, 0, 0), (40, .bipush 37, 42, 0, 0, 37), (42, .iload_n 2, 43, 0, 0, 0), (43, .iadd, 44, 0, 0, 0), (44, .iaload, 45, 0, 0, 0), (45, .dup2, 46, 0, 0, 0), (46, .iaload, 47, 0, 0, 0), (47, .aload_n 0, 48, 0, 0, 0), (48, .getfield 7, 51, 8, 0, 0), (51, .iload_n 1, 52, 0, 0, 0), (52, .iload_n 2, 53, 0, 0, 0), (53, .iadd, 54, 0, 0, 0), (54, .iaload, 55, 0, 0, 0), (55, .iadd, 56, 0, 0, 0), (56, .iastore, 57, 0, 0, 0), (57, .iinc 2 1, 60, 0, 0, 0), (60, .goto (-38), 63, 22, 0, 0), (63, .return_, 64, 0, 0, 0)]
def tb_126 : List EN := [(0, .iconst 0, 1, 0, 0, 0), (1, .istore_n 1, 2, 0, 0, 0), (2, .iload_n 1, 3, 0, 0, 0), (3, .iconst 5, 4, 0, 0, 5), (4, .if_icmp .ge 16, 7, 20, 0, 0), (7, .aload_n 0, 8, 0, 0, 0), (8, .getfield 32, 11, 8, 14, 0), (11, .iload_n 1, 12, 0, 0, 0), (12, .iconst 0, 13, 0, 0, 0), (13, .iastore, 14, 0, 0, 0), (14, .iinc 1 1, 17, 0, 0, 0), (17, .goto (-15), 20, 2, 0, 0), (20, .iconst 0, 21, 0, 0, 0), (21, .istore_n 1, 22, 0, 0, 0), (22, .iload_n 1, 23, 0, 0, 0), (23, .aload_n 0, 24, 0, 0, 0), (24, .getfield 7, 27, 8, 0, 0), (27, .iconst 0, 28, 0, 0, 0), (28, .iaload, 29, 0, 0, 0), (29, .if_icmp .ge 31, 32, 60, 0, 0), (32, .aload_n 0, 33, 0, 0, 0), (33, .getfield 32, 36, 8, 14, 0), (36, .aload_n 0, 37, 0, 0, 0), (37, .getfield 35, 40, 8, 15, 0), (40, .iload_n 1, 41, 0, 0, 0), (41, .iaload, 42, 0, 0, 0), (42, .dup2, 43, 0, 0, 0), (43, .iaload, 44, 0, 0, 0), (44, .aload_n 0, 45, 0, 0, 0), (45, .getfield 7, 48, 8, 0, 0), (48, .iconst 5, 49, 0, 0, 5), (49, .iload_n 1, 50, 0, 0, 0), (50, .iadd, 51, 0, 0, 0), (51, .iaload, 52, 0, 0, 0), (52, .iadd, 53, 0, 0, 0), (53, .iastore, 54, 0, 0, 0), (54, .iinc 1 1, 57, 0, 0, 0), (57, .goto (-35), 60, 22, 0, 0), (60, .return_, 61, 0, 0, 0)]
def tb_127 : List EN := [(0, .iconst 0, 1, 0, 0, 0), (1, .istore_n 1, 2, 0, 0, 0), (2, .iconst 1, 3, 0, 0, 1), (3, .istore_n 2, 4, 0, 0, 0), (4, .iload_n 2, 5, 0, 0, 0), (5, .aload_n 0, 6, 0, 0, 0), (6, .getfield 7, 9, 8, 0, 0), (9, .iconst 1, 10, 0, 0, 1), (10, .iaload, 11, 0, 0, 0), (11, .if_icmp .ge 30, 14, 41, 0, 0), (14, .aload_n 0, 15, 0, 0, 0), (15, .getfield 32, 18, 8, 14, 0), (18, .iload_n 2, 19, 0, 0, 0), (19, .iaload, 20, 0, 0, 0), (20, .aload_n 0, 21, 0, 0, 0), (21, .getfield 32, 24, 8, 14, 0), (24, .iload_n 1, 25, 0, 0, 0), (25, .iaload, 26, 0, 0, 0), (26, .if_icmp .ge 7, 29, 33, 0, 0), (29, .iload_n 2, 30, 0, 0, 0), (30, .goto 4, 33, 34, 0, 0), (33, .iload_n 1, 34, 0, 0, 0), (34, .istore_n 1, 35, 0, 0, 0), (35, .iinc 2 1, 38, 0, 0, 0), (38, .goto (-34), 41, 4, 0, 0), (41, .iload_n 1, 42, 0, 0, 0), (42, .ireturn, 43, 0, 0, 0)]
def tb_128 : List EN := [(0, .aload_n 0, 1, 0, 0, 0), (1, .getfield 32, 4, 8, 14, 0), (4, .aload_n 0, 5, 0, 0, 0), (5, .invokevirtual 139, 8, 127, 1, 0), (8, .iaload, 9, 0, 0, 0), (9, .ireturn, 10, 0, 0, 0)]
def tb_129 : List EN := [(0, .aload_n 0, 1, 0, 0, 0), (1, .getfield 32, 4, 8, 14, 0), (4, .iconst 0, 5, 0, 0, 0), (5, .iaload, 6, 0, 0, 0), (6, .istore_n 1, 7, 0, 0, 0), (7, .iconst 1, 8, 0, 0, 1), (8, .istore_n 2, 9, 0, 0, 0), (9, .iload_n 2, 10, 0, 0, 0), (10, .aload_n 0, 11, 0, 0, 0), (11, .getfield 7, 14, 8, 0, 0), (14, .iconst 1, 15, 0, 0, 1), (15, .iaload, 16, 0, 0, 0), (16, .if_icmp .ge 30, 19, 46, 0, 0), (19, .aload_n 0, 20, 0, 0, 0), (20, .getfield 32, 23, 8, 14, 0), (23, .iload_n 2, 24, 0, 0, 0), (24, .iaload, 25, 0, 0, 0), (25, .iload_n 1, 26, 0, 0, 0), (26, .if_icmp .le 12, 29, 38, 0, 0), (29, .aload_n 0, 30, 0, 0, 0), (30, .getfield 32, 33, 8, 14, 0), (33, .iload_n 2, 34, 0, 0, 0), (34, .iaload, 35, 0, 0, 0), (35, .goto 4, 38, 39, 0, 0), (38, .iload_n 1, 39, 0, 0, 0), (39, .istore_n 1, 40, 0, 0, 0), (40, .iinc 2 1, 43, 0, 0, 0), (43, .goto (-34), 46, 9, 0, 0), (46, .iload_n 1, 47, 0, 0, 0), (47, .ireturn, 48, 0, 0, 0)]
def tb_130 : List EN := [(0, .aload_n 0, 1, 0, 0, 0), (1, .bipush 21, 3, 0, 0, 21), (3, .invokevirtual 142, 6, 125, 2, 0), (6, .aload_n 0, 7, 0, 0, 0), (7, .invokevirtual 146, 10, 129, 1, 0), (10, .aload_n 0, 11, 0, 0, 0), (11, .invokevirtual 149, 14, 128, 1, 0), (14, .isub, 15, 0, 0, 0), (15, .ireturn, 16, 0, 0, 0)]
def tb_131 : List EN := [(0, .iconst 0, 1, 0, 0, 0), (1, .istore_n 2, 2, 0, 0, 0), (2, .iconst 0, 3, 0, 0, 0), (3, .istore_n 3, 4, 0, 0, 0), (4, .iload_n 3, 5, 0, 0, 0), (5, .aload_n 0, 6, 0, 0, 0), (6, .getfield 7, 9, 8, 0, 0), (9, .iconst 0, 10, 0, 0, 0), (10, .iaload, 11, 0, 0, 0), (11, .if_icmp .ge 20, 14, 31, 0, 0), (14, .iload_n 2, 15, 0, 0, 0), (15, .aload_n 0, 16, 0, 0, 0), (16, .getfield 7, 19, 8, 0, 0), (19, .iload_n 1, 20, 0, 0, 0), (20, .iload_n 3, 21, 0, 0, 0), (21, .iadd, 22, 0, 0, 0), (22, .iaload, 23, 0, 0, 0), (23, .iadd, 24, 0, 0, 0), (24, .istore_n 2, 25, 0, 0, 0), (25, .iinc 3 1, 28, 0, 0, 0), (28, .goto (-24), 31, 4, 0, 0), (31, .iload_n 2, 32, 0, 0, 0), (32, .ireturn, 33, 0, 0, 0)]
def tb_132 : List EN := [(0, .aload_n 0, 1, 0, 0, 0), (1, .bipush 21, 3, 0, 0, 21), (3, .invokevirtual 142, 6, 125, 2, 0), (6, .aload_n 0, 7, 0, 0, 0), (7, .invokevirtual 139, 10, 127, 1, 0), (10, .ireturn, 11, 0, 0, 0)]
def tb_133 : List EN := [(0, .aload_n 0, 1, 0, 0, 0), (1, .iload_n 1, 2, 0, 0, 0), (2, .invokevirtual 142, 5, 125, 2, 0), (5, .aload_n 0, 6, 0, 0, 0), (6, .invokevirtual 149, 9, 128, 1, 0), (9, .ireturn, 10, 0, 0, 0)]
def tb_134 : List EN := [(0, .iload_n 1, 1, 0, 0, 0), (1, .tableswitch 92 0 9 #[55, 55, 55, 55, 55, 62, 67, 74, 79, 86], 56, 0, 0, 0), (56, .aload_n 0, 57, 0, 0, 0), (57, .getfield 7, 60, 8, 0, 0), (60, .iload_n 1, 61, 0, 0, 0), (61, .iaload, 62, 0, 0, 0), (62, .ireturn, 63, 0, 0, 0), (63, .aload_n 0, 64, 0, 0, 0), (64, .invokevirtual 152, 67, 132, 1, 0), (67, .ireturn, 68, 0, 0, 0), (68, .aload_n 0, 69, 0, 0, 0), (69, .bipush 21, 71, 0, 0, 21), (71, .invokevirtual 155, 74, 133, 2, 0), (74, .ireturn, 75, 0, 0, 0), (75, .aload_n 0, 76, 0, 0, 0), (76, .invokevirtual 158, 79, 130, 1, 0), (79, .ireturn, 80, 0, 0, 0), (80, .aload_n 0, 81, 0, 0, 0), (81, .bipush 21, 83, 0, 0, 21), (83, .invokevirtual 161, 86, 131, 2, 0), (86, .ireturn, 87, 0, 0, 0), (87, .aload_n 0, 88, 0, 0, 0), (88, .iconst 5, 89, 0, 0, 5), (89, .invokevirtual 161, 92, 131, 2, 0), (92, .ireturn, 93, 0, 0, 0), (93, .iconst (-1), 94, 0, 0, (-1)), (94, .ireturn, 95, 0, 0, 0)]
def tb_135 : List EN := [(0, .iconst 0, 1, 0, 0, 0), (1, .istore_n 2, 2, 0, 0, 0), (2, .iconst 0, 3, 0, 0, 0), (3, .istore_n 3, 4, 0, 0, 0), (4, .iload_n 3, 5, 0, 0, 0), (5, .aload_n 0, 6, 0, 0, 0), (6, .getfield 7, 9, 8, 0, 0), (9, .iconst 0, 10, 0, 0, 0), (10, .iaload, 11, 0, 0, 0), (11, .if_icmp .ge 63, 14, 74, 0, 0), (14, .iload_n 2, 15, 0, 0, 0), (15, .aload_n 0, 16, 0, 0, 0), (16, .getfield 7, 19, 8, 0, 0), (19, .iconst 5, 20, 0, 0, 5), (20, .iload_n 3, 21, 0, 0, 0), (21, .iadd, 22, 0, 0, 0), (22, .iaload, 23, 0, 0, 0), (23, .aload_n 0, 24, 0, 0, 0), (24, .getfield 7, 27, 8, 0, 0), (27, .iconst 5, 28, 0, 0, 5), (28, .iload_n 1, 29, 0, 0, 0), (29, .iadd, 30, 0, 0, 0), (30, .iaload, 31, 0, 0, 0), (31, .if_icmp .gt 27, 34, 58, 0, 0), (34, .aload_n 0, 35, 0, 0, 0), (35, .getfield 7, 38, 8, 0, 0), (38, .iconst 5, 39, 0, 0, 5), (39, .iload_n 3, 40, 0, 0, 0), (40, .iadd, 41, 0, 0, 0), (41, .iaload, 42, 0, 0, 0), (42, .aload_n 0, 43, 0, 0, 0), (43, .getfield 7, 46, 8, 0, 0), (46, .iconst 5, 47, 0, 0, 5), (47, .iload_n 1, 48, 0, 0, 0), (48, .iadd, 49, 0, 0, 0), (49, .iaload, 50, 0, 0, 0), (50, .if_icmp .ne 12, 53, 62, 0, 0), (53, .iload_n 3, 54, 0, 0, 0), (54, .iload_n 1, 55, 0, 0, 0), (55, .if_icmp .ge 7, 58, 62, 0, 0), (58, .iconst 1, 59, 0, 0, 1), (59, .goto 4, 62, 63, 0, 0), (62, .iconst 0, 63, 0, 0, 0), (63, .invokestatic 164, 66, 107, 1, 0), (66, .iadd, 67, 0, 0, 0), (67, .istore_n 2, 68, 0, 0, 0), (68, .iinc 3 1, 71, 0, 0, 0), (71, .goto (-67), 74, 4, 0, 0), (74, .iload_n 2, 75, 0, 0, 0), (75, .ireturn, 76, 0, 0, 0)]
def tb_136 : List EN := [(0, .aload_n 0, 1, 0, 0, 0), (1, .iload_n 1, 2, 0, 0, 0), (2, .invokevirtual 168, 5, 123, 2, 0), (5, .ifCond .ne 5, 8, 10, 0, 0), (8, .iconst (-1), 9, 0, 0, (-1)), (9, .ireturn, 10, 0, 0, 0), (10, .iload_n 2, 11, 0, 0, 0), (11, .tableswitch 64 0 3 #[29, 38, 48, 58], 40, 0, 0, 0), (40, .aload_n 0, 41, 0, 0, 0), (41, .getfield 7, 44, 8, 0, 0), (44, .iconst 5, 45, 0, 0, 5), (45, .iload_n 1, 46, 0, 0, 0), (46, .iadd, 47, 0, 0, 0), (47, .iaload, 48, 0, 0, 0), (48, .ireturn, 49, 0, 0, 0), (49, .aload_n 0, 50, 0, 0, 0), (50, .getfield 7, 53, 8, 0, 0), (53, .bipush 21, 55, 0, 0, 21), (55, .iload_n 1, 56, 0, 0, 0), (56, .iadd, 57, 0, 0, 0), (57, .iaload, 58, 0, 0, 0), (58, .ireturn, 59, 0, 0, 0), (59, .aload_n 0, 60, 0, 0, 0), (60, .getfield 7, 63, 8, 0, 0), (63, .bipush 37, 65, 0, 0, 37), (65, .iload_n 1, 66, 0, 0, 0), (66, .iadd, 67, 0, 0, 0), (67, .iaload, 68, 0, 0, 0), (68, .ireturn, 69, 0, 0, 0), (69, .aload_n 0, 70, 0, 0, 0), (70, .iload_n 1, 71, 0, 0, 0), (71, .invokevirtual 172, 74, 135, 2, 0), (74, .ireturn, 75, 0, 0, 0), (75, .iconst (-1), 76, 0, 0, (-1)), (76, .ireturn, 77, 0, 0, 0)]
def tb_137 : List EN := [(0, .bipush (-4), 2, 0, 0, (-4)), (2, .istore_n 2, 3, 0, 0, 0), (3, .iconst 0, 4, 0, 0, 0), (4, .istore_n 3, 5, 0, 0, 0), (5, .iload_n 3, 6, 0, 0, 0), (6, .aload_n 0, 7, 0, 0, 0), (7, .getfield 7, 10, 8, 0, 0), (10, .iconst 0, 11, 0, 0, 0), (11, .iaload, 12, 0, 0, 0), (12, .if_icmp .ge 51, 15, 63, 0, 0), (15, .aload_n 0, 16, 0, 0, 0), (16, .getfield 7, 19, 8, 0, 0), (19, .bipush 37, 21, 0, 0, 37), (21, .iload_n 3, 22, 0, 0, 0), (22, .iadd, 23, 0, 0, 0), (23, .iaload, 24, 0, 0, 0), (24, .iload_n 1, 25, 0, 0, 0), (25, .if_icmp .ne 32, 28, 57, 0, 0), (28, .iload_n 2, 29, 0, 0, 0), (29, .bipush (-4), 31, 0, 0, (-4)), (31, .if_icmp .eq 24, 34, 55, 0, 0), (34, .aload_n 0, 35, 0, 0, 0), (35, .getfield 7, 38, 8, 0, 0), (38, .bipush 21, 40, 0, 0, 21), (40, .iload_n 3, 41, 0, 0, 0), (41, .iadd, 42, 0, 0, 0), (42, .iaload, 43, 0, 0, 0), (43, .aload_n 0, 44, 0, 0, 0), (44, .getfield 7, 47, 8, 0, 0), (47, .bipush 21, 49, 0, 0, 21), (49, .iload_n 2, 50, 0, 0, 0), (50, .iadd, 51, 0, 0, 0), (51, .iaload, 52, 0, 0, 0), (52, .if_icmp .le 5, 55, 57, 0, 0), (55, .iload_n 3, 56, 0, 0, 0), (56, .istore_n 2, 57, 0, 0, 0), (57, .iinc 3 1, 60, 0, 0, 0), (60, .goto (-55), 63, 5, 0, 0), (63, .iload_n 2, 64, 0, 0, 0), (64, .ireturn, 65, 0, 0, 0)]
def tb_138 : List EN := [(0, .iconst 0, 1, 0, 0, 0), (1, .istore_n 3, 2, 0, 0, 0), (2, .iconst 0, 3, 0, 0, 0), (3, .istore 4, 5, 0, 0, 0), (5, .iload 4, 7, 0, 0, 0), (7, .aload_n 0, 8, 0, 0, 0), (8, .getfield 7, 11, 8, 0, 0), (11, .iconst 0, 12, 0, 0, 0), (12, .iaload, 13, 0, 0, 0), (13, .if_icmp .ge 42, 16, 55, 0, 0), (16, .iload_n 3, 17, 0, 0, 0), (17, .aload_n 0, 18, 0, 0, 0), (18, .getfield 7, 21, 8, 0, 0), (21, .bipush 37, 23, 0, 0, 37), (23, .iload 4, 25, 0, 0, 0), (25, .iadd, 26, 0, 0, 0), (26, .iaload, 27, 0, 0, 0), (27, .iload_n 1, 28, 0, 0, 0), (28, .if_icmp .ne 18, 31, 46, 0, 0), (31, .iload_n 2, 32, 0, 0, 0), (32, .ifCond .eq 10, 35, 42, 0, 0), (35, .iconst 1, 36, 0, 0, 1), (36, .iload 4, 38, 0, 0, 0), (38, .ishl, 39, 0, 0, 0), (39, .goto 8, 42, 47, 0, 0), (42, .iconst 1, 43, 0, 0, 1), (43, .goto 4, 46, 47, 0, 0), (46, .iconst 0, 47, 0, 0, 0), (47, .iadd, 48, 0, 0, 0), (48, .istore_n 3, 49, 0, 0, 0), (49, .iinc 4 1, 52, 0, 0, 0), (52, .goto (-47), 55, 5, 0, 0), (55, .iload_n 3, 56, 0, 0, 0), (56, .ireturn, 57, 0, 0, 0)]
def tb_139 : List EN := [(0, .iconst 0, 1, 0, 0, 0), (1, .istore_n 2, 2, 0, 0, 0), (2, .iconst 0, 3, 0, 0, 0), (3, .istore_n 3, 4, 0, 0, 0), (4, .iload_n 3, 5, 0, 0, 0), (5, .aload_n 0, 6, 0, 0, 0), (6, .getfield 7, 9, 8, 0, 0), (9, .iconst 0, 10, 0, 0, 0), (10, .iaload, 11, 0, 0, 0), (11, .if_icmp .ge 63, 14, 74, 0, 0), (14, .iload_n 2, 15, 0, 0, 0), (15, .aload_n 0, 16, 0, 0, 0), (16, .getfield 7, 19, 8, 0, 0), (19, .bipush 37, 21, 0, 0, 37), (21, .iload_n 3, 22, 0, 0, 0), (22, .iadd, 23, 0, 0, 0), (23, .iaload, 24, 0, 0, 0), (24, .iload_n 1, 25, 0, 0, 0), (25, .if_icmp .ne 40, 28, 65, 0, 0), (28, .aload_n 0, 29, 0, 0, 0), (29, .getfield 7, 32, 8, 0, 0), (32, .bipush 21, 34, 0, 0, 21), (34, .iload_n 3, 35, 0, 0, 0), (35, .iadd, 36, 0, 0, 0), (36, .iaload, 37, 0, 0, 0), (37, .aload_n 0, 38, 0, 0, 0), (38, .getfield 7, 41, 8, 0, 0), (41, .iconst 2, 42, 0, 0, 2), (42, .iaload, 43, 0, 0, 0), (43, .if_icmp .le 22, 46, 65, 0, 0), (46, .aload_n 0, 47, 0, 0, 0), (47, .getfield 7, 50, 8, 0, 0), (50, .bipush 21, 52, 0, 0, 21), (52, .iload_n 3, 53, 0, 0, 0), (53, .iadd, 54, 0, 0, 0), (54, .iaload, 55, 0, 0, 0), (55, .aload_n 0, 56, 0, 0, 0), (56, .getfield 7, 59, 8, 0, 0), (59, .iconst 2, 60, 0, 0, 2), (60, .iaload, 61, 0, 0, 0), (61, .isub, 62, 0, 0, 0), (62, .goto 4, 65, 66, 0, 0), (65, .iconst 0, 66, 0, 0, 0), (66, .iadd, 67, 0, 0, 0), (67, .istore_n 2, 68, 0, 0, 0), (68, .iinc 3 1, 71, 0, 0, 0), (71, .goto (-67), 74, 4, 0, 0), (74, .iload_n 2, 75, 0, 0, 0), (75, .ireturn, 76, 0, 0, 0)]
def tb_140 : List EN := [(0, .aload_n 0, 1, 0, 0, 0), (1, .bipush 21, 3, 0, 0, 21), (3, .invokevirtual 142, 6, 125, 2, 0), (6, .aload_n 0, 7, 0, 0, 0), (7, .getfield 32, 10, 8, 14, 0), (10, .iload_n 1, 11, 0, 0, 0), (11, .iaload, 12, 0, 0, 0), (12, .ireturn, 13, 0, 0, 0)]
def tb_141 : List EN := [(0, .aload_n 0, 1, 0, 0, 0), (1, .iload_n 1, 2, 0, 0, 0), (2, .invokevirtual 175, 5, 124, 2, 0), (5, .ifCond .ne 5, 8, 10, 0, 0), (8, .iconst (-1), 9, 0, 0, (-1)), (9, .ireturn, 10, 0, 0, 0), (10, .iload_n 2, 11, 0, 0, 0), (11, .tableswitch 65 0 4 #[33, 39, 46, 52, 59], 44, 0, 0, 0), (44, .aload_n 0, 45, 0, 0, 0), (45, .iload_n 1, 46, 0, 0, 0), (46, .invokevirtual 178, 49, 140, 2, 0), (49, .ireturn, 50, 0, 0, 0), (50, .aload_n 0, 51, 0, 0, 0), (51, .iload_n 1, 52, 0, 0, 0), (52, .iconst 0, 53, 0, 0, 0), (53, .invokevirtual 181, 56, 138, 3, 0), (56, .ireturn, 57, 0, 0, 0), (57, .aload_n 0, 58, 0, 0, 0), (58, .iload_n 1, 59, 0, 0, 0), (59, .invokevirtual 185, 62, 137, 2, 0), (62, .ireturn, 63, 0, 0, 0), (63, .aload_n 0, 64, 0, 0, 0), (64, .iload_n 1, 65, 0, 0, 0), (65, .iconst 1, 66, 0, 0, 1), (66, .invokevirtual 181, 69, 138, 3, 0), (69, .ireturn, 70, 0, 0, 0), (70, .aload_n 0, 71, 0, 0, 0), (71, .iload_n 1, 72, 0, 0, 0), (72, .invokevirtual 188, 75, 139, 2, 0), (75, .ireturn, 76, 0, 0, 0), (76, .iconst (-1), 77, 0, 0, (-1)), (77, .ireturn, 78, 0, 0, 0)]
def tb_142 : List EN := [(0, .iconst 0, 1, 0, 0, 0), (1, .istore_n 1, 2, 0, 0, 0), (2, .iload_n 1, 3, 0, 0, 0), (3, .aload_n 0, 4, 0, 0, 0), (4, .getfield 7, 7, 8, 0, 0), (7, .iconst 0, 8, 0, 0, 0), (8, .iaload, 9, 0, 0, 0), (9, .if_icmp .ge 23, 12, 32, 0, 0), (12, .aload_n 0, 13, 0, 0, 0), (13, .getfield 35, 16, 8, 15, 0), (16, .iload_n 1, 17, 0, 0, 0), (17, .iload_n 1, 18, 0, 0, 0), (18, .aload_n 0, 19, 0, 0, 0), (19, .getfield 7, 22, 8, 0, 0), (22, .iconst 1, 23, 0, 0, 1), (23, .iaload, 24, 0, 0, 0), (24, .irem, 25, 0, 0, 0), (25, .iastore, 26, 0, 0, 0), (26, .iinc 1 1, 29, 0, 0, 0), (29, .goto (-27), 32, 2, 0, 0), (32, .return_, 33, 0, 0, 0)]
def tb_143 : List EN := [(0, .iconst 0, 1, 0, 0, 0), (1, .istore_n 1, 2, 0, 0, 0), (2, .iload_n 1, 3, 0, 0, 0), (3, .iconst 5, 4, 0, 0, 5), (4, .if_icmp .ge 16, 7, 20, 0, 0), (7, .aload_n 0, 8, 0, 0, 0), (8, .getfield 32, 11, 8, 14, 0), (11, .iload_n 1, 12, 0, 0, 0), (12, .iconst 0, 13, 0, 0, 0), (13, .iastore, 14, 0, 0, 0), (14, .iinc 1 1, 17, 0, 0, 0), (17, .goto (-15), 20, 2, 0, 0), (20, .iconst 0, 21, 0, 0, 0), (21, .istore_n 1, 22, 0, 0, 0), (22, .iload_n 1, 23, 0, 0, 0), (23, .aload_n 0, 24, 0, 0, 0), (24, .getfield 7, 27, 8, 0, 0), (27, .iconst 0, 28, 0, 0, 0), (28, .iaload, 29, 0, 0, 0), (29, .if_icmp .ge 65, 32, 94, 0, 0), (32, .iconst 0, 33, 0, 0, 0), (33, .istore_n 2, 34, 0, 0, 0), (34, .iload_n 2, 35, 0, 0, 0), (35, .aload_n 0, 36, 0, 0, 0), (36, .getfield 7, 39, 8, 0, 0), (39, .iconst 0, 40, 0, 0, 0), (40, .iaload, 41, 0, 0, 0), (41, .if_icmp .ge 47, 44, 88, 0, 0), (44, .aload_n 0, 45, 0, 0, 0), (45, .iload_n 2, 46, 0, 0, 0), (46, .invokevirtual 172, 49, 135, 2, 0), (49, .iload_n 1, 50, 0, 0, 0), (50, .if_icmp .ne 32, 53, 82, 0, 0), (53, .aload_n 0, 54, 0, 0, 0), (54, .invokevirtual 139, 57, 127, 1, 0), (57, .istore_n 3, 58, 0, 0, 0), (58, .aload_n 0, 59, 0, 0, 0), (59, .getfield 35, 62, 8, 15, 0), (62, .iload_n 2, 63, 0, 0, 0), (63, .iload_n 3, 64, 0, 0, 0), (64, .iastore, 65, 0, 0, 0), (65, .aload_n 0, 66, 0, 0, 0), (66, .getfield 32, 69, 8, 14, 0), (69, .iload_n 3, 70, 0, 0, 0), (70, .dup2, 71, 0, 0, 0), (71, .iaload, 72, 0, 0, 0), (72, .aload_n 0, 73, 0, 0, 0), (73, .getfield 7, 76, 8, 0, 0), (76, .iconst 5, 77, 0, 0, 5), (77, .iload_n 2, 78, 0, 0, 0), (78, .iadd, 79, 0, 0, 0), (79, .iaload, 80, 0, 0, 0), (80, .iadd, 81, 0, 0, 0), (81, .iastore, 82, 0, 0, 0), (82, .iinc 2 1, 85, 0, 0, 0), (85, .goto (-51), 88, 34, 0, 0), (88, .iinc 1 1, 91, 0, 0, 0), (91, .goto (-69), 94, 22, 0, 0), (94, .return_, 95, 0, 0, 0)]
def tb_144 : List EN := [(0, .iconst 0, 1, 0, 0, 0), (1, .istore_n 2, 2, 0, 0, 0), (2, .iconst 0, 3, 0, 0, 0), (3, .istore_n 3, 4, 0, 0, 0), (4, .iload_n 3, 5, 0, 0, 0), (5, .aload_n 0, 6, 0, 0, 0), (6, .getfield 7, 9, 8, 0, 0), (9, .iconst 0, 10, 0, 0, 0), (10, .iaload, 11, 0, 0, 0), (11, .if_icmp .ge 26, 14, 37, 0, 0), (14, .iload_n 2, 15, 0, 0, 0), (15, .iload_n 1, 16, 0, 0, 0), (16, .iload_n 3, 17, 0, 0, 0), (17, .ishr, 18, 0, 0, 0), (18, .iconst 1, 19, 0, 0, 1), (19, .iand, 20, 0, 0, 0), (20, .aload_n 0, 21, 0, 0, 0), (21, .getfield 7, 24, 8, 0, 0), (24, .iconst 5, 25, 0, 0, 5), (25, .iload_n 3, 26, 0, 0, 0), (26, .iadd, 27, 0, 0, 0), (27, .iaload, 28, 0, 0, 0), (28, .imul, 29, 0, 0, 0), (29, .iadd, 30, 0, 0, 0), (30, .istore_n 2, 31, 0, 0, 0), (31, .iinc 3 1, 34, 0, 0, 0), (34, .goto (-30), 37, 4, 0, 0), (37, .iload_n 2, 38, 0, 0, 0), (38, .ireturn, 39, 0, 0, 0)]
def tb_145 : List EN := [(0, .aload_n 0, 1, 0, 0, 0), (1, .iload_n 1, 2, 0, 0, 0), (2, .invokevirtual 191, 5, 144, 2, 0), (5, .istore_n 3, 6, 0, 0, 0), (6, .aload_n 0, 7, 0, 0, 0), (7, .iload_n 2, 8, 0, 0, 0), (8, .invokevirtual 191, 11, 144, 2, 0), (11, .istore 4, 13, 0, 0, 0), (13, .iload_n 3, 14, 0, 0, 0), (14, .iload 4, 16, 0, 0, 0), (16, .if_icmp .gt 24, 19, 40, 0, 0), (19, .iload_n 3, 20, 0, 0, 0), (20, .iload 4, 22, 0, 0, 0), (22, .if_icmp .ne 22, 25, 44, 0, 0), (25, .iload_n 3, 26, 0, 0, 0), (26, .ifCond .le 18, 29, 44, 0, 0), (29, .iload_n 1, 30, 0, 0, 0), (30, .iload_n 1, 31, 0, 0, 0), (31, .ineg, 32, 0, 0, 0), (32, .iand, 33, 0, 0, 0), (33, .iload_n 2, 34, 0, 0, 0), (34, .iload_n 2, 35, 0, 0, 0), (35, .ineg, 36, 0, 0, 0), (36, .iand, 37, 0, 0, 0), (37, .if_icmp .ge 7, 40, 44, 0, 0), (40, .iconst 1, 41, 0, 0, 1), (41, .goto 4, 44, 45, 0, 0), (44, .iconst 0, 45, 0, 0, 0), (45, .ireturn, 46, 1, 0, 0)]
def tb_146 : List EN := [(0, .aload_n 0, 1, 0, 0, 0), (1, .aload_n 0, 2, 0, 0, 0), (2, .getfield 38, 5, 8, 16, 0), (5, .iconst 5, 6, 0, 0, 5), (6, .iload_n 1, 7, 0, 0, 0), (7, .imul, 8, 0, 0, 0), (8, .iaload, 9, 0, 0, 0), (9, .invokevirtual 191, 12, 144, 2, 0), (12, .aload_n 0, 13, 0, 0, 0), (13, .aload_n 0, 14, 0, 0, 0), (14, .getfield 38, 17, 8, 16, 0), (17, .iconst 5, 18, 0, 0, 5), (18, .iload_n 1, 19, 0, 0, 0), (19, .imul, 20, 0, 0, 0), (20, .aload_n 0, 21, 0, 0, 0), (21, .getfield 7, 24, 8, 0, 0), (24, .iconst 1, 25, 0, 0, 1), (25, .iaload, 26, 0, 0, 0), (26, .iadd, 27, 0, 0, 0), (27, .iconst 1, 28, 0, 0, 1), (28, .isub, 29, 0, 0, 0), (29, .iaload, 30, 0, 0, 0), (30, .invokevirtual 191, 33, 144, 2, 0), (33, .isub, 34, 0, 0, 0), (34, .ireturn, 35, 0, 0, 0)]
def tb_147 : List EN := [(0, .bipush (-4), 2, 0, 0, (-4)), (2, .istore_n 2, 3, 0, 0, 0), (3, .iconst 0, 4, 0, 0, 0), (4, .istore_n 3, 5, 0, 0, 0), (5, .iload_n 3, 6, 0, 0, 0), (6, .aload_n 0, 7, 0, 0, 0), (7, .getfield 7, 10, 8, 0, 0), (10, .iconst 0, 11, 0, 0, 0), (11, .iaload, 12, 0, 0, 0), (12, .if_icmp .ge 44, 15, 56, 0, 0), (15, .aload_n 0, 16, 0, 0, 0), (16, .getfield 41, 19, 8, 17, 0), (19, .iload_n 3, 20, 0, 0, 0), (20, .baload, 21, 0, 0, 0), (21, .ifCond .eq 29, 24, 50, 0, 0), (24, .iload_n 3, 25, 0, 0, 0), (25, .iload_n 1, 26, 0, 0, 0), (26, .if_icmp .eq 24, 29, 50, 0, 0), (29, .iload_n 2, 30, 0, 0, 0), (30, .bipush (-4), 32, 0, 0, (-4)), (32, .if_icmp .eq 16, 35, 48, 0, 0), (35, .aload_n 0, 36, 0, 0, 0), (36, .iload_n 3, 37, 0, 0, 0), (37, .invokevirtual 194, 40, 146, 2, 0), (40, .aload_n 0, 41, 0, 0, 0), (41, .iload_n 2, 42, 0, 0, 0), (42, .invokevirtual 194, 45, 146, 2, 0), (45, .if_icmp .le 5, 48, 50, 0, 0), (48, .iload_n 3, 49, 0, 0, 0), (49, .istore_n 2, 50, 0, 0, 0), (50, .iinc 3 1, 53, 0, 0, 0), (53, .goto (-48), 56, 5, 0, 0), (56, .iload_n 2, 57, 0, 0, 0), (57, .ireturn, 58, 0, 0, 0)]
def tb_148 : List EN := [(0, .iconst 5, 1, 0, 0, 5), (1, .iload_n 1, 2, 0, 0, 0), (2, .imul, 3, 0, 0, 0), (3, .istore_n 2, 4, 0, 0, 0), (4, .iconst 0, 5, 0, 0, 0), (5, .istore_n 3, 6, 0, 0, 0), (6, .iload_n 3, 7, 0, 0, 0), (7, .aload_n 0, 8, 0, 0, 0), (8, .getfield 7, 11, 8, 0, 0), (11, .iconst 1, 12, 0, 0, 1), (12, .iaload, 13, 0, 0, 0), (13, .if_icmp .ge 93, 16, 106, 0, 0), (16, .iload_n 3, 17, 0, 0, 0), (17, .iconst 1, 18, 0, 0, 1), (18, .iadd, 19, 0, 0, 0), (19, .istore 4, 21, 0, 0, 0), (21, .iload 4, 23, 0, 0, 0), (23, .aload_n 0, 24, 0, 0, 0), (24, .getfield 7, 27, 8, 0, 0), (27, .iconst 1, 28, 0, 0, 1), (28, .iaload, 29, 0, 0, 0), (29, .if_icmp .ge 71, 32, 100, 0, 0), (32, .aload_n 0, 33, 0, 0, 0), (33, .aload_n 0, 34, 0, 0, 0), (34, .getfield 38, 37, 8, 16, 0), (37, .iload_n 2, 38, 0, 0, 0), (38, .iload 4, 40, 0, 0, 0), (40, .iadd, 41, 0, 0, 0), (41, .iaload, 42, 0, 0, 0), (42, .aload_n 0, 43, 0, 0, 0), (43, .getfield 38, 46, 8, 16, 0), (46, .iload_n 2, 47, 0, 0, 0), (47, .iload_n 3, 48, 0, 0, 0), (48, .iadd, 49, 0, 0, 0), (49, .iaload, 50, 0, 0, 0), (50, .invokevirtual 197, 53, 145, 3, 0), (53, .ifCond .eq 41, 56, 94, 0, 0), (56, .aload_n 0, 57, 0, 0, 0), (57, .getfield 38, 60, 8, 16, 0), (60, .iload_n 2, 61, 0, 0, 0), (61, .iload_n 3, 62, 0, 0, 0), (62, .iadd, 63, 0, 0, 0), (63, .iaload, 64, 0, 0, 0), (64, .istore 5, 66, 0, 0, 0), (66, .aload_n 0, 67, 0, 0, 0), (67, .getfield 38, 70, 8, 16, 0), (70, .iload_n 2, 71, 0, 0, 0), (71, .iload_n 3, 72, 0, 0, 0), (72, .iadd, 73, 0, 0, 0), (73, .aload_n 0, 74, 0, 0, 0), (74, .getfield 38, 77, 8, 16, 0), (77, .iload_n 2, 78, 0, 0, 0), (78, .iload 4, 80, 0, 0, 0), (80, .iadd, 81, 0, 0, 0), (81, .iaload, 82, 0, 0, 0), (82, .iastore, 83, 0, 0, 0), (83, .aload_n 0, 84, 0, 0, 0), (84, .getfield 38, 87, 8, 16, 0), (87, .iload_n 2, 88, 0, 0, 0), (88, .iload 4, 90, 0, 0, 0), (90, .iadd, 91, 0, 0, 0), (91, .iload 5, 93, 0, 0, 0), (93, .iastore, 94, 0, 0, 0), (94, .iinc 4 1, 97, 0, 0, 0), (97, .goto (-76), 100, 21, 0, 0), (100, .iinc 3 1, 103, 0, 0, 0), (103, .goto (-97), 106, 6, 0, 0), (106, .return_, 107, 0, 0, 0)]
def tb_149 : List EN := [(0, .iload_n 1, 1, 0, 0, 0), (1, .iload_n 2, 2, 0, 0, 0), (2, .if_icmp .ge 7, 5, 9, 0, 0), (5, .iload_n 1, 6, 0, 0, 0), (6, .goto 4, 9, 10, 0, 0), (9, .iload_n 2, 10, 0, 0, 0), (10, .istore_n 3, 11, 0, 0, 0), (11, .iload_n 1, 12, 0, 0, 0), (12, .iload_n 2, 13, 0, 0, 0), (13, .if_icmp .ge 7, 16, 20, 0, 0), (16, .iload_n 2, 17, 0, 0, 0), (17, .goto 4, 20, 21, 0, 0), (20, .iload_n 1, 21, 0, 0, 0), (21, .istore 4, 23, 0, 0, 0), (23, .iconst 0, 24, 0, 0, 0), (24, .istore 5, 26, 0, 0, 0), (26, .iload 5, 28, 0, 0, 0), (28, .aload_n 0, 29, 0, 0, 0), (29, .getfield 7, 32, 8, 0, 0), (32, .iconst 1, 33, 0, 0, 1), (33, .iaload, 34, 0, 0, 0), (34, .if_icmp .ge 44, 37, 78, 0, 0), (37, .aload_n 0, 38, 0, 0, 0), (38, .getfield 38, 41, 8, 16, 0), (41, .iconst 5, 42, 0, 0, 5), (42, .iload_n 3, 43, 0, 0, 0), (43, .imul, 44, 0, 0, 0), (44, .iload 5, 46, 0, 0, 0), (46, .iadd, 47, 0, 0, 0), (47, .dup2, 48, 0, 0, 0), (48, .iaload, 49, 0, 0, 0), (49, .aload_n 0, 50, 0, 0, 0), (50, .getfield 38, 53, 8, 16, 0), (53, .iconst 5, 54, 0, 0, 5), (54, .iload 4, 56, 0, 0, 0), (56, .imul, 57, 0, 0, 0), (57, .aload_n 0, 58, 0, 0, 0), (58, .getfield 7, 61, 8, 0, 0), (61, .iconst 1, 62, 0, 0, 1), (62, .iaload, 63, 0, 0, 0), (63, .iadd, 64, 0, 0, 0), (64, .iconst 1, 65, 0, 0, 1), (65, .isub, 66, 0, 0, 0), (66, .iload 5, 68, 0, 0, 0), (68, .isub, 69, 0, 0, 0), (69, .iaload, 70, 0, 0, 0), (70, .ior, 71, 0, 0, 0), (71, .iastore, 72, 0, 0, 0), (72, .iinc 5 1, 75, 0, 0, 0), (75, .goto (-49), 78, 26, 0, 0), (78, .aload_n 0, 79, 0, 0, 0), (79, .getfield 41, 82, 8, 17, 0), (82, .iload 4, 84, 0, 0, 0), (84, .iconst 0, 85, 0, 0, 0), (85, .bastore, 86, 0, 0, 0), (86, .aload_n 0, 87, 0, 0, 0), (87, .iload_n 3, 88, 0, 0, 0), (88, .invokevirtual 201, 91, 148, 2, 0), (91, .return_, 92, 0, 0, 0)]
def tb_150 : List EN := [(0, .aload_n 0, 1, 0, 0, 0), (1, .iconst 0, 2, 0, 0, 0), (2, .putfield 204, 5, 8, 21, 0), (5, .iconst 0, 6, 0, 0, 0), (6, .istore_n 1, 7, 0, 0, 0), (7, .iload_n 1, 8, 0, 0, 0), (8, .aload_n 0, 9, 0, 0, 0), (9, .getfield 7, 12, 8, 0, 0), (12, .iconst 0, 13, 0, 0, 0), (13, .iaload, 14, 0, 0, 0), (14, .if_icmp .ge 50, 17, 64, 0, 0), (17, .aload_n 0, 18, 0, 0, 0), (18, .getfield 41, 21, 8, 17, 0), (21, .iload_n 1, 22, 0, 0, 0), (22, .iconst 1, 23, 0, 0, 1), (23, .bastore, 24, 0, 0, 0), (24, .iconst 0, 25, 0, 0, 0), (25, .istore_n 2, 26, 0, 0, 0), (26, .iload_n 2, 27, 0, 0, 0), (27, .iconst 5, 28, 0, 0, 5), (28, .if_icmp .ge 30, 31, 58, 0, 0), (31, .aload_n 0, 32, 0, 0, 0), (32, .getfield 38, 35, 8, 16, 0), (35, .iconst 5, 36, 0, 0, 5), (36, .iload_n 1, 37, 0, 0, 0), (37, .imul, 38, 0, 0, 0), (38, .iload_n 2, 39, 0, 0, 0), (39, .iadd, 40, 0, 0, 0), (40, .iload_n 2, 41, 0, 0, 0), (41, .ifCond .ne 9, 44, 50, 0, 0), (44, .iconst 1, 45, 0, 0, 1), (45, .iload_n 1, 46, 0, 0, 0), (46, .ishl, 47, 0, 0, 0), (47, .goto 4, 50, 51, 0, 0), (50, .iconst 0, 51, 0, 0, 0), (51, .iastore, 52, 0, 0, 0), (52, .iinc 2 1, 55, 0, 0, 0), (55, .goto (-29), 58, 26, 0, 0), (58, .iinc 1 1, 61, 0, 0, 0), (61, .goto (-54), 64, 7, 0, 0), (64, .iconst 1, 65, 0, 0, 1), (65, .istore_n 1, 66, 0, 0, 0), (66, .iload_n 1, 67, 0, 0, 0), (67, .aload_n 0, 68, 0, 0, 0), (68, .getfield 7, 71, 8, 0, 0), (71, .iconst 0, 72, 0, 0, 0), (72, .iaload, 73, 0, 0, 0), (73, .if_icmp .ge 58, 76, 131, 0, 0), (76, .aload_n 0, 77, 0, 0, 0), (77, .bipush (-4), 79, 0, 0, (-4)), (79, .invokevirtual 207, 82, 147, 2, 0), (82, .istore_n 2, 83, 0, 0, 0), (83, .aload_n 0, 84, 0, 0, 0), (84, .iload_n 2, 85, 0, 0, 0), (85, .invokevirtual 207, 88, 147, 2, 0), (88, .istore_n 3, 89, 0, 0, 0), (89, .aload_n 0, 90, 0, 0, 0), (90, .getfield 44, 93, 8, 18, 0), (93, .aload_n 0, 94, 0, 0, 0), (94, .getfield 204, 97, 8, 21, 0), (97, .iload_n 2, 98, 0, 0, 0), (98, .iastore, 99, 0, 0, 0), (99, .aload_n 0, 100, 0, 0, 0), (100, .getfield 47, 103, 8, 19, 0), (103, .aload_n 0, 104, 0, 0, 0), (104, .getfield 204, 107, 8, 21, 0), (107, .iload_n 3, 108, 0, 0, 0), (108, .iastore, 109, 0, 0, 0), (109, .aload_n 0, 110, 0, 0, 0), (110, .dup, 111, 0, 0, 0), (111, .getfield 204, 114, 8, 21, 0), (114, .iconst 1, 115, 0, 0, 1), (115, .iadd, 116, 0, 0, 0), (116, .putfield 204, 119, 8, 21, 0), (119, .aload_n 0, 120, 0, 0, 0), (120, .iload_n 2, 121, 0, 0, 0), (121, .iload_n 3, 122, 0, 0, 0), (122, .invokevirtual 210, 125, 149, 3, 0), (125, .iinc 1 1, 128, 0, 0, 0), (128, .goto (-62), 131, 66, 0, 0), (131, .iconst 0, 132, 0, 0, 0), (132, .istore_n 1, 133, 0, 0, 0), (133, .iload_n 1, 134, 0, 0, 0), (134, .aload_n 0, 135, 0, 0, 0), (135, .getfield 7, 138, 8, 0, 0), (138, .iconst 0, 139, 0, 0, 0), (139, .iaload, 140, 0, 0, 0), (140, .if_icmp .ge 57, 143, 197, 0, 0), (143, .iconst 0, 144, 0, 0, 0), (144, .istore_n 2, 145, 0, 0, 0), (145, .iload_n 2, 146, 0, 0, 0), (146, .aload_n 0, 147, 0, 0, 0), (147, .getfield 7, 150, 8, 0, 0), (150, .iconst 1, 151, 0, 0, 1), (151, .iaload, 152, 0, 0, 0), (152, .if_icmp .ge 39, 155, 191, 0, 0), (155, .aload_n 0, 156, 0, 0, 0), (156, .getfield 35, 159, 8, 15, 0), (159, .iload_n 1, 160, 0, 0, 0), (160, .aload_n 0, 161, 0, 0, 0), (161, .getfield 38, 164, 8, 16, 0), (164, .iload_n 2, 165, 0, 0, 0), (165, .iaload, 166, 0, 0, 0), (166, .iload_n 1, 167, 0, 0, 0), (167, .ishr, 168, 0, 0, 0), (168, .iconst 1, 169, 0, 0, 1), (169, .iand, 170, 0, 0, 0), (170, .iconst 1, 171, 0, 0, 1), (171, .if_icmp .ne 7, 174, 178, 0, 0), (174, .iload_n 2, 175, 0, 0, 0), (175, .goto 9, 178, 184, 0, 0), (178, .aload_n 0, 179, 0, 0, 0), (179, .getfield 35, 182, 8, 15, 0), (182, .iload_n 1, 183, 0, 0, 0), (183, .iaload, 184, 0, 0, 0), (184, .iastore, 185, 0, 0, 0), (185, .iinc 2 1, 188, 0, 0, 0), (188, .goto (-43), 191, 145, 0, 0), (191, .iinc 1 1, 194, 0, 0, 0), (194, .goto (-61), 197, 133, 0, 0), (197, .return_, 198, 0, 0, 0)]
def tb_151 : List EN := [(0, .aload_n 0, 1, 0, 0, 0), (1, .getfield 7, 4, 8, 0, 0), (4, .iconst 0, 5, 0, 0, 0), (5, .iaload, 6, 0, 0, 0), (6, .iconst 1, 7, 0, 0, 1), (7, .isub, 8, 0, 0, 0), (8, .istore_n 1, 9, 0, 0, 0), (9, .iload_n 1, 10, 0, 0, 0), (10, .ifCond .le 111, 13, 121, 0, 0), (13, .iconst 0, 14, 0, 0, 0), (14, .istore_n 2, 15, 0, 0, 0), (15, .iconst 0, 16, 0, 0, 0), (16, .istore_n 3, 17, 0, 0, 0), (17, .iload_n 3, 18, 0, 0, 0), (18, .iload_n 1, 19, 0, 0, 0), (19, .if_icmp .ge 30, 22, 49, 0, 0), (22, .aload_n 0, 23, 0, 0, 0), (23, .getfield 35, 26, 8, 15, 0), (26, .iload_n 3, 27, 0, 0, 0), (27, .iaload, 28, 0, 0, 0), (28, .iload_n 2, 29, 0, 0, 0), (29, .if_icmp .le 12, 32, 41, 0, 0), (32, .aload_n 0, 33, 0, 0, 0), (33, .getfield 35, 36, 8, 15, 0), (36, .iload_n 3, 37, 0, 0, 0), (37, .iaload, 38, 0, 0, 0), (38, .goto 4, 41, 42, 0, 0), (41, .iload_n 2, 42, 0, 0, 0), (42, .istore_n 2, 43, 0, 0, 0), (43, .iinc 3 1, 46, 0, 0, 0), (46, .goto (-29), 49, 17, 0, 0), (49, .aload_n 0, 50, 0, 0, 0), (50, .getfield 35, 53, 8, 15, 0), (53, .iload_n 1, 54, 0, 0, 0), (54, .iaload, 55, 0, 0, 0), (55, .iload_n 2, 56, 0, 0, 0), (56, .if_icmp .gt 59, 59, 115, 0, 0), (59, .aload_n 0, 60, 0, 0, 0), (60, .getfield 35, 63, 8, 15, 0), (63, .iload_n 1, 64, 0, 0, 0), (64, .iaload, 65, 0, 0, 0), (65, .aload_n 0, 66, 0, 0, 0), (66, .getfield 7, 69, 8, 0, 0), (69, .iconst 1, 70, 0, 0, 1), (70, .iaload, 71, 0, 0, 0), (71, .iconst 1, 72, 0, 0, 1), (72, .isub, 73, 0, 0, 0), (73, .if_icmp .ge 42, 76, 115, 0, 0), (76, .aload_n 0, 77, 0, 0, 0), (77, .getfield 35, 80, 8, 15, 0), (80, .iload_n 1, 81, 0, 0, 0), (81, .dup2, 82, 0, 0, 0), (82, .iaload, 83, 0, 0, 0), (83, .iconst 1, 84, 0, 0, 1), (84, .iadd, 85, 0, 0, 0), (85, .iastore, 86, 0, 0, 0), (86, .iload_n 1, 87, 0, 0, 0), (87, .iconst 1, 88, 0, 0, 1), (88, .iadd, 89, 0, 0, 0), (89, .istore_n 3, 90, 0, 0, 0), (90, .iload_n 3, 91, 0, 0, 0), (91, .aload_n 0, 92, 0, 0, 0), (92, .getfield 7, 95, 8, 0, 0), (95, .iconst 0, 96, 0, 0, 0), (96, .iaload, 97, 0, 0, 0), (97, .if_icmp .ge 16, 100, 113, 0, 0), (100, .aload_n 0, 101, 0, 0, 0), (101, .getfield 35, 104, 8, 15, 0), (104, .iload_n 3, 105, 0, 0, 0), (105, .iconst 0, 106, 0, 0, 0), (106, .iastore, 107, 0, 0, 0), (107, .iinc 3 1, 110, 0, 0, 0), (110, .goto (-20), 113, 90, 0, 0), (113, .iconst 1, 114, 0, 0, 1), (114, .ireturn, 115, 1, 0, 0), (115, .iinc 1 (-1), 118, 0, 0, 0), (118, .goto (-109), 121, 9, 0, 0), (121, .iconst 0, 122, 0, 0, 0), (122, .ireturn, 123, 1, 0, 0)]
def tb_152 : List EN := [(0, .iconst (-1), 1, 0, 0, (-1)), (1, .istore_n 1, 2, 0, 0, 0), (2, .iconst 0, 3, 0, 0, 0), (3, .istore_n 2, 4, 0, 0, 0), (4, .iconst 0, 5, 0, 0, 0), (5, .istore_n 3, 6, 0, 0, 0), (6, .iload_n 3, 7, 0, 0, 0), (7, .bipush 16, 9, 0, 0, 16), (9, .if_icmp .ge 16, 12, 25, 0, 0), (12, .aload_n 0, 13, 0, 0, 0), (13, .getfield 35, 16, 8, 15, 0), (16, .iload_n 3, 17, 0, 0, 0), (17, .iconst 0, 18, 0, 0, 0), (18, .iastore, 19, 0, 0, 0), (19, .iinc 3 1, 22, 0, 0, 0), (22, .goto (-16), 25, 6, 0, 0), (25, .iconst 1, 26, 0, 0, 1), (26, .istore_n 3, 27, 0, 0, 0), (27, .iload_n 3, 28, 0, 0, 0), (28, .ifCond .eq 83, 31, 111, 0, 0), (31, .aload_n 0, 32, 0, 0, 0), (32, .invokevirtual 214, 35, 126, 1, 0), (35, .aload_n 0, 36, 0, 0, 0), (36, .invokevirtual 149, 39, 128, 1, 0), (39, .iload_n 1, 40, 0, 0, 0), (40, .if_icmp .gt 19, 43, 59, 0, 0), (43, .aload_n 0, 44, 0, 0, 0), (44, .invokevirtual 149, 47, 128, 1, 0), (47, .iload_n 1, 48, 0, 0, 0), (48, .if_icmp .ne 55, 51, 103, 0, 0), (51, .aload_n 0, 52, 0, 0, 0), (52, .invokevirtual 146, 55, 129, 1, 0), (55, .iload_n 2, 56, 0, 0, 0), (56, .if_icmp .ge 47, 59, 103, 0, 0), (59, .aload_n 0, 60, 0, 0, 0), (60, .invokevirtual 149, 63, 128, 1, 0), (63, .istore_n 1, 64, 0, 0, 0), (64, .aload_n 0, 65, 0, 0, 0), (65, .invokevirtual 146, 68, 129, 1, 0), (68, .istore_n 2, 69, 0, 0, 0), (69, .iconst 0, 70, 0, 0, 0), (70, .istore 4, 72, 0, 0, 0), (72, .iload 4, 74, 0, 0, 0), (74, .aload_n 0, 75, 0, 0, 0), (75, .getfield 7, 78, 8, 0, 0), (78, .iconst 0, 79, 0, 0, 0), (79, .iaload, 80, 0, 0, 0), (80, .if_icmp .ge 23, 83, 103, 0, 0), (83, .aload_n 0, 84, 0, 0, 0), (84, .getfield 50, 87, 8, 20, 0), (87, .iload 4, 89, 0, 0, 0), (89, .aload_n 0, 90, 0, 0, 0), (90, .getfield 35, 93, 8, 15, 0), (93, .iload 4, 95, 0, 0, 0), (95, .iaload, 96, 0, 0, 0), (96, .iastore, 97, 0, 0, 0), (97, .iinc 4 1, 100, 0, 0, 0), (100, .goto (-28), 103, 72, 0, 0), (103, .aload_n 0, 104, 0, 0, 0), (104, .invokevirtual 217, 107, 151, 1, 0), (107, .istore_n 3, 108, 0, 0, 0), (108, .goto (-81), 111, 27, 0, 0), (111, .iconst 0, 112, 0, 0, 0), (112, .istore 4, 114, 0, 0, 0), (114, .iload 4, 116, 0, 0, 0), (116, .aload_n 0, 117, 0, 0, 0), (117, .getfield 7, 120, 8, 0, 0), (120, .iconst 0, 121, 0, 0, 0), (121, .iaload, 122, 0, 0, 0), (122, .if_icmp .ge 23, 125, 145, 0, 0), (125, .aload_n 0, 126, 0, 0, 0), (126, .getfield 35, 129, 8, 15, 0), (129, .iload 4, 131, 0, 0, 0), (131, .aload_n 0, 132, 0, 0, 0), (132, .getfield 50, 135, 8, 20, 0), (135, .iload 4, 137, 0, 0, 0), (137, .iaload, 138, 0, 0, 0), (138, .iastore, 139, 0, 0, 0), (139, .iinc 4 1, 142, 0, 0, 0), (142, .goto (-28), 145, 114, 0, 0), (145, .return_, 146, 0, 0, 0)]
def tb_153 : List EN := [(0, .iload_n 1, 1, 0, 0, 0), (1, .tableswitch 48 0 2 #[27, 34, 41], 28, 0, 0, 0), (28, .aload_n 0, 29, 0, 0, 0), (29, .invokevirtual 221, 32, 142, 1, 0), (32, .goto 21, 35, 53, 0, 0), (35, .aload_n 0, 36, 0, 0, 0), (36, .invokevirtual 224, 39, 143, 1, 0), (39, .goto 14, 42, 53, 0, 0), (42, .aload_n 0, 43, 0, 0, 0), (43, .invokevirtual 227, 46, 150, 1, 0), (46, .goto 7, 49, 53, 0, 0), (49, .aload_n 0, 50, 0, 0, 0), (50, .invokevirtual 230, 53, 152, 1, 0), (53, .return_, 54, 0, 0, 0)]
def tb_154 : List EN := [(0, .iconst 0, 1, 0, 0, 0), (1, .istore_n 1, 2, 0, 0, 0), (2, .iload_n 1, 3, 0, 0, 0), (3, .aload_n 0, 4, 0, 0, 0), (4, .getfield 7, 7, 8, 0, 0), (7, .iconst 0, 8, 0, 0, 0), (8, .iaload, 9, 0, 0, 0), (9, .if_icmp .ge 24, 12, 33, 0, 0), (12, .aload_n 0, 13, 0, 0, 0), (13, .getfield 7, 16, 8, 0, 0), (16, .bipush 37, 18, 0, 0, 37), (18, .iload_n 1, 19, 0, 0, 0), (19, .iadd, 20, 0, 0, 0), (20, .aload_n 0, 21, 0, 0, 0), (21, .getfield 35, 24, 8, 15, 0), (24, .iload_n 1, 25, 0, 0, 0), (25, .iaload, 26, 0, 0, 0), (26, .iastore, 27, 0, 0, 0), (27, .iinc 1 1, 30, 0, 0, 0), (30, .goto (-28), 33, 2, 0, 0), (33, .return_, 34, 0, 0, 0)]
def tb_155 : List EN := [(0, .aload_n 0, 1, 0, 0, 0), (1, .invokevirtual 221, 4, 142, 1, 0), (4, .aload_n 0, 5, 0, 0, 0), (5, .invokevirtual 233, 8, 154, 1, 0), (8, .return_, 9, 0, 0, 0)]
def tb_156 : List EN := [(0, .iload_n 1, 1, 0, 0, 0), (1, .i2l, 2, 0, 0, 0), (2, .lconst 0, 3, 0, 0, 0), (3, .ldc2_w 236, 6, 0, 0, 3), (6, .invokestatic 67, 9, 106, 3, 0), (9, .ireturn, 10, 1, 0, 0)]
def tb_157 : List EN := [(0, .iload_n 1, 1, 0, 0, 0), (1, .iconst 3, 2, 0, 0, 3), (2, .if_icmp .ne 18, 5, 20, 0, 0), (5, .aload_n 0, 6, 0, 0, 0), (6, .getfield 7, 9, 8, 0, 0), (9, .iconst 0, 10, 0, 0, 0), (10, .iaload, 11, 0, 0, 0), (11, .bipush 9, 13, 0, 0, 9), (13, .if_icmp .le 7, 16, 20, 0, 0), (16, .iconst 1, 17, 0, 0, 1), (17, .goto 4, 20, 21, 0, 0), (20, .iconst 0, 21, 0, 0, 0), (21, .ireturn, 22, 1, 0, 0)]
def tb_158 : List EN := [(0, .aload_n 0, 1, 0, 0, 0), (1, .iload_n 1, 2, 0, 0, 0), (2, .invokevirtual 238, 5, 156, 2, 0), (5, .ifCond .ne 5, 8, 10, 0, 0), (8, .iconst (-1), 9, 0, 0, (-1)), (9, .ireturn, 10, 0, 0, 0), (10, .aload_n 0, 11, 0, 0, 0), (11, .iload_n 1, 12, 0, 0, 0), (12, .invokevirtual 241, 15, 157, 2, 0), (15, .ifCond .eq 6, 18, 21, 0, 0), (18, .bipush (-2), 20, 0, 0, (-2)), (20, .ireturn, 21, 0, 0, 0), (21, .aload_n 0, 22, 0, 0, 0), (22, .iload_n 1, 23, 0, 0, 0), (23, .invokevirtual 244, 26, 153, 2, 0), (26, .aload_n 0, 27, 0, 0, 0), (27, .invokevirtual 233, 30, 154, 1, 0), (30, .aload_n 0, 31, 0, 0, 0), (31, .invokevirtual 158, 34, 130, 1, 0), (34, .ireturn, 35, 0, 0, 0)]
def tb_159 : List EN := [(0, .iconst 0, 1, 0, 0, 0), (1, .istore_n 1, 2, 0, 0, 0), (2, .iconst 0, 3, 0, 0, 0), (3, .istore_n 2, 4, 0, 0, 0), (4, .iload_n 2, 5, 0, 0, 0), (5, .aload_n 0, 6, 0, 0, 0), (6, .getfield 7, 9, 8, 0, 0), (9, .iconst 0, 10, 0, 0, 0), (10, .iaload, 11, 0, 0, 0), (11, .if_icmp .ge 38, 14, 49, 0, 0), (14, .iload_n 1, 15, 0, 0, 0), (15, .aload_n 0, 16, 0, 0, 0), (16, .getfield 35, 19, 8, 15, 0), (19, .iload_n 2, 20, 0, 0, 0), (20, .iaload, 21, 0, 0, 0), (21, .aload_n 0, 22, 0, 0, 0), (22, .getfield 7, 25, 8, 0, 0), (25, .bipush 37, 27, 0, 0, 37), (27, .iload_n 2, 28, 0, 0, 0), (28, .iadd, 29, 0, 0, 0), (29, .iaload, 30, 0, 0, 0), (30, .if_icmp .eq 7, 33, 37, 0, 0), (33, .iconst 1, 34, 0, 0, 1), (34, .goto 4, 37, 38, 0, 0), (37, .iconst 0, 38, 0, 0, 0), (38, .invokestatic 164, 41, 107, 1, 0), (41, .iadd, 42, 0, 0, 0), (42, .istore_n 1, 43, 0, 0, 0), (43, .iinc 2 1, 46, 0, 0, 0), (46, .goto (-42), 49, 4, 0, 0), (49, .iload_n 1, 50, 0, 0, 0), (50, .ireturn, 51, 0, 0, 0)]
def tb_160 : List EN := [(0, .aload_n 0, 1, 0, 0, 0), (1, .iload_n 1, 2, 0, 0, 0), (2, .invokevirtual 238, 5, 156, 2, 0), (5, .ifCond .eq 15, 8, 20, 0, 0), (8, .iload_n 2, 9, 0, 0, 0), (9, .i2l, 10, 0, 0, 0), (10, .lconst 0, 11, 0, 0, 0), (11, .ldc2_w 247, 14, 0, 0, 2), (14, .invokestatic 67, 17, 106, 3, 0), (17, .ifCond .ne 5, 20, 22, 0, 0), (20, .iconst (-1), 21, 0, 0, (-1)), (21, .ireturn, 22, 0, 0, 0), (22, .aload_n 0, 23, 0, 0, 0), (23, .iload_n 1, 24, 0, 0, 0), (24, .invokevirtual 241, 27, 157, 2, 0), (27, .ifCond .eq 6, 30, 33, 0, 0), (30, .bipush (-2), 32, 0, 0, (-2)), (32, .ireturn, 33, 0, 0, 0), (33, .aload_n 0, 34, 0, 0, 0), (34, .iload_n 1, 35, 0, 0, 0), (35, .invokevirtual 244, 38, 153, 2, 0), (38, .aload_n 0, 39, 0, 0, 0), (39, .invokevirtual 214, 42, 126, 1, 0), (42, .iload_n 2, 43, 0, 0, 0), (43, .ifCond .ne 10, 46, 53, 0, 0), (46, .aload_n 0, 47, 0, 0, 0), (47, .invokevirtual 149, 50, 128, 1, 0), (50, .goto 24, 53, 74, 0, 0), (53, .iload_n 2, 54, 0, 0, 0), (54, .iconst 1, 55, 0, 0, 1), (55, .if_icmp .ne 15, 58, 70, 0, 0), (58, .aload_n 0, 59, 0, 0, 0), (59, .invokevirtual 146, 62, 129, 1, 0), (62, .aload_n 0, 63, 0, 0, 0), (63, .invokevirtual 149, 66, 128, 1, 0), (66, .isub, 67, 0, 0, 0), (67, .goto 7, 70, 74, 0, 0), (70, .aload_n 0, 71, 0, 0, 0), (71, .invokevirtual 249, 74, 159, 1, 0), (74, .ireturn, 75, 0, 0, 0)]
def tb_161 : List EN := [(0, .aload_n 0, 1, 0, 0, 0), (1, .iload_n 1, 2, 0, 0, 0), (2, .invokevirtual 238, 5, 156, 2, 0), (5, .ifCond .eq 11, 8, 16, 0, 0), (8, .aload_n 0, 9, 0, 0, 0), (9, .iload_n 2, 10, 0, 0, 0), (10, .invokevirtual 168, 13, 123, 2, 0), (13, .ifCond .ne 5, 16, 18, 0, 0), (16, .iconst (-1), 17, 0, 0, (-1)), (17, .ireturn, 18, 0, 0, 0), (18, .aload_n 0, 19, 0, 0, 0), (19, .iload_n 1, 20, 0, 0, 0), (20, .invokevirtual 241, 23, 157, 2, 0), (23, .ifCond .eq 6, 26, 29, 0, 0), (26, .bipush (-2), 28, 0, 0, (-2)), (28, .ireturn, 29, 0, 0, 0), (29, .aload_n 0, 30, 0, 0, 0), (30, .iload_n 1, 31, 0, 0, 0), (31, .invokevirtual 244, 34, 153, 2, 0), (34, .aload_n 0, 35, 0, 0, 0), (35, .getfield 35, 38, 8, 15, 0), (38, .iload_n 2, 39, 0, 0, 0), (39, .iaload, 40, 0, 0, 0), (40, .ireturn, 41, 0, 0, 0)]
def tb_162 : List EN := [(0, .aload_n 0, 1, 0, 0, 0), (1, .iconst 5, 2, 0, 0, 5), (2, .invokevirtual 161, 5, 131, 2, 0), (5, .aload_n 0, 6, 0, 0, 0), (6, .getfield 7, 9, 8, 0, 0), (9, .iconst 1, 10, 0, 0, 1), (10, .iaload, 11, 0, 0, 0), (11, .idiv, 12, 0, 0, 0), (12, .ireturn, 13, 0, 0, 0)]
def tb_163 : List EN := [(0, .iconst 0, 1, 0, 0, 0), (1, .istore_n 1, 2, 0, 0, 0), (2, .iconst 0, 3, 0, 0, 0), (3, .istore_n 2, 4, 0, 0, 0), (4, .iload_n 2, 5, 0, 0, 0), (5, .iconst 3, 6, 0, 0, 3), (6, .if_icmp .ge 40, 9, 46, 0, 0), (9, .aload_n 0, 10, 0, 0, 0), (10, .iload_n 2, 11, 0, 0, 0), (11, .invokevirtual 244, 14, 153, 2, 0), (14, .aload_n 0, 15, 0, 0, 0), (15, .invokevirtual 214, 18, 126, 1, 0), (18, .iload_n 1, 19, 0, 0, 0), (19, .aload_n 0, 20, 0, 0, 0), (20, .invokevirtual 149, 23, 128, 1, 0), (23, .aload_n 0, 24, 0, 0, 0), (24, .invokevirtual 252, 27, 162, 1, 0), (27, .if_icmp .ne 7, 30, 34, 0, 0), (30, .iconst 1, 31, 0, 0, 1), (31, .goto 4, 34, 35, 0, 0), (34, .iconst 0, 35, 0, 0, 0), (35, .invokestatic 164, 38, 107, 1, 0), (38, .iadd, 39, 0, 0, 0), (39, .istore_n 1, 40, 0, 0, 0), (40, .iinc 2 1, 43, 0, 0, 0), (43, .goto (-39), 46, 4, 0, 0), (46, .iload_n 1, 47, 0, 0, 0), (47, .ireturn, 48, 0, 0, 0)]
def tb_164 : List EN := [(0, .iload_n 1, 1, 0, 0, 0), (1, .tableswitch 48 0 2 #[27, 32, 43], 28, 0, 0, 0), (28, .aload_n 0, 29, 0, 0, 0), (29, .invokevirtual 252, 32, 162, 1, 0), (32, .ireturn, 33, 0, 0, 0), (33, .aload_n 0, 34, 0, 0, 0), (34, .invokevirtual 252, 37, 162, 1, 0), (37, .aload_n 0, 38, 0, 0, 0), (38, .iconst 5, 39, 0, 0, 5), (39, .invokevirtual 155, 42, 133, 2, 0), (42, .isub, 43, 0, 0, 0), (43, .ireturn, 44, 0, 0, 0), (44, .aload_n 0, 45, 0, 0, 0), (45, .invokevirtual 255, 48, 163, 1, 0), (48, .ireturn, 49, 0, 0, 0), (49, .iconst (-1), 50, 0, 0, (-1)), (50, .ireturn, 51, 0, 0, 0)]
def tb_165 : List EN := [(0, .iload_n 1, 1, 0, 0, 0), (1, .ifCond .ge 5, 4, 6, 0, 0), (4, .iconst (-1), 5, 0, 0, (-1)), (5, .ireturn, 6, 0, 0, 0), (6, .aload_n 0, 7, 0, 0, 0), (7, .invokevirtual 227, 10, 150, 1, 0), (10, .iload_n 1, 11, 0, 0, 0), (11, .aload_n 0, 12, 0, 0, 0), (12, .getfield 204, 15, 8, 21, 0), (15, .if_icmp .ge 22, 18, 37, 0, 0), (18, .bipush 100, 20, 0, 0, 100), (20, .aload_n 0, 21, 0, 0, 0), (21, .getfield 44, 24, 8, 18, 0), (24, .iload_n 1, 25, 0, 0, 0), (25, .iaload, 26, 0, 0, 0), (26, .imul, 27, 0, 0, 0), (27, .aload_n 0, 28, 0, 0, 0), (28, .getfield 47, 31, 8, 19, 0), (31, .iload_n 1, 32, 0, 0, 0), (32, .iaload, 33, 0, 0, 0), (33, .iadd, 34, 0, 0, 0), (34, .goto 5, 37, 39, 0, 0), (37, .bipush (-4), 39, 0, 0, (-4)), (39, .ireturn, 40, 0, 0, 0)]
def tb_166 : List EN := [(0, .aload_n 0, 1, 0, 0, 0), (1, .iload_n 1, 2, 0, 0, 0), (2, .invokevirtual 168, 5, 123, 2, 0), (5, .ifCond .eq 11, 8, 16, 0, 0), (8, .aload_n 0, 9, 0, 0, 0), (9, .iload_n 2, 10, 0, 0, 0), (10, .invokevirtual 175, 13, 124, 2, 0), (13, .ifCond .ne 5, 16, 18, 0, 0), (16, .iconst (-1), 17, 0, 0, (-1)), (17, .ireturn, 18, 0, 0, 0), (18, .aload_n 0, 19, 0, 0, 0), (19, .getfield 7, 22, 8, 0, 0), (22, .bipush 37, 24, 0, 0, 37), (24, .iload_n 1, 25, 0, 0, 0), (25, .iadd, 26, 0, 0, 0), (26, .iaload, 27, 0, 0, 0), (27, .istore_n 3, 28, 0, 0, 0), (28, .aload_n 0, 29, 0, 0, 0), (29, .getfield 7, 32, 8, 0, 0), (32, .bipush 37, 34, 0, 0, 37), (34, .iload_n 1, 35, 0, 0, 0), (35, .iadd, 36, 0, 0, 0), (36, .iload_n 2, 37, 0, 0, 0), (37, .iastore, 38, 0, 0, 0), (38, .iload_n 3, 39, 0, 0, 0), (39, .ireturn, 40, 0, 0, 0)]
def tb_167 : List EN := [(0, .aload_n 0, 1, 0, 0, 0), (1, .getfield 7, 4, 8, 0, 0), (4, .bipush 37, 6, 0, 0, 37), (6, .iload_n 1, 7, 0, 0, 0), (7, .iadd, 8, 0, 0, 0), (8, .iaload, 9, 0, 0, 0), (9, .istore_n 3, 10, 0, 0, 0), (10, .aload_n 0, 11, 0, 0, 0), (11, .getfield 7, 14, 8, 0, 0), (14, .bipush 37, 16, 0, 0, 37), (16, .iload_n 1, 17, 0, 0, 0), (17, .iadd, 18, 0, 0, 0), (18, .aload_n 0, 19, 0, 0, 0), (19, .getfield 7, 22, 8, 0, 0), (22, .bipush 37, 24, 0, 0, 37), (24, .iload_n 2, 25, 0, 0, 0), (25, .iadd, 26, 0, 0, 0), (26, .iaload, 27, 0, 0, 0), (27, .iastore, 28, 0, 0, 0), (28, .aload_n 0, 29, 0, 0, 0), (29, .getfield 7, 32, 8, 0, 0), (32, .bipush 37, 34, 0, 0, 37), (34, .iload_n 2, 35, 0, 0, 0), (35, .iadd, 36, 0, 0, 0), (36, .iload_n 3, 37, 0, 0, 0), (37, .iastore, 38, 0, 0, 0), (38, .return_, 39, 0, 0, 0)]
def tb_168 : List EN := [(0, .aload_n 0, 1, 0, 0, 0), (1, .iload_n 1, 2, 0, 0, 0), (2, .invokevirtual 168, 5, 123, 2, 0), (5, .ifCond .eq 11, 8, 16, 0, 0), (8, .aload_n 0, 9, 0, 0, 0), (9, .iload_n 2, 10, 0, 0, 0), (10, .invokevirtual 168, 13, 123, 2, 0), (13, .ifCond .ne 5, 16, 18, 0, 0), (16, .iconst (-1), 17, 0, 0, (-1)), (17, .ireturn, 18, 0, 0, 0), (18, .aload_n 0, 19, 0, 0, 0), (19, .iload_n 1, 20, 0, 0, 0), (20, .iload_n 2, 21, 0, 0, 0), (21, .invokevirtual 258, 24, 167, 3, 0), (24, .aload_n 0, 25, 0, 0, 0), (25, .invokevirtual 158, 28, 130, 1, 0), (28, .ireturn, 29, 0, 0, 0)]
def tb_169 : List EN := [(0, .aload_n 0, 1, 0, 0, 0), (1, .bipush 21, 3, 0, 0, 21), (3, .invokevirtual 155, 6, 133, 2, 0), (6, .istore_n 1, 7, 0, 0, 0), (7, .bipush (-4), 9, 0, 0, (-4)), (9, .istore_n 2, 10, 0, 0, 0), (10, .iconst 0, 11, 0, 0, 0), (11, .istore_n 3, 12, 0, 0, 0), (12, .iload_n 3, 13, 0, 0, 0), (13, .aload_n 0, 14, 0, 0, 0), (14, .getfield 7, 17, 8, 0, 0), (17, .iconst 0, 18, 0, 0, 0), (18, .iaload, 19, 0, 0, 0), (19, .if_icmp .ge 70, 22, 89, 0, 0), (22, .iload_n 3, 23, 0, 0, 0), (23, .iconst 1, 24, 0, 0, 1), (24, .iadd, 25, 0, 0, 0), (25, .istore 4, 27, 0, 0, 0), (27, .iload 4, 29, 0, 0, 0), (29, .aload_n 0, 30, 0, 0, 0), (30, .getfield 7, 33, 8, 0, 0), (33, .iconst 0, 34, 0, 0, 0), (34, .iaload, 35, 0, 0, 0), (35, .if_icmp .ge 48, 38, 83, 0, 0), (38, .aload_n 0, 39, 0, 0, 0), (39, .iload_n 3, 40, 0, 0, 0), (40, .iload 4, 42, 0, 0, 0), (42, .invokevirtual 258, 45, 167, 3, 0), (45, .aload_n 0, 46, 0, 0, 0), (46, .bipush 21, 48, 0, 0, 21), (48, .invokevirtual 155, 51, 133, 2, 0), (51, .iload_n 1, 52, 0, 0, 0), (52, .if_icmp .le 18, 55, 70, 0, 0), (55, .aload_n 0, 56, 0, 0, 0), (56, .bipush 21, 58, 0, 0, 21), (58, .invokevirtual 155, 61, 133, 2, 0), (61, .istore_n 1, 62, 0, 0, 0), (62, .bipush 100, 64, 0, 0, 100), (64, .iload_n 3, 65, 0, 0, 0), (65, .imul, 66, 0, 0, 0), (66, .iload 4, 68, 0, 0, 0), (68, .iadd, 69, 0, 0, 0), (69, .istore_n 2, 70, 0, 0, 0), (70, .aload_n 0, 71, 0, 0, 0), (71, .iload_n 3, 72, 0, 0, 0), (72, .iload 4, 74, 0, 0, 0), (74, .invokevirtual 258, 77, 167, 3, 0), (77, .iinc 4 1, 80, 0, 0, 0), (80, .goto (-53), 83, 27, 0, 0), (83, .iinc 3 1, 86, 0, 0, 0), (86, .goto (-74), 89, 12, 0, 0), (89, .iload_n 2, 90, 0, 0, 0), (90, .ireturn, 91, 0, 0, 0)]
def tb_170 : List EN := [(0, .aload_n 0, 1, 0, 0, 0), (1, .invokevirtual 152, 4, 132, 1, 0), (4, .istore_n 2, 5, 0, 0, 0), (5, .aload_n 0, 6, 0, 0, 0), (6, .getfield 7, 9, 8, 0, 0), (9, .iconst 0, 10, 0, 0, 0), (10, .iaload, 11, 0, 0, 0), (11, .istore_n 3, 12, 0, 0, 0), (12, .aload_n 0, 13, 0, 0, 0), (13, .getfield 7, 16, 8, 0, 0), (16, .iconst 5, 17, 0, 0, 5), (17, .iload_n 3, 18, 0, 0, 0), (18, .iadd, 19, 0, 0, 0), (19, .iload_n 1, 20, 0, 0, 0), (20, .iastore, 21, 0, 0, 0), (21, .aload_n 0, 22, 0, 0, 0), (22, .getfield 7, 25, 8, 0, 0), (25, .bipush 21, 27, 0, 0, 21), (27, .iload_n 3, 28, 0, 0, 0), (28, .iadd, 29, 0, 0, 0), (29, .iload_n 1, 30, 0, 0, 0), (30, .iastore, 31, 0, 0, 0), (31, .aload_n 0, 32, 0, 0, 0), (32, .getfield 7, 35, 8, 0, 0), (35, .bipush 37, 37, 0, 0, 37), (37, .iload_n 3, 38, 0, 0, 0), (38, .iadd, 39, 0, 0, 0), (39, .iload_n 2, 40, 0, 0, 0), (40, .iastore, 41, 0, 0, 0), (41, .aload_n 0, 42, 0, 0, 0), (42, .getfield 7, 45, 8, 0, 0), (45, .iconst 0, 46, 0, 0, 0), (46, .dup2, 47, 0, 0, 0), (47, .iaload, 48, 0, 0, 0), (48, .iconst 1, 49, 0, 0, 1), (49, .iadd, 50, 0, 0, 0), (50, .iastore, 51, 0, 0, 0), (51, .return_, 52, 0, 0, 0)]
def tb_171 : List EN := [(0, .iload_n 1, 1, 0, 0, 0), (1, .i2l, 2, 0, 0, 0), (2, .lconst 1, 3, 0, 0, 1), (3, .ldc2_w 261, 6, 0, 0, 999), (6, .invokestatic 67, 9, 106, 3, 0), (9, .ifCond .ne 5, 12, 14, 0, 0), (12, .iconst (-1), 13, 0, 0, (-1)), (13, .ireturn, 14, 0, 0, 0), (14, .aload_n 0, 15, 0, 0, 0), (15, .getfield 7, 18, 8, 0, 0), (18, .iconst 0, 19, 0, 0, 0), (19, .iaload, 20, 0, 0, 0), (20, .bipush 16, 22, 0, 0, 16), (22, .if_icmp .ne 6, 25, 28, 0, 0), (25, .bipush (-3), 27, 0, 0, (-3)), (27, .ireturn, 28, 0, 0, 0), (28, .aload_n 0, 29, 0, 0, 0), (29, .iload_n 1, 30, 0, 0, 0), (30, .invokevirtual 263, 33, 170, 2, 0), (33, .aload_n 0, 34, 0, 0, 0), (34, .getfield 7, 37, 8, 0, 0), (37, .iconst 0, 38, 0, 0, 0), (38, .iaload, 39, 0, 0, 0), (39, .ireturn, 40, 0, 0, 0)]
def tb_172 : List EN := [(0, .aload_n 0, 1, 0, 0, 0), (1, .iload_n 1, 2, 0, 0, 0), (2, .invokevirtual 168, 5, 123, 2, 0), (5, .ifCond .ne 5, 8, 10, 0, 0), (8, .iconst (-1), 9, 0, 0, (-1)), (9, .ireturn, 10, 0, 0, 0), (10, .iload_n 1, 11, 0, 0, 0), (11, .istore_n 2, 12, 0, 0, 0), (12, .iload_n 2, 13, 0, 0, 0), (13, .aload_n 0, 14, 0, 0, 0), (14, .getfield 7, 17, 8, 0, 0), (17, .iconst 0, 18, 0, 0, 0), (18, .iaload, 19, 0, 0, 0), (19, .iconst 1, 20, 0, 0, 1), (20, .isub, 21, 0, 0, 0), (21, .if_icmp .ge 67, 24, 88, 0, 0), (24, .aload_n 0, 25, 0, 0, 0), (25, .getfield 7, 28, 8, 0, 0), (28, .iconst 5, 29, 0, 0, 5), (29, .iload_n 2, 30, 0, 0, 0), (30, .iadd, 31, 0, 0, 0), (31, .aload_n 0, 32, 0, 0, 0), (32, .getfield 7, 35, 8, 0, 0), (35, .iconst 5, 36, 0, 0, 5), (36, .iload_n 2, 37, 0, 0, 0), (37, .iadd, 38, 0, 0, 0), (38, .iconst 1, 39, 0, 0, 1), (39, .iadd, 40, 0, 0, 0), (40, .iaload, 41, 0, 0, 0), (41, .iastore, 42, 0, 0, 0), (42, .aload_n 0, 43, 0, 0, 0), (43, .getfield 7, 46, 8, 0, 0), (46, .bipush 21, 48, 0, 0, 21), (48, .iload_n 2, 49, 0, 0, 0), (49, .iadd, 50, 0, 0, 0), (50, .aload_n 0, 51, 0, 0, 0), (51, .getfield 7, 54, 8, 0, 0), (54, .bipush 21, 56, 0, 0, 21), (56, .iload_n 2, 57, 0, 0, 0), (57, .iadd, 58, 0, 0, 0), (58, .iconst 1, 59, 0, 0, 1), (59, .iadd, 60, 0, 0, 0), (60, .iaload, 61, 0, 0, 0), (61, .iastore, 62, 0, 0, 0), (62, .aload_n 0, 63, 0, 0, 0), (63, .getfield 7, 66, 8, 0, 0), (66, .bipush 37, 68, 0, 0, 37), (68, .iload_n 2, 69, 0, 0, 0), (69, .iadd, 70, 0, 0, 0), (70, .aload_n 0, 71, 0, 0, 0), (71, .getfield 7, 74, 8, 0, 0), (74, .bipush 37, 76, 0, 0, 37), (76, .iload_n 2, 77, 0, 0, 0), (77, .iadd, 78, 0, 0, 0), (78, .iconst 1, 79, 0, 0, 1), (79, .iadd, 80, 0, 0, 0), (80, .iaload, 81, 0, 0, 0), (81, .iastore, 82, 0, 0, 0), (82, .iinc 2 1, 85, 0, 0, 0), (85, .goto (-73), 88, 12, 0, 0), (88, .aload_n 0, 89, 0, 0, 0), (89, .getfield 7, 92, 8, 0, 0), (92, .iconst 0, 93, 0, 0, 0), (93, .dup2, 94, 0, 0, 0), (94, .iaload, 95, 0, 0, 0), (95, .iconst 1, 96, 0, 0, 1), (96, .isub, 97, 0, 0, 0), (97, .iastore, 98, 0, 0, 0), (98, .aload_n 0, 99, 0, 0, 0), (99, .getfield 7, 102, 8, 0, 0), (102, .iconst 0, 103, 0, 0, 0), (103, .iaload, 104, 0, 0, 0), (104, .ireturn, 105, 0, 0, 0)]
def tb_173 : List EN := [(0, .aload_n 0, 1, 0, 0, 0), (1, .iload_n 1, 2, 0, 0, 0), (2, .invokevirtual 168, 5, 123, 2, 0), (5, .ifCond .eq 15, 8, 20, 0, 0), (8, .iload_n 2, 9, 0, 0, 0), (9, .i2l, 10, 0, 0, 0), (10, .lconst 1, 11, 0, 0, 1), (11, .ldc2_w 261, 14, 0, 0, 999), (14, .invokestatic 67, 17, 106, 3, 0), (17, .ifCond .ne 5, 20, 22, 0, 0), (20, .iconst (-1), 21, 0, 0, (-1)), (21, .ireturn, 22, 0, 0, 0), (22, .aload_n 0, 23, 0, 0, 0), (23, .getfield 7, 26, 8, 0, 0), (26, .iconst 5, 27, 0, 0, 5), (27, .iload_n 1, 28, 0, 0, 0), (28, .iadd, 29, 0, 0, 0), (29, .iaload, 30, 0, 0, 0), (30, .istore_n 3, 31, 0, 0, 0), (31, .aload_n 0, 32, 0, 0, 0), (32, .getfield 7, 35, 8, 0, 0), (35, .iconst 5, 36, 0, 0, 5), (36, .iload_n 1, 37, 0, 0, 0), (37, .iadd, 38, 0, 0, 0), (38, .iload_n 2, 39, 0, 0, 0), (39, .iastore, 40, 0, 0, 0), (40, .aload_n 0, 41, 0, 0, 0), (41, .getfield 7, 44, 8, 0, 0), (44, .bipush 21, 46, 0, 0, 21), (46, .iload_n 1, 47, 0, 0, 0), (47, .iadd, 48, 0, 0, 0), (48, .iload_n 2, 49, 0, 0, 0), (49, .iastore, 50, 0, 0, 0), (50, .iload_n 3, 51, 0, 0, 0), (51, .ireturn, 52, 0, 0, 0)]
def tb_174 : List EN := [(0, .iload_n 1, 1, 0, 0, 0), (1, .i2l, 2, 0, 0, 0), (2, .lconst 0, 3, 0, 0, 0), (3, .ldc2_w 247, 6, 0, 0, 2), (6, .invokestatic 67, 9, 106, 3, 0), (9, .ifCond .eq 25, 12, 34, 0, 0), (12, .iload_n 2, 13, 0, 0, 0), (13, .i2l, 14, 0, 0, 0), (14, .iconst 2, 15, 0, 0, 2), (15, .iload_n 1, 16, 0, 0, 0), (16, .iadd, 17, 0, 0, 0), (17, .invokestatic 127, 20, 116, 1, 0), (20, .i2l, 21, 0, 0, 0), (21, .iconst 2, 22, 0, 0, 2), (22, .iload_n 1, 23, 0, 0, 0), (23, .iadd, 24, 0, 0, 0), (24, .invokestatic 130, 27, 117, 1, 0), (27, .i2l, 28, 0, 0, 0), (28, .invokestatic 67, 31, 106, 3, 0), (31, .ifCond .ne 5, 34, 36, 0, 0), (34, .iconst (-1), 35, 0, 0, (-1)), (35, .ireturn, 36, 0, 0, 0), (36, .aload_n 0, 37, 0, 0, 0), (37, .getfield 7, 40, 8, 0, 0), (40, .iconst 2, 41, 0, 0, 2), (41, .iload_n 1, 42, 0, 0, 0), (42, .iadd, 43, 0, 0, 0), (43, .iaload, 44, 0, 0, 0), (44, .istore_n 3, 45, 0, 0, 0), (45, .aload_n 0, 46, 0, 0, 0), (46, .getfield 7, 49, 8, 0, 0), (49, .iconst 2, 50, 0, 0, 2), (50, .iload_n 1, 51, 0, 0, 0), (51, .iadd, 52, 0, 0, 0), (52, .iload_n 2, 53, 0, 0, 0), (53, .iastore, 54, 0, 0, 0), (54, .iload_n 3, 55, 0, 0, 0), (55, .ireturn, 56, 0, 0, 0)]
def tb_175 : List EN := [(0, .iload_n 1, 1, 0, 0, 0), (1, .i2l, 2, 0, 0, 0), (2, .ldc2_w 247, 5, 0, 0, 2), (5, .ldc2_w 266, 8, 0, 0, 5), (8, .invokestatic 67, 11, 106, 3, 0), (11, .ifCond .ne 5, 14, 16, 0, 0), (14, .iconst (-1), 15, 0, 0, (-1)), (15, .ireturn, 16, 0, 0, 0), (16, .aload_n 0, 17, 0, 0, 0), (17, .getfield 7, 20, 8, 0, 0), (20, .iconst 1, 21, 0, 0, 1), (21, .iaload, 22, 0, 0, 0), (22, .istore_n 2, 23, 0, 0, 0), (23, .aload_n 0, 24, 0, 0, 0), (24, .getfield 7, 27, 8, 0, 0), (27, .iconst 1, 28, 0, 0, 1), (28, .iload_n 1, 29, 0, 0, 0), (29, .iastore, 30, 0, 0, 0), (30, .aload_n 0, 31, 0, 0, 0), (31, .invokevirtual 136, 34, 155, 1, 0), (34, .iload_n 2, 35, 0, 0, 0), (35, .ireturn, 36, 0, 0, 0)]
def tb_176 : List EN := [(0, .iconst 0, 1, 0, 0, 0), (1, .istore_n 1, 2, 0, 0, 0), (2, .aload_n 0, 3, 0, 0, 0), (3, .bipush 21, 5, 0, 0, 21), (5, .invokevirtual 142, 8, 125, 2, 0), (8, .aload_n 0, 9, 0, 0, 0), (9, .invokevirtual 149, 12, 128, 1, 0), (12, .aload_n 0, 13, 0, 0, 0), (13, .getfield 7, 16, 8, 0, 0), (16, .iconst 4, 17, 0, 0, 4), (17, .iaload, 18, 0, 0, 0), (18, .iadd, 19, 0, 0, 0), (19, .istore_n 2, 20, 0, 0, 0), (20, .iconst 0, 21, 0, 0, 0), (21, .istore_n 3, 22, 0, 0, 0), (22, .iload_n 3, 23, 0, 0, 0), (23, .aload_n 0, 24, 0, 0, 0), (24, .getfield 7, 27, 8, 0, 0), (27, .iconst 1, 28, 0, 0, 1), (28, .iaload, 29, 0, 0, 0), (29, .if_icmp .ge 105, 32, 134, 0, 0), (32, .aload_n 0, 33, 0, 0, 0), (33, .iload_n 3, 34, 0, 0, 0), (34, .invokevirtual 185, 37, 137, 2, 0), (37, .istore 4, 39, 0, 0, 0), (39, .aload_n 0, 40, 0, 0, 0), (40, .getfield 32, 43, 8, 14, 0), (43, .iload_n 3, 44, 0, 0, 0), (44, .iaload, 45, 0, 0, 0), (45, .iload_n 2, 46, 0, 0, 0), (46, .if_icmp .le 82, 49, 128, 0, 0), (49, .iload 4, 51, 0, 0, 0), (51, .bipush (-4), 53, 0, 0, (-4)), (53, .if_icmp .eq 75, 56, 128, 0, 0), (56, .aload_n 0, 57, 0, 0, 0), (57, .getfield 7, 60, 8, 0, 0), (60, .bipush 21, 62, 0, 0, 21), (62, .iload 4, 64, 0, 0, 0), (64, .iadd, 65, 0, 0, 0), (65, .iaload, 66, 0, 0, 0), (66, .aload_n 0, 67, 0, 0, 0), (67, .getfield 7, 70, 8, 0, 0), (70, .iconst 2, 71, 0, 0, 2), (71, .iaload, 72, 0, 0, 0), (72, .if_icmp .le 56, 75, 128, 0, 0), (75, .aload_n 0, 76, 0, 0, 0), (76, .getfield 7, 79, 8, 0, 0), (79, .bipush 21, 81, 0, 0, 21), (81, .iload 4, 83, 0, 0, 0), (83, .iadd, 84, 0, 0, 0), (84, .iaload, 85, 0, 0, 0), (85, .aload_n 0, 86, 0, 0, 0), (86, .getfield 7, 89, 8, 0, 0), (89, .iconst 3, 90, 0, 0, 3), (90, .iaload, 91, 0, 0, 0), (91, .isub, 92, 0, 0, 0), (92, .istore 5, 94, 0, 0, 0), (94, .aload_n 0, 95, 0, 0, 0), (95, .getfield 7, 98, 8, 0, 0), (98, .bipush 21, 100, 0, 0, 21), (100, .iload 4, 102, 0, 0, 0), (102, .iadd, 103, 0, 0, 0), (103, .iload 5, 105, 0, 0, 0), (105, .aload_n 0, 106, 0, 0, 0), (106, .getfield 7, 109, 8, 0, 0), (109, .iconst 2, 110, 0, 0, 2), (110, .iaload, 111, 0, 0, 0), (111, .if_icmp .le 8, 114, 119, 0, 0), (114, .iload 5, 116, 0, 0, 0), (116, .goto 9, 119, 125, 0, 0), (119, .aload_n 0, 120, 0, 0, 0), (120, .getfield 7, 123, 8, 0, 0), (123, .iconst 2, 124, 0, 0, 2), (124, .iaload, 125, 0, 0, 0), (125, .iastore, 126, 0, 0, 0), (126, .iconst 1, 127, 0, 0, 1), (127, .istore_n 1, 128, 0, 0, 0), (128, .iinc 3 1, 131, 0, 0, 0), (131, .goto (-109), 134, 22, 0, 0), (134, .iload_n 1, 135, 0, 0, 0), (135, .ireturn, 136, 1, 0, 0)]
def tb_177 : List EN := [(0, .iconst 0, 1, 0, 0, 0), (1, .istore_n 2, 2, 0, 0, 0), (2, .iload_n 2, 3, 0, 0, 0), (3, .iload_n 1, 4, 0, 0, 0), (4, .if_icmp .ge 16, 7, 20, 0, 0), (7, .aload_n 0, 8, 0, 0, 0), (8, .invokevirtual 268, 11, 176, 1, 0), (11, .ifCond .eq 9, 14, 20, 0, 0), (14, .iinc 2 1, 17, 0, 0, 0), (17, .goto (-15), 20, 2, 0, 0), (20, .iload_n 2, 21, 0, 0, 0), (21, .ireturn, 22, 0, 0, 0)]
def tb_178 : List EN := [(0, .iload_n 1, 1, 0, 0, 0), (1, .i2l, 2, 0, 0, 0), (2, .lconst 1, 3, 0, 0, 1), (3, .ldc2_w 271, 6, 0, 0, 200), (6, .invokestatic 67, 9, 106, 3, 0), (9, .ifCond .eq 11, 12, 20, 0, 0), (12, .aload_n 0, 13, 0, 0, 0), (13, .iload_n 1, 14, 0, 0, 0), (14, .invokevirtual 273, 17, 177, 2, 0), (17, .goto 4, 20, 21, 0, 0), (20, .iconst (-1), 21, 0, 0, (-1)), (21, .ireturn, 22, 0, 0, 0)]
def tb_179 : List EN := [(0, .iload_n 1, 1, 0, 0, 0), (1, .i2l, 2, 0, 0, 0), (2, .lconst 0, 3, 0, 0, 0), (3, .ldc2_w 247, 6, 0, 0, 2), (6, .invokestatic 67, 9, 106, 3, 0), (9, .ifCond .ne 5, 12, 14, 0, 0), (12, .iconst (-1), 13, 0, 0, (-1)), (13, .ireturn, 14, 0, 0, 0), (14, .aload_n 0, 15, 0, 0, 0), (15, .invokevirtual 276, 18, 182, 1, 0), (18, .aload_n 0, 19, 0, 0, 0), (19, .bipush 21, 21, 0, 0, 21), (21, .invokevirtual 161, 24, 131, 2, 0), (24, .istore_n 2, 25, 0, 0, 0), (25, .aload_n 0, 26, 0, 0, 0), (26, .sipush 200, 29, 0, 0, 200), (29, .invokevirtual 273, 32, 177, 2, 0), (32, .istore_n 3, 33, 0, 0, 0), (33, .iload_n 2, 34, 0, 0, 0), (34, .aload_n 0, 35, 0, 0, 0), (35, .bipush 21, 37, 0, 0, 21), (37, .invokevirtual 161, 40, 131, 2, 0), (40, .isub, 41, 0, 0, 0), (41, .istore 4, 43, 0, 0, 0), (43, .aload_n 0, 44, 0, 0, 0), (44, .invokevirtual 158, 47, 130, 1, 0), (47, .istore 5, 49, 0, 0, 0), (49, .aload_n 0, 50, 0, 0, 0), (50, .invokevirtual 279, 53, 183, 1, 0), (53, .iload_n 1, 54, 0, 0, 0), (54, .ifCond .ne 7, 57, 61, 0, 0), (57, .iload_n 3, 58, 0, 0, 0), (58, .goto 15, 61, 73, 0, 0), (61, .iload_n 1, 62, 0, 0, 0), (62, .iconst 1, 63, 0, 0, 1), (63, .if_icmp .ne 8, 66, 71, 0, 0), (66, .iload 4, 68, 0, 0, 0), (68, .goto 5, 71, 73, 0, 0), (71, .iload 5, 73, 0, 0, 0), (73, .ireturn, 74, 0, 0, 0)]
def tb_180 : List EN := [(0, .aload_n 0, 1, 0, 0, 0), (1, .iconst 5, 2, 0, 0, 5), (2, .invokevirtual 161, 5, 131, 2, 0), (5, .aload_n 0, 6, 0, 0, 0), (6, .bipush 21, 8, 0, 0, 21), (8, .invokevirtual 161, 11, 131, 2, 0), (11, .isub, 12, 0, 0, 0), (12, .istore_n 1, 13, 0, 0, 0), (13, .iconst 0, 14, 0, 0, 0), (14, .istore_n 2, 15, 0, 0, 0), (15, .iload_n 2, 16, 0, 0, 0), (16, .aload_n 0, 17, 0, 0, 0), (17, .getfield 7, 20, 8, 0, 0), (20, .iconst 0, 21, 0, 0, 0), (21, .iaload, 22, 0, 0, 0), (22, .if_icmp .ge 26, 25, 48, 0, 0), (25, .aload_n 0, 26, 0, 0, 0), (26, .getfield 7, 29, 8, 0, 0), (29, .bipush 21, 31, 0, 0, 21), (31, .iload_n 2, 32, 0, 0, 0), (32, .iadd, 33, 0, 0, 0), (33, .aload_n 0, 34, 0, 0, 0), (34, .getfield 7, 37, 8, 0, 0), (37, .iconst 5, 38, 0, 0, 5), (38, .iload_n 2, 39, 0, 0, 0), (39, .iadd, 40, 0, 0, 0), (40, .iaload, 41, 0, 0, 0), (41, .iastore, 42, 0, 0, 0), (42, .iinc 2 1, 45, 0, 0, 0), (45, .goto (-30), 48, 15, 0, 0), (48, .iload_n 1, 49, 0, 0, 0), (49, .ireturn, 50, 0, 0, 0)]
def tb_181 : List EN := [(0, .iload_n 2, 1, 0, 0, 0), (1, .i2l, 2, 0, 0, 0), (2, .lconst 1, 3, 0, 0, 1), (3, .ldc2_w 282, 6, 0, 0, 16), (6, .invokestatic 67, 9, 106, 3, 0), (9, .ifCond .ne 5, 12, 14, 0, 0), (12, .iconst (-1), 13, 0, 0, (-1)), (13, .ireturn, 14, 0, 0, 0), (14, .iload_n 1, 15, 0, 0, 0), (15, .istore_n 3, 16, 0, 0, 0), (16, .iconst 0, 17, 0, 0, 0), (17, .istore 4, 19, 0, 0, 0), (19, .iload 4, 21, 0, 0, 0), (21, .iload_n 2, 22, 0, 0, 0), (22, .if_icmp .ge 49, 25, 71, 0, 0), (25, .aload_n 0, 26, 0, 0, 0), (26, .getfield 7, 29, 8, 0, 0), (29, .iconst 0, 30, 0, 0, 0), (30, .iaload, 31, 0, 0, 0), (31, .bipush 16, 33, 0, 0, 16), (33, .if_icmp .ge 38, 36, 71, 0, 0), (36, .iload_n 3, 37, 0, 0, 0), (37, .ldc_w 284, 40, 0, 0, 1103515245), (40, .imul, 41, 0, 0, 0), (41, .sipush 12345, 44, 0, 0, 12345), (44, .iadd, 45, 0, 0, 0), (45, .istore_n 3, 46, 0, 0, 0), (46, .aload_n 0, 47, 0, 0, 0), (47, .iload_n 3, 48, 0, 0, 0), (48, .bipush 16, 50, 0, 0, 16), (50, .ishr, 51, 0, 0, 0), (51, .sipush 32767, 54, 0, 0, 32767), (54, .iand, 55, 0, 0, 0), (55, .sipush 200, 58, 0, 0, 200), (58, .irem, 59, 0, 0, 0), (59, .bipush 50, 61, 0, 0, 50), (61, .iadd, 62, 0, 0, 0), (62, .invokevirtual 263, 65, 170, 2, 0), (65, .iinc 4 1, 68, 0, 0, 0), (68, .goto (-49), 71, 19, 0, 0), (71, .iload 4, 73, 0, 0, 0), (73, .ireturn, 74, 0, 0, 0)]
def tb_182 : List EN := [(0, .iconst 0, 1, 0, 0, 0), (1, .istore_n 1, 2, 0, 0, 0), (2, .iload_n 1, 3, 0, 0, 0), (3, .bipush 53, 5, 0, 0, 53), (5, .if_icmp .ge 21, 8, 26, 0, 0), (8, .aload_n 0, 9, 0, 0, 0), (9, .getfield 20, 12, 8, 3, 0), (12, .iload_n 1, 13, 0, 0, 0), (13, .aload_n 0, 14, 0, 0, 0), (14, .getfield 7, 17, 8, 0, 0), (17, .iload_n 1, 18, 0, 0, 0), (18, .iaload, 19, 0, 0, 0), (19, .iastore, 20, 0, 0, 0), (20, .iinc 1 1, 23, 0, 0, 0), (23, .goto (-21), 26, 2, 0, 0), (26, .return_, 27, 0, 0, 0)]
def tb_183 : List EN := [(0, .iconst 0, 1, 0, 0, 0), (1, .istore_n 1, 2, 0, 0, 0), (2, .iload_n 1, 3, 0, 0, 0), (3, .bipush 53, 5, 0, 0, 53), (5, .if_icmp .ge 21, 8, 26, 0, 0), (8, .aload_n 0, 9, 0, 0, 0), (9, .getfield 7, 12, 8, 0, 0), (12, .iload_n 1, 13, 0, 0, 0), (13, .aload_n 0, 14, 0, 0, 0), (14, .getfield 20, 17, 8, 3, 0), (17, .iload_n 1, 18, 0, 0, 0), (18, .iaload, 19, 0, 0, 0), (19, .iastore, 20, 0, 0, 0), (20, .iinc 1 1, 23, 0, 0, 0), (23, .goto (-21), 26, 2, 0, 0), (26, .return_, 27, 0, 0, 0)]
def tb_184 : List EN := [(0, .iload_n 1, 1, 0, 0, 0), (1, .i2l, 2, 0, 0, 0), (2, .lconst 0, 3, 0, 0, 0), (3, .lconst 1, 4, 0, 0, 1), (4, .invokestatic 67, 7, 106, 3, 0), (7, .ifCond .ne 5, 10, 12, 0, 0), (10, .iconst (-1), 11, 0, 0, (-1)), (11, .ireturn, 12, 0, 0, 0), (12, .aload_n 0, 13, 0, 0, 0), (13, .getfield 16, 16, 8, 2, 0), (16, .iload_n 1, 17, 0, 0, 0), (17, .baload, 18, 0, 0, 0), (18, .invokestatic 164, 21, 107, 1, 0), (21, .istore_n 2, 22, 0, 0, 0), (22, .aload_n 0, 23, 0, 0, 0), (23, .getfield 16, 26, 8, 2, 0), (26, .iload_n 1, 27, 0, 0, 0), (27, .iconst 1, 28, 0, 0, 1), (28, .bastore, 29, 0, 0, 0), (29, .iconst 0, 30, 0, 0, 0), (30, .istore_n 3, 31, 0, 0, 0), (31, .iload_n 3, 32, 0, 0, 0), (32, .bipush 53, 34, 0, 0, 53), (34, .if_icmp .ge 26, 37, 60, 0, 0), (37, .aload_n 0, 38, 0, 0, 0), (38, .getfield 13, 41, 8, 1, 0), (41, .bipush 53, 43, 0, 0, 53), (43, .iload_n 1, 44, 0, 0, 0), (44, .imul, 45, 0, 0, 0), (45, .iload_n 3, 46, 0, 0, 0), (46, .iadd, 47, 0, 0, 0), (47, .aload_n 0, 48, 0, 0, 0), (48, .getfield 7, 51, 8, 0, 0), (51, .iload_n 3, 52, 0, 0, 0), (52, .iaload, 53, 0, 0, 0), (53, .iastore, 54, 0, 0, 0), (54, .iinc 3 1, 57, 0, 0, 0), (57, .goto (-26), 60, 31, 0, 0), (60, .iload_n 2, 61, 0, 0, 0), (61, .ireturn, 62, 0, 0, 0)]
def tb_185 : List EN := [(0, .iload_n 1, 1, 0, 0, 0), (1, .i2l, 2, 0, 0, 0), (2, .lconst 0, 3, 0, 0, 0), (3, .lconst 1, 4, 0, 0, 1), (4, .invokestatic 67, 7, 106, 3, 0), (7, .ifCond .ne 5, 10, 12, 0, 0), (10, .iconst (-1), 11, 0, 0, (-1)), (11, .ireturn, 12, 0, 0, 0), (12, .aload_n 0, 13, 0, 0, 0), (13, .getfield 16, 16, 8, 2, 0), (16, .iload_n 1, 17, 0, 0, 0), (17, .baload, 18, 0, 0, 0), (18, .ifCond .ne 6, 21, 24, 0, 0), (21, .bipush (-2), 23, 0, 0, (-2)), (23, .ireturn, 24, 0, 0, 0), (24, .iconst 0, 25, 0, 0, 0), (25, .istore_n 2, 26, 0, 0, 0), (26, .iload_n 2, 27, 0, 0, 0), (27, .bipush 53, 29, 0, 0, 53), (29, .if_icmp .ge 26, 32, 55, 0, 0), (32, .aload_n 0, 33, 0, 0, 0), (33, .getfield 7, 36, 8, 0, 0), (36, .iload_n 2, 37, 0, 0, 0), (37, .aload_n 0, 38, 0, 0, 0), (38, .getfield 13, 41, 8, 1, 0), (41, .bipush 53, 43, 0, 0, 53), (43, .iload_n 1, 44, 0, 0, 0), (44, .imul, 45, 0, 0, 0), (45, .iload_n 2, 46, 0, 0, 0), (46, .iadd, 47, 0, 0, 0), (47, .iaload, 48, 0, 0, 0), (48, .iastore, 49, 0, 0, 0), (49, .iinc 2 1, 52, 0, 0, 0), (52, .goto (-26), 55, 26, 0, 0), (55, .aload_n 0, 56, 0, 0, 0), (56, .getfield 7, 59, 8, 0, 0), (59, .iconst 0, 60, 0, 0, 0), (60, .iaload, 61, 0, 0, 0), (61, .ireturn, 62, 0, 0, 0)]
def tb_186 : List EN := [(0, .iload_n 0, 1, 0, 0, 0), (1, .i2l, 2, 0, 0, 0), (2, .lconst 0, 3, 0, 0, 0), (3, .ldc2_w 236, 6, 0, 0, 3), (6, .invokestatic 67, 9, 106, 3, 0), (9, .ifCond .eq 19, 12, 28, 0, 0), (12, .iload_n 1, 13, 0, 0, 0), (13, .i2l, 14, 0, 0, 0), (14, .lconst 0, 15, 0, 0, 0), (15, .ldc2_w 247, 18, 0, 0, 2), (18, .invokestatic 67, 21, 106, 3, 0), (21, .ifCond .eq 7, 24, 28, 0, 0), (24, .iconst 1, 25, 0, 0, 1), (25, .goto 4, 28, 29, 0, 0), (28, .iconst 0, 29, 0, 0, 0), (29, .ireturn, 30, 1, 0, 0)]
def tb_187 : List EN := [(0, .iload_n 1, 1, 0, 0, 0), (1, .iload_n 2, 2, 0, 0, 0), (2, .invokestatic 285, 5, 186, 2, 0), (5, .ifCond .eq 9, 8, 14, 0, 0), (8, .iload_n 3, 9, 0, 0, 0), (9, .bipush 40, 11, 0, 0, 40), (11, .if_icmp .le 5, 14, 16, 0, 0), (14, .iconst (-1), 15, 0, 0, (-1)), (15, .ireturn, 16, 0, 0, 0), (16, .iload_n 3, 17, 0, 0, 0), (17, .ifCond .ge 6, 20, 23, 0, 0), (20, .bipush (-14), 22, 0, 0, (-14)), (22, .ireturn, 23, 0, 0, 0), (23, .aload_n 0, 24, 0, 0, 0), (24, .getfield 53, 27, 8, 22, 0), (27, .iload_n 1, 28, 0, 0, 0), (28, .iload_n 2, 29, 0, 0, 0), (29, .iastore, 30, 0, 0, 0), (30, .aload_n 0, 31, 0, 0, 0), (31, .getfield 56, 34, 8, 23, 0), (34, .iload_n 1, 35, 0, 0, 0), (35, .iload_n 3, 36, 0, 0, 0), (36, .iastore, 37, 0, 0, 0), (37, .iconst 0, 38, 0, 0, 0), (38, .istore 4, 40, 0, 0, 0), (40, .iload 4, 42, 0, 0, 0), (42, .bipush 40, 44, 0, 0, 40), (44, .if_icmp .ge 22, 47, 66, 0, 0), (47, .aload_n 0, 48, 0, 0, 0), (48, .getfield 59, 51, 8, 24, 0), (51, .bipush 40, 53, 0, 0, 40), (53, .iload_n 1, 54, 0, 0, 0), (54, .imul, 55, 0, 0, 0), (55, .iload 4, 57, 0, 0, 0), (57, .iadd, 58, 0, 0, 0), (58, .iconst 0, 59, 0, 0, 0), (59, .iastore, 60, 0, 0, 0), (60, .iinc 4 1, 63, 0, 0, 0), (63, .goto (-23), 66, 40, 0, 0), (66, .iconst 1, 67, 0, 0, 1), (67, .ireturn, 68, 0, 0, 0)]
def tb_188 : List EN := [(0, .iload_n 1, 1, 0, 0, 0), (1, .iconst 0, 2, 0, 0, 0), (2, .invokestatic 285, 5, 186, 2, 0), (5, .ifCond .ne 5, 8, 10, 0, 0), (8, .iconst (-1), 9, 0, 0, (-1)), (9, .ireturn, 10, 0, 0, 0), (10, .aload_n 0, 11, 0, 0, 0), (11, .getfield 53, 14, 8, 22, 0), (14, .iload_n 1, 15, 0, 0, 0), (15, .iaload, 16, 0, 0, 0), (16, .bipush (-4), 18, 0, 0, (-4)), (18, .if_icmp .ne 6, 21, 24, 0, 0), (21, .bipush (-11), 23, 0, 0, (-11)), (23, .ireturn, 24, 0, 0, 0), (24, .iload_n 2, 25, 0, 0, 0), (25, .i2l, 26, 0, 0, 0), (26, .lconst 0, 27, 0, 0, 0), (27, .aload_n 0, 28, 0, 0, 0), (28, .getfield 56, 31, 8, 23, 0), (31, .iload_n 1, 32, 0, 0, 0), (32, .iaload, 33, 0, 0, 0), (33, .iconst 1, 34, 0, 0, 1), (34, .isub, 35, 0, 0, 0), (35, .i2l, 36, 0, 0, 0), (36, .invokestatic 67, 39, 106, 3, 0), (39, .ifCond .ne 6, 42, 45, 0, 0), (42, .bipush (-12), 44, 0, 0, (-12)), (44, .ireturn, 45, 0, 0, 0), (45, .aload_n 0, 46, 0, 0, 0), (46, .getfield 59, 49, 8, 24, 0), (49, .bipush 40, 51, 0, 0, 40), (51, .iload_n 1, 52, 0, 0, 0), (52, .imul, 53, 0, 0, 0), (53, .iload_n 2, 54, 0, 0, 0), (54, .iadd, 55, 0, 0, 0), (55, .aload_n 0, 56, 0, 0, 0), (56, .getfield 53, 59, 8, 22, 0), (59, .iload_n 1, 60, 0, 0, 0), (60, .iaload, 61, 0, 0, 0), (61, .ifCond .ne 8, 64, 69, 0, 0), (64, .iload_n 3, 65, 0, 0, 0), (65, .i2b, 66, 0, 0, 0), (66, .goto 19, 69, 85, 0, 0), (69, .aload_n 0, 70, 0, 0, 0), (70, .getfield 53, 73, 8, 22, 0), (73, .iload_n 1, 74, 0, 0, 0), (74, .iaload, 75, 0, 0, 0), (75, .iconst 1, 76, 0, 0, 1), (76, .if_icmp .ne 8, 79, 84, 0, 0), (79, .iload_n 3, 80, 0, 0, 0), (80, .i2s, 81, 0, 0, 0), (81, .goto 4, 84, 85, 0, 0), (84, .iload_n 3, 85, 0, 0, 0), (85, .iastore, 86, 0, 0, 0), (86, .iconst 1, 87, 0, 0, 1), (87, .ireturn, 88, 0, 0, 0)]
def tb_189 : List EN := [(0, .iload_n 1, 1, 0, 0, 0), (1, .iload_n 2, 2, 0, 0, 0), (2, .invokestatic 285, 5, 186, 2, 0), (5, .ifCond .eq 16, 8, 21, 0, 0), (8, .iload 4, 10, 0, 0, 0), (10, .i2l, 11, 0, 0, 0), (11, .lconst 0, 12, 0, 0, 0), (12, .ldc2_w 288, 15, 0, 0, 20), (15, .invokestatic 67, 18, 106, 3, 0), (18, .ifCond .ne 5, 21, 23, 0, 0), (21, .iconst (-1), 22, 0, 0, (-1)), (22, .ireturn, 23, 0, 0, 0), (23, .aload_n 0, 24, 0, 0, 0), (24, .invokevirtual 276, 27, 182, 1, 0), (27, .iconst 0, 28, 0, 0, 0), (28, .istore 5, 30, 0, 0, 0), (30, .iconst 0, 31, 0, 0, 0), (31, .istore 6, 33, 0, 0, 0), (33, .iconst 0, 34, 0, 0, 0), (34, .istore 7, 36, 0, 0, 0), (36, .iload 7, 38, 0, 0, 0), (38, .iload 4, 40, 0, 0, 0), (40, .if_icmp .ge 158, 43, 198, 0, 0), (43, .iload 5, 45, 0, 0, 0), (45, .ifCond .ne 153, 48, 198, 0, 0), (48, .iconst 0, 49, 0, 0, 0), (49, .istore 8, 51, 0, 0, 0), (51, .iload 8, 53, 0, 0, 0), (53, .iconst 2, 54, 0, 0, 2), (54, .if_icmp .ge 84, 57, 138, 0, 0), (57, .iload 5, 59, 0, 0, 0), (59, .ifCond .ne 79, 62, 138, 0, 0), (62, .iload_n 3, 63, 0, 0, 0), (63, .i2l, 64, 0, 0, 0), (64, .iconst 2, 65, 0, 0, 2), (65, .iload 7, 67, 0, 0, 0), (67, .imul, 68, 0, 0, 0), (68, .i2l, 69, 0, 0, 0), (69, .ladd, 70, 0, 0, 0), (70, .iload 8, 72, 0, 0, 0), (72, .i2l, 73, 0, 0, 0), (73, .ladd, 74, 0, 0, 0), (74, .lstore 9, 76, 0, 0, 0), (76, .aload_n 0, 77, 0, 0, 0), (77, .getfield 53, 80, 8, 22, 0), (80, .iload_n 1, 81, 0, 0, 0), (81, .iaload, 82, 0, 0, 0), (82, .bipush (-4), 84, 0, 0, (-4)), (84, .if_icmp .ne 7, 87, 91, 0, 0), (87, .iconst 1, 88, 0, 0, 1), (88, .goto 42, 91, 130, 0, 0), (91, .aload_n 0, 92, 0, 0, 0), (92, .getfield 53, 95, 8, 22, 0), (95, .iload_n 1, 96, 0, 0, 0), (96, .iaload, 97, 0, 0, 0), (97, .iload_n 2, 98, 0, 0, 0), (98, .if_icmp .eq 7, 101, 105, 0, 0), (101, .iconst 3, 102, 0, 0, 3), (102, .goto 28, 105, 130, 0, 0), (105, .lload 9, 107, 0, 0, 0), (107, .lconst 0, 108, 0, 0, 0), (108, .lcmp, 109, 0, 0, 0), (109, .ifCond .lt 16, 112, 125, 0, 0), (112, .lload 9, 114, 0, 0, 0), (114, .aload_n 0, 115, 0, 0, 0), (115, .getfield 56, 118, 8, 23, 0), (118, .iload_n 1, 119, 0, 0, 0), (119, .iaload, 120, 0, 0, 0), (120, .i2l, 121, 0, 0, 0), (121, .lcmp, 122, 0, 0, 0), (122, .ifCond .lt 7, 125, 129, 0, 0), (125, .iconst 2, 126, 0, 0, 2), (126, .goto 4, 129, 130, 0, 0), (129, .iconst 0, 130, 0, 0, 0), (130, .istore 5, 132, 0, 0, 0), (132, .iinc 8 1, 135, 0, 0, 0), (135, .goto (-84), 138, 51, 0, 0), (138, .iload 5, 140, 0, 0, 0), (140, .ifCond .ne 52, 143, 192, 0, 0), (143, .bipush 40, 145, 0, 0, 40), (145, .iload_n 1, 146, 0, 0, 0), (146, .imul, 147, 0, 0, 0), (147, .iload_n 3, 148, 0, 0, 0), (148, .iadd, 149, 0, 0, 0), (149, .iconst 2, 150, 0, 0, 2), (150, .iload 7, 152, 0, 0, 0), (152, .imul, 153, 0, 0, 0), (153, .iadd, 154, 0, 0, 0), (154, .istore 8, 156, 0, 0, 0), (156, .aload_n 0, 157, 0, 0, 0), (157, .aload_n 0, 158, 0, 0, 0), (158, .getfield 59, 161, 8, 24, 0), (161, .iload 8, 163, 0, 0, 0), (163, .iaload, 164, 0, 0, 0), (164, .aload_n 0, 165, 0, 0, 0), (165, .getfield 59, 168, 8, 24, 0), (168, .iload 8, 170, 0, 0, 0), (170, .iconst 1, 171, 0, 0, 1), (171, .iadd, 172, 0, 0, 0), (172, .iaload, 173, 0, 0, 0), (173, .invokevirtual 290, 176, 166, 3, 0), (176, .ifCond .ge 13, 179, 189, 0, 0), (179, .aload_n 0, 180, 0, 0, 0), (180, .invokevirtual 279, 183, 183, 1, 0), (183, .bipush (-20), 185, 0, 0, (-20)), (185, .iload 7, 187, 0, 0, 0), (187, .isub, 188, 0, 0, 0), (188, .ireturn, 189, 0, 0, 0), (189, .iinc 6 1, 192, 0, 0, 0), (192, .iinc 7 1, 195, 0, 0, 0), (195, .goto (-159), 198, 36, 0, 0), (198, .aload_n 0, 199, 0, 0, 0), (199, .iload 5, 201, 0, 0, 0), (201, .putfield 293, 204, 8, 25, 0), (204, .iload 6, 206, 0, 0, 0), (206, .ireturn, 207, 0, 0, 0)]
def tb_190 : List EN := [(0, .aload_n 0, 1, 0, 0, 0), (1, .getfield 293, 4, 8, 25, 0), (4, .ireturn, 5, 0, 0, 0)]
def tb_191 : List EN := [(0, .iconst 0, 1, 0, 0, 0), (1, .istore_n 1, 2, 0, 0, 0), (2, .iconst 0, 3, 0, 0, 0), (3, .istore_n 2, 4, 0, 0, 0), (4, .iload_n 2, 5, 0, 0, 0), (5, .aload_n 0, 6, 0, 0, 0), (6, .getfield 7, 9, 8, 0, 0), (9, .iconst 1, 10, 0, 0, 1), (10, .iaload, 11, 0, 0, 0), (11, .if_icmp .ge 29, 14, 40, 0, 0), (14, .iload_n 1, 15, 0, 0, 0), (15, .aload_n 0, 16, 0, 0, 0), (16, .iload_n 2, 17, 0, 0, 0), (17, .iconst 0, 18, 0, 0, 0), (18, .invokevirtual 181, 21, 138, 3, 0), (21, .ifCond .ne 7, 24, 28, 0, 0), (24, .iconst 1, 25, 0, 0, 1), (25, .goto 4, 28, 29, 0, 0), (28, .iconst 0, 29, 0, 0, 0), (29, .invokestatic 164, 32, 107, 1, 0), (32, .iadd, 33, 0, 0, 0), (33, .istore_n 1, 34, 0, 0, 0), (34, .iinc 2 1, 37, 0, 0, 0), (37, .goto (-33), 40, 4, 0, 0), (40, .iload_n 1, 41, 0, 0, 0), (41, .ireturn, 42, 0, 0, 0)]
def tb_192 : List EN := [(0, .iconst 0, 1, 0, 0, 0), (1, .istore_n 1, 2, 0, 0, 0), (2, .iconst 0, 3, 0, 0, 0), (3, .istore_n 2, 4, 0, 0, 0), (4, .iload_n 2, 5, 0, 0, 0), (5, .aload_n 0, 6, 0, 0, 0), (6, .getfield 7, 9, 8, 0, 0), (9, .iconst 0, 10, 0, 0, 0), (10, .iaload, 11, 0, 0, 0), (11, .if_icmp .ge 40, 14, 51, 0, 0), (14, .iload_n 1, 15, 0, 0, 0), (15, .aload_n 0, 16, 0, 0, 0), (16, .getfield 7, 19, 8, 0, 0), (19, .bipush 21, 21, 0, 0, 21), (21, .iload_n 2, 22, 0, 0, 0), (22, .iadd, 23, 0, 0, 0), (23, .iaload, 24, 0, 0, 0), (24, .aload_n 0, 25, 0, 0, 0), (25, .getfield 7, 28, 8, 0, 0), (28, .iconst 5, 29, 0, 0, 5), (29, .iload_n 2, 30, 0, 0, 0), (30, .iadd, 31, 0, 0, 0), (31, .iaload, 32, 0, 0, 0), (32, .if_icmp .ge 7, 35, 39, 0, 0), (35, .iconst 1, 36, 0, 0, 1), (36, .goto 4, 39, 40, 0, 0), (39, .iconst 0, 40, 0, 0, 0), (40, .invokestatic 164, 43, 107, 1, 0), (43, .iadd, 44, 0, 0, 0), (44, .istore_n 1, 45, 0, 0, 0), (45, .iinc 2 1, 48, 0, 0, 0), (48, .goto (-44), 51, 4, 0, 0), (51, .iload_n 1, 52, 0, 0, 0), (52, .ireturn, 53, 0, 0, 0)]
def tb_193 : List EN := [(0, .bipush (-4), 2, 0, 0, (-4)), (2, .istore_n 1, 3, 0, 0, 0), (3, .iconst 0, 4, 0, 0, 0), (4, .istore_n 2, 5, 0, 0, 0), (5, .iload_n 2, 6, 0, 0, 0), (6, .aload_n 0, 7, 0, 0, 0), (7, .getfield 7, 10, 8, 0, 0), (10, .iconst 0, 11, 0, 0, 0), (11, .iaload, 12, 0, 0, 0), (12, .if_icmp .ge 34, 15, 46, 0, 0), (15, .aload_n 0, 16, 0, 0, 0), (16, .getfield 7, 19, 8, 0, 0), (19, .iconst 5, 20, 0, 0, 5), (20, .iload_n 2, 21, 0, 0, 0), (21, .iadd, 22, 0, 0, 0), (22, .iaload, 23, 0, 0, 0), (23, .iload_n 1, 24, 0, 0, 0), (24, .if_icmp .le 14, 27, 38, 0, 0), (27, .aload_n 0, 28, 0, 0, 0), (28, .getfield 7, 31, 8, 0, 0), (31, .iconst 5, 32, 0, 0, 5), (32, .iload_n 2, 33, 0, 0, 0), (33, .iadd, 34, 0, 0, 0), (34, .iaload, 35, 0, 0, 0), (35, .goto 4, 38, 39, 0, 0), (38, .iload_n 1, 39, 0, 0, 0), (39, .istore_n 1, 40, 0, 0, 0), (40, .iinc 2 1, 43, 0, 0, 0), (43, .goto (-38), 46, 5, 0, 0), (46, .iload_n 1, 47, 0, 0, 0), (47, .ireturn, 48, 0, 0, 0)]
def tb_194 : List EN := [(0, .iload_n 1, 1, 0, 0, 0), (1, .tableswitch 102 0 5 #[39, 59, 64, 69, 92, 97], 40, 0, 0, 0), (40, .aload_n 0, 41, 0, 0, 0), (41, .getfield 16, 44, 8, 2, 0), (44, .iconst 0, 45, 0, 0, 0), (45, .baload, 46, 0, 0, 0), (46, .invokestatic 164, 49, 107, 1, 0), (49, .aload_n 0, 50, 0, 0, 0), (50, .getfield 16, 53, 8, 2, 0), (53, .iconst 1, 54, 0, 0, 1), (54, .baload, 55, 0, 0, 0), (55, .invokestatic 164, 58, 107, 1, 0), (58, .iadd, 59, 0, 0, 0), (59, .ireturn, 60, 0, 0, 0), (60, .aload_n 0, 61, 0, 0, 0), (61, .invokevirtual 296, 64, 191, 1, 0), (64, .ireturn, 65, 0, 0, 0), (65, .aload_n 0, 66, 0, 0, 0), (66, .getfield 71, 69, 8, 7, 0), (69, .ireturn, 70, 0, 0, 0), (70, .aload_n 0, 71, 0, 0, 0), (71, .getfield 53, 74, 8, 22, 0), (74, .iconst 0, 75, 0, 0, 0), (75, .iaload, 76, 0, 0, 0), (76, .bipush (-4), 78, 0, 0, (-4)), (78, .if_icmp .ne 8, 81, 86, 0, 0), (81, .bipush (-4), 83, 0, 0, (-4)), (83, .goto 9, 86, 92, 0, 0), (86, .aload_n 0, 87, 0, 0, 0), (87, .getfield 56, 90, 8, 23, 0), (90, .iconst 0, 91, 0, 0, 0), (91, .iaload, 92, 0, 0, 0), (92, .ireturn, 93, 0, 0, 0), (93, .aload_n 0, 94, 0, 0, 0), (94, .invokevirtual 299, 97, 192, 1, 0), (97, .ireturn, 98, 0, 0, 0), (98, .aload_n 0, 99, 0, 0, 0), (99, .invokevirtual 302, 102, 193, 1, 0), (102, .ireturn, 103, 0, 0, 0), (103, .iconst (-1), 104, 0, 0, (-1)), (104, .ireturn, 105, 0, 0, 0)]
def tb_195 : List EN := [(0, .iload_n 0, 1, 0, 0, 0), (1, .iload_n 0, 2, 0, 0, 0), (2, .iconst 1, 3, 0, 0, 1), (3, .iushr, 4, 0, 0, 0), (4, .ldc_w 265, 7, 0, 0, 1431655765), (7, .iand, 8, 0, 0, 0), (8, .isub, 9, 0, 0, 0), (9, .istore_n 0, 10, 0, 0, 0), (10, .iload_n 0, 11, 0, 0, 0), (11, .ldc_w 266, 14, 0, 0, 858993459), (14, .iand, 15, 0, 0, 0), (15, .iload_n 0, 16, 0, 0, 0), (16, .iconst 2, 17, 0, 0, 2), (17, .iushr, 18, 0, 0, 0), (18, .ldc_w 266, 21, 0, 0, 858993459), (21, .iand, 22, 0, 0, 0), (22, .iadd, 23, 0, 0, 0), (23, .istore_n 0, 24, 0, 0, 0), (24, .iload_n 0, 25, 0, 0, 0), (25, .iload_n 0, 26, 0, 0, 0), (26, .iconst 4, 27, 0, 0, 4), (27, .iushr, 28, 0, 0, 0), (28, .iadd, 29, 0, 0, 0), (29, .ldc_w 267, 32, 0, 0, 252645135), (32, .iand, 33, 0, 0, 0), (33, .istore_n 0, 34, 0, 0, 0), (34, .iload_n 0, 35, 0, 0, 0), (35, .iload_n 0, 36, 0, 0, 0), (36, .bipush 8, 38, 0, 0, 8), (38, .iushr, 39, 0, 0, 0), (39, .iadd, 40, 0, 0, 0), (40, .istore_n 0, 41, 0, 0, 0), (41, .iload_n 0, 42, 0, 0, 0), (42, .iload_n 0, 43, 0, 0, 0), (43, .bipush 16, 45, 0, 0, 16), (45, .iushr, 46, 0, 0, 0), (46, .iadd, 47, 0, 0, 0), (47, .istore_n 0, 48, 0, 0, 0), (48, .iload_n 0, 49, 0, 0, 0), (49, .bipush 63, 51, 0, 0, 63), (51, .iand, 52, 0, 0, 0), (52, .ireturn, 53, 0, 0, 0)]
def tb_196 : List EN := [(0, .iconst 0, 1, 0, 0, 0), (1, .istore_n 2, 2, 0, 0, 0), (2, .aload_n 0, 3, 0, 0, 0), (3, .arraylength, 4, 0, 0, 0), (4, .istore_n 3, 5, 0, 0, 0), (5, .iload_n 2, 6, 0, 0, 0), (6, .iload_n 3, 7, 0, 0, 0), (7, .if_icmp .ge 13, 10, 20, 0, 0), (10, .aload_n 0, 11, 0, 0, 0), (11, .iload_n 2, 12, 0, 0, 0), (12, .iload_n 1, 13, 0, 0, 0), (13, .iastore, 14, 0, 0, 0), (14, .iinc 2 1, 17, 0, 0, 0), (17, .goto (-12), 20, 5, 0, 0), (20, .return_, 21, 0, 0, 0)]
def TBS : List (List EN) := [tb_0, tb_1, tb_2, tb_3, tb_4, tb_5, tb_6, tb_7, tb_8, tb_9, tb_10, tb_11, tb_12, tb_13, tb_14, tb_15, tb_16, tb_17, tb_18, tb_19, tb_20, tb_21, tb_22, tb_23, tb_24, tb_25, tb_26, tb_27, tb_28, tb_29, tb_30, tb_31, tb_32, tb_33, tb_34, tb_35, tb_36, tb_37, tb_38, tb_39, tb_40, tb_41, tb_42, tb_43, tb_44, tb_45, tb_46, tb_47, tb_48, tb_49, tb_50, tb_51, tb_52, tb_53, tb_54, tb_55, tb_56, tb_57, tb_58, tb_59, tb_60, tb_61, tb_62, tb_63, tb_64, tb_65, tb_66, tb_67, tb_68, tb_69, tb_70, tb_71, tb_72, tb_73, tb_74, tb_75, tb_76, tb_77, tb_78, tb_79, tb_80, tb_81, tb_82, tb_83, tb_84, tb_85, tb_86, tb_87, tb_88, tb_89, tb_90, tb_91, tb_92, tb_93, tb_94, tb_95, tb_96, tb_97, tb_98, tb_99, tb_100, tb_101, tb_102, tb_103, tb_104, tb_105, tb_106, tb_107, tb_108, tb_109, tb_110, tb_111, tb_112, tb_113, tb_114, tb_115, tb_116, tb_117, tb_118, tb_119, tb_120, tb_121, tb_122, tb_123, tb_124, tb_125, tb_126, tb_127, tb_128, tb_129, tb_130, tb_131, tb_132, tb_133, tb_134, tb_135, tb_136, tb_137, tb_138, tb_139, tb_140, tb_141, tb_142, tb_143, tb_144, tb_145, tb_146, tb_147, tb_148, tb_149, tb_150, tb_151, tb_152, tb_153, tb_154, tb_155, tb_156, tb_157, tb_158, tb_159, tb_160, tb_161, tb_162, tb_163, tb_164, tb_165, tb_166, tb_167, tb_168, tb_169, tb_170, tb_171, tb_172, tb_173, tb_174, tb_175, tb_176, tb_177, tb_178, tb_179, tb_180, tb_181, tb_182, tb_183, tb_184, tb_185, tb_186, tb_187, tb_188, tb_189, tb_190, tb_191, tb_192, tb_193, tb_194, tb_195, tb_196]
def MT : List MI := [(0, yX0_chooseHomes, cX0_chooseHomes, 3, none, 3, false), (0, yX0_tryCell, cX0_tryCell, 7, none, 5, false), (0, yX0_lacking, cX0_lacking, 4, (some .int), 2, false), (0, yX0_judge, cX0_judge, 4, none, 2, false), (1, yX1_chooseHomes, cX1_chooseHomes, 4, none, 3, false), (1, yX1_begin, cX1_begin, 3, none, 2, false), (1, yX1_joinTwo, cX1_joinTwo, 3, none, 1, false), (1, yX1_widestBut, cX1_widestBut, 4, (some .int), 2, false), (1, yX1_width, cX1_width, 2, (some .int), 2, false), (1, yX1_merge, cX1_merge, 5, none, 3, false), (1, yX1_isAhead, cX1_isAhead, 6, (some .boolean), 4, false), (1, yX1_exchange, cX1_exchange, 3, none, 2, true), (1, yX1_bundleOf, cX1_bundleOf, 3, (some .int), 2, false), (2, yX2_reset, cX2_reset, 1, none, 1, false), (2, yX2_copyFrom, cX2_copyFrom, 2, none, 2, false), (2, yX2_append, cX2_append, 3, none, 3, false), (2, yX2_removeAt, cX2_removeAt, 3, none, 2, false), (2, yX2_sumOf, cX2_sumOf, 2, (some .int), 2, false), (2, yX2_weakest, cX2_weakest, 1, (some .int), 1, false), (2, yX2_leastSum, cX2_leastSum, 1, (some .int), 1, false), (2, yX2_leastSumOfCharges, cX2_leastSumOfCharges, 1, (some .int), 1, false), (2, yX2_spread, cX2_spread, 2, (some .int), 1, false), (2, yX2_leastSumExchanged, cX2_leastSumExchanged, 3, (some .int), 3, false), (2, yX2_rankByCharge, cX2_rankByCharge, 4, (some .int), 2, false), (2, yX2_bitsOf, cX2_bitsOf, 4, (some .int), 2, false), (2, yX2_strongestOf, cX2_strongestOf, 4, (some .int), 2, false), (2, yX2_aboveFloor, cX2_aboveFloor, 4, (some .int), 2, false), (2, yX2_emptyGroups, cX2_emptyGroups, 3, (some .int), 1, false), (2, yX2_bledCells, cX2_bledCells, 3, (some .int), 1, false), (2, yX2_greatestCharge, cX2_greatestCharge, 3, (some .int), 1, false), (2, yX2_runTicks, cX2_runTicks, 3, (some .int), 2, false), (2, yX2_tickLoses, cX2_tickLoses, 4, (some .boolean), 1, false), (2, yX2_strongestLoses, cX2_strongestLoses, 3, (some .boolean), 2, false), (3, yX3_renew, cX3_renew, 3, none, 3, false), (3, yX3_putAt, cX3_putAt, 3, (some .int), 3, false), (3, yX3_wholePairs, cX3_wholePairs, 4, (some .int), 4, false), (3, yX3_faultAs, cX3_faultAs, 2, (some .int), 2, false), (4, yX4_byteAt, cX4_byteAt, 2, (some .int), 2, false), (4, yX4_spells, cX4_spells, 5, (some .boolean), 4, false), (5, yX5_readAll, cX5_readAll, 3, none, 1, false), (5, yX5_readLine, cX5_readLine, 2, (some .boolean), 1, false), (5, yX5_lineNamed, cX5_lineNamed, 2, (some .int), 1, false), (5, yX5_nameOf, cX5_nameOf, 1, (some (.object "java/lang/String")), 1, true), (5, yX5_readSetting, cX5_readSetting, 2, (some .boolean), 2, false), (5, yX5_lowestOf, cX5_lowestOf, 1, (some .int), 1, true), (5, yX5_highestOf, cX5_highestOf, 1, (some .int), 1, true), (5, yX5_putSetting, cX5_putSetting, 2, none, 2, false), (5, yX5_readCells, cX5_readCells, 2, (some .boolean), 1, false), (5, yX5_nextToken, cX5_nextToken, 2, (some .boolean), 1, false), (5, yX5_passRun, cX5_passRun, 3, none, 3, false), (5, yX5_takeValue, cX5_takeValue, 2, (some .boolean), 1, false), (5, yX5_fail, cX5_fail, 2, (some .boolean), 2, false), (6, yX6_choose, cX6_choose, 3, none, 3, false), (6, yX6_byTurns, cX6_byTurns, 3, none, 2, false), (6, yX6_byWeakest, cX6_byWeakest, 4, none, 2, false), (6, yX6_leastSum, cX6_leastSum, 2, (some .int), 2, false), (6, yX6_spread, cX6_spread, 3, (some .int), 2, false), (6, yX6_strangers, cX6_strangers, 4, (some .int), 2, false), (7, yX7_feed, cX7_feed, 2, (some .int), 2, false), (7, yX7_end, cX7_end, 3, (some .int), 2, false), (7, yX7_text, cX7_text, 1, (some .int), 1, false), (7, yX7_fault, cX7_fault, 1, (some .int), 1, false), (7, yX7_rule, cX7_rule, 2, (some .int), 2, false), (7, yX7_cell, cX7_cell, 3, (some .int), 3, false), (7, yX7_group, cX7_group, 3, (some .int), 3, false), (7, yX7_take, cX7_take, 2, (some .int), 2, false), (7, yX7_would, cX7_would, 3, (some .int), 3, false), (7, yX7_where, cX7_where, 3, (some .int), 3, false), (7, yX7_bound, cX7_bound, 3, (some .int), 2, false), (7, yX7_joined, cX7_joined, 2, (some .int), 2, false), (7, yX7_move, cX7_move, 4, (some .int), 3, false), (7, yX7_swap, cX7_swap, 4, (some .int), 3, false), (7, yX7_better, cX7_better, 6, (some .int), 1, false), (7, yX7_add, cX7_add, 2, (some .int), 2, false), (7, yX7_drop, cX7_drop, 2, (some .int), 2, false), (7, yX7_set, cX7_set, 4, (some .int), 3, false), (7, yX7_rate, cX7_rate, 4, (some .int), 3, false), (7, yX7_groups, cX7_groups, 3, (some .int), 2, false), (7, yX7_bleed, cX7_bleed, 2, (some .int), 2, false), (7, yX7_plan, cX7_plan, 3, (some .int), 2, false), (7, yX7_fill, cX7_fill, 2, (some .int), 1, false), (7, yX7_draw, cX7_draw, 7, (some .int), 3, false), (7, yX7_keep, cX7_keep, 3, (some .int), 2, false), (7, yX7_back, cX7_back, 2, (some .int), 2, false), (7, yX7_sheet, cX7_sheet, 4, (some .int), 4, false), (7, yX7_lay, cX7_lay, 5, (some .int), 4, false), (7, yX7_read, cX7_read, 8, (some .int), 5, false), (7, yX7_torn, cX7_torn, 1, (some .int), 1, false), (7, yX7_count, cX7_count, 2, (some .int), 2, false), (7, yX7_within, cX7_within, 3, (some .boolean), 3, true), (7, yX7_isCell, cX7_isCell, 2, (some .boolean), 2, false), (7, yX7_isGroup, cX7_isGroup, 2, (some .boolean), 2, false), (7, yX7_isWay, cX7_isWay, 1, (some .boolean), 1, true), (7, yX7_wayIsOpen, cX7_wayIsOpen, 2, (some .boolean), 2, false), (7, yX7_isImage, cX7_isImage, 1, (some .boolean), 1, true), (7, yX7_isSheet, cX7_isSheet, 1, (some .boolean), 1, true), (7, yX7_isLane, cX7_isLane, 1, (some .boolean), 1, true), (7, yX7_regroup, cX7_regroup, 2, none, 2, false), (7, yX7_waysThatReach, cX7_waysThatReach, 4, (some .int), 2, false), (7, yX7_forgetImages, cX7_forgetImages, 2, none, 1, false), (7, yX7_keptImages, cX7_keptImages, 3, (some .int), 1, false), (7, yX7_total, cX7_total, 4, (some .int), 2, true), (7, yX7_sumUp, cX7_sumUp, 5, none, 4, true), (7, yX7_firstLeast, cX7_firstLeast, 4, (some .int), 2, true), (7, yX7_greatest, cX7_greatest, 4, (some .int), 2, true), (8, yX8_init, cX8_init, 2, none, 1, false), (8, yX8_in, cX8_in, 6, (some .boolean), 3, true), (8, yX8_flag, cX8_flag, 1, (some .int), 1, true), (8, yX8_firstDraft, cX8_firstDraft, 2, none, 1, false), (8, yX8_feed, cX8_feed, 2, (some .int), 2, false), (8, yX8_end, cX8_end, 3, (some .int), 2, false), (8, yX8_requires, cX8_requires, 3, none, 3, false), (8, yX8_byteAt, cX8_byteAt, 2, (some .int), 2, false), (8, yX8_is, cX8_is, 6, (some .boolean), 6, false), (8, yX8_lineNow, cX8_lineNow, 1, (some .int), 1, false), (8, yX8_reads, cX8_reads, 2, none, 1, false), (8, yX8_leastOf, cX8_leastOf, 1, (some .int), 1, true), (8, yX8_mostOf, cX8_mostOf, 1, (some .int), 1, true), (8, yX8_readNumber, cX8_readNumber, 4, (some .int), 3, false), (8, yX8_readCell, cX8_readCell, 2, none, 1, false), (8, yX8_readLine, cX8_readLine, 2, none, 1, false), (8, yX8_text, cX8_text, 2, (some .int), 1, false), (8, yX8_fault, cX8_fault, 1, (some .int), 1, false), (8, yX8_isCell, cX8_isCell, 2, (some .boolean), 2, false), (8, yX8_isGroup, cX8_isGroup, 2, (some .boolean), 2, false), (8, yX8_sumNow, cX8_sumNow, 3, none, 2, false), (8, yX8_sumFound, cX8_sumFound, 2, none, 1, false), (8, yX8_weakest, cX8_weakest, 3, (some .int), 1, false), (8, yX8_least, cX8_least, 1, (some .int), 1, false), (8, yX8_greatest, cX8_greatest, 3, (some .int), 1, false), (8, yX8_spreadNow, cX8_spreadNow, 1, (some .int), 1, false), (8, yX8_all, cX8_all, 4, (some .int), 2, false), (8, yX8_weakestNow, cX8_weakestNow, 1, (some .int), 1, false), (8, yX8_leastNow, cX8_leastNow, 2, (some .int), 2, false), (8, yX8_rule, cX8_rule, 2, (some .int), 2, false), (8, yX8_rankOf, cX8_rankOf, 4, (some .int), 2, false), (8, yX8_cell, cX8_cell, 3, (some .int), 3, false), (8, yX8_strongest, cX8_strongest, 4, (some .int), 2, false), (8, yX8_cellsOf, cX8_cellsOf, 5, (some .int), 3, false), (8, yX8_aboveFloor, cX8_aboveFloor, 4, (some .int), 2, false), (8, yX8_sumOf, cX8_sumOf, 2, (some .int), 2, false), (8, yX8_group, cX8_group, 3, (some .int), 3, false), (8, yX8_findTurns, cX8_findTurns, 2, none, 1, false), (8, yX8_findWeakest, cX8_findWeakest, 4, none, 1, false), (8, yX8_holds, cX8_holds, 4, (some .int), 2, false), (8, yX8_isAhead, cX8_isAhead, 5, (some .boolean), 3, false), (8, yX8_differenceOf, cX8_differenceOf, 2, (some .int), 2, false), (8, yX8_widest, cX8_widest, 4, (some .int), 2, false), (8, yX8_order, cX8_order, 6, none, 2, false), (8, yX8_join, cX8_join, 6, none, 3, false), (8, yX8_findDifferences, cX8_findDifferences, 4, none, 1, false), (8, yX8_steps, cX8_steps, 4, (some .boolean), 1, false), (8, yX8_findBest, cX8_findBest, 5, none, 1, false), (8, yX8_find, cX8_find, 2, none, 2, false), (8, yX8_takeFound, cX8_takeFound, 2, none, 1, false), (8, yX8_byTurns, cX8_byTurns, 1, none, 1, false), (8, yX8_isWay, cX8_isWay, 2, (some .boolean), 2, false), (8, yX8_isTooMuch, cX8_isTooMuch, 2, (some .boolean), 2, false), (8, yX8_take, cX8_take, 2, (some .int), 2, false), (8, yX8_moved, cX8_moved, 3, (some .int), 1, false), (8, yX8_would, cX8_would, 3, (some .int), 3, false), (8, yX8_where, cX8_where, 3, (some .int), 3, false), (8, yX8_boundNow, cX8_boundNow, 1, (some .int), 1, false), (8, yX8_reaching, cX8_reaching, 3, (some .int), 1, false), (8, yX8_bound, cX8_bound, 2, (some .int), 2, false), (8, yX8_joined, cX8_joined, 2, (some .int), 2, false), (8, yX8_move, cX8_move, 4, (some .int), 3, false), (8, yX8_exchange, cX8_exchange, 4, none, 3, false), (8, yX8_swap, cX8_swap, 3, (some .int), 3, false), (8, yX8_better, cX8_better, 5, (some .int), 1, false), (8, yX8_comes, cX8_comes, 4, none, 2, false), (8, yX8_add, cX8_add, 2, (some .int), 2, false), (8, yX8_drop, cX8_drop, 3, (some .int), 2, false), (8, yX8_set, cX8_set, 4, (some .int), 3, false), (8, yX8_rate, cX8_rate, 4, (some .int), 3, false), (8, yX8_groups, cX8_groups, 3, (some .int), 2, false), (8, yX8_ticks, cX8_ticks, 6, (some .boolean), 1, false), (8, yX8_ticksOn, cX8_ticksOn, 3, (some .int), 2, false), (8, yX8_bleed, cX8_bleed, 2, (some .int), 2, false), (8, yX8_plan, cX8_plan, 6, (some .int), 2, false), (8, yX8_fill, cX8_fill, 3, (some .int), 1, false), (8, yX8_draw, cX8_draw, 5, (some .int), 3, false), (8, yX8_keepBefore, cX8_keepBefore, 2, none, 1, false), (8, yX8_backBefore, cX8_backBefore, 2, none, 1, false), (8, yX8_keep, cX8_keep, 4, (some .int), 2, false), (8, yX8_back, cX8_back, 3, (some .int), 2, false), (8, yX8_isSheet, cX8_isSheet, 2, (some .boolean), 2, true), (8, yX8_sheet, cX8_sheet, 5, (some .int), 4, false), (8, yX8_lay, cX8_lay, 4, (some .int), 4, false), (8, yX8_read, cX8_read, 11, (some .int), 5, false), (8, yX8_torn, cX8_torn, 1, (some .int), 1, false), (8, yX8_emptyGroups, cX8_emptyGroups, 3, (some .int), 1, false), (8, yX8_bledCells, cX8_bledCells, 3, (some .int), 1, false), (8, yX8_greatestCharge, cX8_greatestCharge, 3, (some .int), 1, false), (8, yX8_count, cX8_count, 2, (some .int), 2, false), (10, yJ6_bitCount_0f7a4, cJ6_bitCount_0f7a4, 1, (some .int), 1, true), (9, yJ7_fill_53178, cJ7_fill_53178, 4, none, 2, true)]
theorem tbe_0 : TBS[0]? = some tb_0 := rfl
theorem tbe_1 : TBS[1]? = some tb_1 := rfl
theorem tbe_2 : TBS[2]? = some tb_2 := rfl
theorem tbe_3 : TBS[3]? = some tb_3 := rfl
theorem tbe_4 : TBS[4]? = some tb_4 := rfl
theorem tbe_5 : TBS[5]? = some tb_5 := rfl
theorem tbe_6 : TBS[6]? = some tb_6 := rfl
theorem tbe_7 : TBS[7]? = some tb_7 := rfl
theorem tbe_8 : TBS[8]? = some tb_8 := rfl
theorem tbe_9 : TBS[9]? = some tb_9 := rfl
theorem tbe_10 : TBS[10]? = some tb_10 := rfl
theorem tbe_11 : TBS[11]? = some tb_11 := rfl
theorem tbe_12 : TBS[12]? = some tb_12 := rfl
theorem tbe_13 : TBS[13]? = some tb_13 := rfl
theorem tbe_14 : TBS[14]? = some tb_14 := rfl
theorem tbe_15 : TBS[15]? = some tb_15 := rfl
theorem tbe_16 : TBS[16]? = some tb_16 := rfl
theorem tbe_17 : TBS[17]? = some tb_17 := rfl
theorem tbe_18 : TBS[18]? = some tb_18 := rfl
theorem tbe_19 : TBS[19]? = some tb_19 := rfl
theorem tbe_20 : TBS[20]? = some tb_20 := rfl
theorem tbe_21 : TBS[21]? = some tb_21 := rfl
theorem tbe_22 : TBS[22]? = some tb_22 := rfl
theorem tbe_23 : TBS[23]? = some tb_23 := rfl
theorem tbe_24 : TBS[24]? = some tb_24 := rfl
theorem tbe_25 : TBS[25]? = some tb_25 := rfl
theorem tbe_26 : TBS[26]? = some tb_26 := rfl
theorem tbe_27 : TBS[27]? = some tb_27 := rfl
theorem tbe_28 : TBS[28]? = some tb_28 := rfl
theorem tbe_29 : TBS[29]? = some tb_29 := rfl
theorem tbe_30 : TBS[30]? = some tb_30 := rfl
theorem tbe_31 : TBS[31]? = some tb_31 := rfl
theorem tbe_32 : TBS[32]? = some tb_32 := rfl
theorem tbe_33 : TBS[33]? = some tb_33 := rfl
theorem tbe_34 : TBS[34]? = some tb_34 := rfl
theorem tbe_35 : TBS[35]? = some tb_35 := rfl
theorem tbe_36 : TBS[36]? = some tb_36 := rfl
theorem tbe_37 : TBS[37]? = some tb_37 := rfl
theorem tbe_38 : TBS[38]? = some tb_38 := rfl
theorem tbe_39 : TBS[39]? = some tb_39 := rfl
theorem tbe_40 : TBS[40]? = some tb_40 := rfl
theorem tbe_41 : TBS[41]? = some tb_41 := rfl
theorem tbe_42 : TBS[42]? = some tb_42 := rfl
theorem tbe_43 : TBS[43]? = some tb_43 := rfl
theorem tbe_44 : TBS[44]? = some tb_44 := rfl
theorem tbe_45 : TBS[45]? = some tb_45 := rfl
theorem tbe_46 : TBS[46]? = some tb_46 := rfl
theorem tbe_47 : TBS[47]? = some tb_47 := rfl
theorem tbe_48 : TBS[48]? = some tb_48 := rfl
theorem tbe_49 : TBS[49]? = some tb_49 := rfl
theorem tbe_50 : TBS[50]? = some tb_50 := rfl
theorem tbe_51 : TBS[51]? = some tb_51 := rfl
theorem tbe_52 : TBS[52]? = some tb_52 := rfl
theorem tbe_53 : TBS[53]? = some tb_53 := rfl
theorem tbe_54 : TBS[54]? = some tb_54 := rfl
theorem tbe_55 : TBS[55]? = some tb_55 := rfl
theorem tbe_56 : TBS[56]? = some tb_56 := rfl
theorem tbe_57 : TBS[57]? = some tb_57 := rfl
theorem tbe_58 : TBS[58]? = some tb_58 := rfl
theorem tbe_59 : TBS[59]? = some tb_59 := rfl
theorem tbe_60 : TBS[60]? = some tb_60 := rfl
theorem tbe_61 : TBS[61]? = some tb_61 := rfl
theorem tbe_62 : TBS[62]? = some tb_62 := rfl
theorem tbe_63 : TBS[63]? = some tb_63 := rfl
theorem tbe_64 : TBS[64]? = some tb_64 := rfl
theorem tbe_65 : TBS[65]? = some tb_65 := rfl
theorem tbe_66 : TBS[66]? = some tb_66 := rfl
theorem tbe_67 : TBS[67]? = some tb_67 := rfl
theorem tbe_68 : TBS[68]? = some tb_68 := rfl
theorem tbe_69 : TBS[69]? = some tb_69 := rfl
theorem tbe_70 : TBS[70]? = some tb_70 := rfl
theorem tbe_71 : TBS[71]? = some tb_71 := rfl
theorem tbe_72 : TBS[72]? = some tb_72 := rfl
theorem tbe_73 : TBS[73]? = some tb_73 := rfl
theorem tbe_74 : TBS[74]? = some tb_74 := rfl
theorem tbe_75 : TBS[75]? = some tb_75 := rfl
theorem tbe_76 : TBS[76]? = some tb_76 := rfl
theorem tbe_77 : TBS[77]? = some tb_77 := rfl
theorem tbe_78 : TBS[78]? = some tb_78 := rfl
theorem tbe_79 : TBS[79]? = some tb_79 := rfl
theorem tbe_80 : TBS[80]? = some tb_80 := rfl
theorem tbe_81 : TBS[81]? = some tb_81 := rfl
theorem tbe_82 : TBS[82]? = some tb_82 := rfl
theorem tbe_83 : TBS[83]? = some tb_83 := rfl
theorem tbe_84 : TBS[84]? = some tb_84 := rfl
theorem tbe_85 : TBS[85]? = some tb_85 := rfl
theorem tbe_86 : TBS[86]? = some tb_86 := rfl
theorem tbe_87 : TBS[87]? = some tb_87 := rfl
theorem tbe_88 : TBS[88]? = some tb_88 := rfl
theorem tbe_89 : TBS[89]? = some tb_89 := rfl
theorem tbe_90 : TBS[90]? = some tb_90 := rfl
theorem tbe_91 : TBS[91]? = some tb_91 := rfl
theorem tbe_92 : TBS[92]? = some tb_92 := rfl
theorem tbe_93 : TBS[93]? = some tb_93 := rfl
theorem tbe_94 : TBS[94]? = some tb_94 := rfl
theorem tbe_95 : TBS[95]? = some tb_95 := rfl
theorem tbe_96 : TBS[96]? = some tb_96 := rfl
theorem tbe_97 : TBS[97]? = some tb_97 := rfl
theorem tbe_98 : TBS[98]? = some tb_98 := rfl
theorem tbe_99 : TBS[99]? = some tb_99 := rfl
theorem tbe_100 : TBS[100]? = some tb_100 := rfl
theorem tbe_101 : TBS[101]? = some tb_101 := rfl
theorem tbe_102 : TBS[102]? = some tb_102 := rfl
theorem tbe_103 : TBS[103]? = some tb_103 := rfl
theorem tbe_104 : TBS[104]? = some tb_104 := rfl
theorem tbe_105 : TBS[105]? = some tb_105 := rfl
theorem tbe_106 : TBS[106]? = some tb_106 := rfl
theorem tbe_107 : TBS[107]? = some tb_107 := rfl
theorem tbe_108 : TBS[108]? = some tb_108 := rfl
theorem tbe_109 : TBS[109]? = some tb_109 := rfl
theorem tbe_110 : TBS[110]? = some tb_110 := rfl
theorem tbe_111 : TBS[111]? = some tb_111 := rfl
theorem tbe_112 : TBS[112]? = some tb_112 := rfl
theorem tbe_113 : TBS[113]? = some tb_113 := rfl
theorem tbe_114 : TBS[114]? = some tb_114 := rfl
theorem tbe_115 : TBS[115]? = some tb_115 := rfl
theorem tbe_116 : TBS[116]? = some tb_116 := rfl
theorem tbe_117 : TBS[117]? = some tb_117 := rfl
theorem tbe_118 : TBS[118]? = some tb_118 := rfl
theorem tbe_119 : TBS[119]? = some tb_119 := rfl
theorem tbe_120 : TBS[120]? = some tb_120 := rfl
theorem tbe_121 : TBS[121]? = some tb_121 := rfl
theorem tbe_122 : TBS[122]? = some tb_122 := rfl
theorem tbe_123 : TBS[123]? = some tb_123 := rfl
theorem tbe_124 : TBS[124]? = some tb_124 := rfl
theorem tbe_125 : TBS[125]? = some tb_125 := rfl
theorem tbe_126 : TBS[126]? = some tb_126 := rfl
theorem tbe_127 : TBS[127]? = some tb_127 := rfl
theorem tbe_128 : TBS[128]? = some tb_128 := rfl
theorem tbe_129 : TBS[129]? = some tb_129 := rfl
theorem tbe_130 : TBS[130]? = some tb_130 := rfl
theorem tbe_131 : TBS[131]? = some tb_131 := rfl
theorem tbe_132 : TBS[132]? = some tb_132 := rfl
theorem tbe_133 : TBS[133]? = some tb_133 := rfl
theorem tbe_134 : TBS[134]? = some tb_134 := rfl
theorem tbe_135 : TBS[135]? = some tb_135 := rfl
theorem tbe_136 : TBS[136]? = some tb_136 := rfl
theorem tbe_137 : TBS[137]? = some tb_137 := rfl
theorem tbe_138 : TBS[138]? = some tb_138 := rfl
theorem tbe_139 : TBS[139]? = some tb_139 := rfl
theorem tbe_140 : TBS[140]? = some tb_140 := rfl
theorem tbe_141 : TBS[141]? = some tb_141 := rfl
theorem tbe_142 : TBS[142]? = some tb_142 := rfl
theorem tbe_143 : TBS[143]? = some tb_143 := rfl
theorem tbe_144 : TBS[144]? = some tb_144 := rfl
theorem tbe_145 : TBS[145]? = some tb_145 := rfl
theorem tbe_146 : TBS[146]? = some tb_146 := rfl
theorem tbe_147 : TBS[147]? = some tb_147 := rfl
theorem tbe_148 : TBS[148]? = some tb_148 := rfl
theorem tbe_149 : TBS[149]? = some tb_149 := rfl
theorem tbe_150 : TBS[150]? = some tb_150 := rfl
theorem tbe_151 : TBS[151]? = some tb_151 := rfl
theorem tbe_152 : TBS[152]? = some tb_152 := rfl
theorem tbe_153 : TBS[153]? = some tb_153 := rfl
theorem tbe_154 : TBS[154]? = some tb_154 := rfl
theorem tbe_155 : TBS[155]? = some tb_155 := rfl
theorem tbe_156 : TBS[156]? = some tb_156 := rfl
theorem tbe_157 : TBS[157]? = some tb_157 := rfl
theorem tbe_158 : TBS[158]? = some tb_158 := rfl
theorem tbe_159 : TBS[159]? = some tb_159 := rfl
theorem tbe_160 : TBS[160]? = some tb_160 := rfl
theorem tbe_161 : TBS[161]? = some tb_161 := rfl
theorem tbe_162 : TBS[162]? = some tb_162 := rfl
theorem tbe_163 : TBS[163]? = some tb_163 := rfl
theorem tbe_164 : TBS[164]? = some tb_164 := rfl
theorem tbe_165 : TBS[165]? = some tb_165 := rfl
theorem tbe_166 : TBS[166]? = some tb_166 := rfl
theorem tbe_167 : TBS[167]? = some tb_167 := rfl
theorem tbe_168 : TBS[168]? = some tb_168 := rfl
theorem tbe_169 : TBS[169]? = some tb_169 := rfl
theorem tbe_170 : TBS[170]? = some tb_170 := rfl
theorem tbe_171 : TBS[171]? = some tb_171 := rfl
theorem tbe_172 : TBS[172]? = some tb_172 := rfl
theorem tbe_173 : TBS[173]? = some tb_173 := rfl
theorem tbe_174 : TBS[174]? = some tb_174 := rfl
theorem tbe_175 : TBS[175]? = some tb_175 := rfl
theorem tbe_176 : TBS[176]? = some tb_176 := rfl
theorem tbe_177 : TBS[177]? = some tb_177 := rfl
theorem tbe_178 : TBS[178]? = some tb_178 := rfl
theorem tbe_179 : TBS[179]? = some tb_179 := rfl
theorem tbe_180 : TBS[180]? = some tb_180 := rfl
theorem tbe_181 : TBS[181]? = some tb_181 := rfl
theorem tbe_182 : TBS[182]? = some tb_182 := rfl
theorem tbe_183 : TBS[183]? = some tb_183 := rfl
theorem tbe_184 : TBS[184]? = some tb_184 := rfl
theorem tbe_185 : TBS[185]? = some tb_185 := rfl
theorem tbe_186 : TBS[186]? = some tb_186 := rfl
theorem tbe_187 : TBS[187]? = some tb_187 := rfl
theorem tbe_188 : TBS[188]? = some tb_188 := rfl
theorem tbe_189 : TBS[189]? = some tb_189 := rfl
theorem tbe_190 : TBS[190]? = some tb_190 := rfl
theorem tbe_191 : TBS[191]? = some tb_191 := rfl
theorem tbe_192 : TBS[192]? = some tb_192 := rfl
theorem tbe_193 : TBS[193]? = some tb_193 := rfl
theorem tbe_194 : TBS[194]? = some tb_194 := rfl
theorem tbe_195 : TBS[195]? = some tb_195 := rfl
theorem tbe_196 : TBS[196]? = some tb_196 := rfl
end
section
/-! the abstract machine: what an instruction does -/
abbrev SHP : Type := (Nat × Nat) ⊕ ((Nat × List Nat) ⊕ (Nat × List (Option Nat)))
abbrev RS : Type := Option (AS ⊕ (Option AV × Mem))
abbrev inR (z : Int) : Prop := -2147483648 ≤ z ∧ z < 2147483648
abbrev inR64 (z : Int) : Prop := -9223372036854775808 ≤ z ∧ z < 9223372036854775808
def upI (f : Int → Int) (i v : Int) : Int → Int := fun j => if j = i then v else f j
def setC (M : Mem) (c : Nat) (g : Int → Int) : Mem := fun d => if d = c then g else M d
def wr (M : Mem) (c : Nat) (i v : Int) : Mem := setC M c (upI (M c) i v)
def cpI (f g : Int → Int) (sp dp n : Int) : Int → Int := fun k => if dp ≤ k ∧ k < dp + n then f (sp + (k - dp)) else g k
def iAnd (x y : Int) : Int := (Int32.ofInt x &&& Int32.ofInt y).toInt
def iOr (x y : Int) : Int := (Int32.ofInt x ||| Int32.ofInt y).toInt
/-- numbers of two ints -/
def bin2 (i : Instr) (x y : Int) : Option Int := match i with
  | .iadd => some (x + y)
  | .isub => some (x - y)
  | .imul => some (x * y)
  | .iand => some (iAnd x y)
  | .ior => some (iOr x y)
  | .idiv => if 0 ≤ x ∧ x < 2147483648 ∧ 0 < y ∧ y < 2147483648 then some (x / y) else none
  | .irem => if 0 ≤ x ∧ x < 2147483648 ∧ 0 < y ∧ y < 2147483648 then some (x % y) else none
  | .ishl => if 0 ≤ y ∧ y < 32 then some (x * 2 ^ y.toNat) else none
  | .ishr => if 0 ≤ y ∧ y < 32 then some (x.bmod 4294967296 / 2 ^ y.toNat) else none
  | .iushr => if 0 ≤ y ∧ y < 32 then some (x % 4294967296 / 2 ^ y.toNat) else none
  | _ => none
/-- numbers of one int -/
def un1 (i : Instr) (x : Int) : Option Int := match i with
  | .ineg => some (-x)
  | .i2b => some (x.bmod 256)
  | .i2s => some (x.bmod 65536)
  | _ => none
/-- a comparison holds -/
def cmpB (c : ClassFile.Cond) (x y : Int) : Bool := match c with
  | .eq => decide (x = y)
  | .ne => decide (x ≠ y)
  | .lt => decide (x < y)
  | .ge => decide (y ≤ x)
  | .gt => decide (y < x)
  | .le => decide (x ≤ y)
def isLg : Option AV → Bool
  | some (.inr (.inl _)) => true
  | _ => false
def clr (L : LVs) : Nat → LVs
  | 0 => L
  | j + 1 => match isLg (L.getD j none) with
    | true => L.set j none
    | false => L
def st1 (L : LVs) (i : Nat) (v : AV) : LVs := (clr L i).set i (some v)
def st2 (L : LVs) (i : Nat) (v : AV) : LVs := ((clr L i).set (i + 1) none).set i (some v)
def ldI (L : LVs) (i : Nat) : Option Int := match L.getD i none with
  | some (.inl x) => some x
  | _ => none
def ldJ (L : LVs) (i : Nat) : Option Int := match L.getD i none with
  | some (.inr (.inl x)) => some x
  | _ => none
def ldR (L : LVs) (i : Nat) : Option Nat := match L.getD i none with
  | some (.inr (.inr x)) => some x
  | _ => none
def catA : AV → Nat
  | .inr (.inl _) => 2
  | _ => 1
def catS (S : List AV) : Nat := (S.map catA).sum
def jmp (pc : Nat) (off : Int) : Nat := ((pc : Int) + off).toNat
def tswT (pc : Nat) (d lo hi : Int) (os : Array Int) (x : Int) : Option Nat :=
  if x < lo ∨ hi < x then some (jmp pc d) else (os[(x - lo).toNat]?).map (jmp pc)
def lswT (pc : Nat) (d : Int) (ps : Array (Int × Int)) (x : Int) : Nat := jmp pc (Op.lookupswitch.offset ps.toList d x)
end
section
/-- the cells of the world, by number -/
def SH : List SHP := [.inr (.inr (7, [some 1, some 3, some 8, some 23, some 24, some 25, some 26, some 71, none, none])), .inr (.inr (4, [some 2, none])), .inl (1, 160), .inr (.inr (2, [some 4, some 5, some 6, some 7, none, none, none, none, none])), .inl (0, 16), .inl (0, 16), .inl (0, 16), .inl (0, 5), .inr (.inr (2, [some 9, some 10, some 11, some 12, none, none, none, none, none])), .inl (0, 16), .inl (0, 16), .inl (0, 16), .inl (0, 5), .inr (.inr (2, [some 14, some 15, some 16, some 17, none, none, none, none, none])), .inl (0, 16), .inl (0, 16), .inl (0, 16), .inl (0, 5), .inr (.inr (2, [some 19, some 20, some 21, some 22, none, none, none, none, none])), .inl (0, 16), .inl (0, 16), .inl (0, 16), .inl (0, 5), .inr (.inr (5, [some 1, some 8, none, none, none, none, none, none, none])), .inr (.inl (3, [13, 18])), .inl (2, 2), .inr (.inr (6, [some 27, some 28, some 29, some 30, some 67])), .inl (0, 16), .inl (0, 5), .inl (0, 16), .inr (.inr (1, [some 31, some 48, some 65, some 66, none, none, none])), .inr (.inl (5, [32, 33, 34, 35, 36, 37, 38, 39, 40, 41, 42, 43, 44, 45, 46, 47])), .inl (0, 5), .inl (0, 5), .inl (0, 5), .inl (0, 5), .inl (0, 5), .inl (0, 5), .inl (0, 5), .inl (0, 5), .inl (0, 5), .inl (0, 5), .inl (0, 5), .inl (0, 5), .inl (0, 5), .inl (0, 5), .inl (0, 5), .inl (0, 5), .inr (.inl (5, [49, 50, 51, 52, 53, 54, 55, 56, 57, 58, 59, 60, 61, 62, 63, 64])), .inl (0, 5), .inl (0, 5), .inl (0, 5), .inl (0, 5), .inl (0, 5), .inl (0, 5), .inl (0, 5), .inl (0, 5), .inl (0, 5), .inl (0, 5), .inl (0, 5), .inl (0, 5), .inl (0, 5), .inl (0, 5), .inl (0, 5), .inl (0, 5), .inl (2, 16), .inl (0, 16), .inr (.inr (0, [some 68, some 69, some 70, none, none])), .inl (0, 16), .inl (0, 16), .inl (0, 5), .inr (.inl (4, [72, 74, 76, 78])), .inr (.inr (3, [some 73, none, none])), .inl (0, 40), .inr (.inr (3, [some 75, none, none])), .inl (0, 40), .inr (.inr (3, [some 77, none, none])), .inl (0, 40), .inr (.inr (3, [some 79, none, none])), .inl (0, 40), .inr (.inr (8, [some 81, some 82, some 83, some 84, some 85, some 86, some 87, none, none, none, none, none, none, none, some 88, some 89, some 90, some 91, some 92, some 93, some 94, none, some 95, some 96, some 97, none])), .inl (0, 53), .inl (0, 106), .inl (2, 2), .inl (0, 53), .inl (0, 53), .inl (0, 160), .inl (2, 5), .inl (0, 5), .inl (0, 16), .inl (0, 80), .inl (2, 16), .inl (0, 16), .inl (0, 16), .inl (0, 16), .inl (0, 4), .inl (0, 4), .inl (0, 160)]
/-- field links: the own class, the pool index, class and slot of the field, 1: by the nest -/
def FLT : List (Nat × Nat × Nat × Nat × Int) := [(0, 28, 2, 4, 1), (0, 18, 0, 2, 0), (0, 21, 0, 3, 0), (0, 25, 0, 4, 0), (0, 39, 2, 0, 1), (0, 15, 0, 1, 0), (0, 60, 2, 5, 1), (0, 9, 0, 0, 0), (1, 31, 1, 5, 0), (1, 48, 2, 4, 1), (1, 51, 2, 5, 1), (1, 34, 1, 6, 0), (1, 27, 1, 4, 0), (1, 11, 1, 0, 0), (1, 16, 1, 1, 0), (1, 58, 2, 0, 1), (1, 19, 1, 2, 0), (1, 23, 1, 3, 0), (2, 27, 2, 4, 0), (2, 31, 2, 5, 0), (2, 34, 2, 6, 0), (2, 37, 2, 7, 0), (2, 40, 2, 8, 0), (2, 9, 2, 0, 0), (2, 15, 2, 1, 0), (2, 18, 2, 2, 0), (2, 21, 2, 3, 0), (3, 15, 3, 1, 0), (3, 19, 3, 2, 0), (3, 9, 3, 0, 0), (4, 13, 4, 1, 0), (4, 9, 4, 0, 0), (5, 37, 5, 1, 0), (5, 9, 5, 2, 0), (5, 15, 5, 3, 0), (5, 24, 5, 6, 0), (5, 30, 5, 8, 0), (5, 18, 5, 4, 0), (5, 33, 5, 0, 0), (5, 21, 5, 5, 0), (5, 27, 5, 7, 0), (5, 102, 2, 5, 1), (5, 105, 2, 6, 1), (5, 107, 2, 7, 1), (5, 109, 2, 8, 1), (5, 111, 2, 4, 1), (5, 118, 4, 1, 1), (6, 24, 6, 3, 0), (6, 9, 6, 0, 0), (6, 31, 6, 4, 0), (6, 47, 2, 4, 1), (6, 53, 2, 5, 1), (6, 18, 6, 2, 0), (6, 15, 6, 1, 0), (6, 70, 2, 0, 1), (6, 84, 2, 2, 1), (7, 10, 7, 0, 0), (7, 68, 4, 1, 1), (7, 71, 4, 0, 1), (7, 31, 7, 3, 0), (7, 78, 5, 2, 1), (7, 57, 7, 8, 0), (7, 81, 5, 3, 1), (7, 19, 7, 1, 0), (7, 23, 7, 2, 0), (7, 95, 2, 4, 1), (7, 98, 2, 5, 1), (7, 101, 2, 6, 1), (7, 104, 2, 7, 1), (7, 107, 2, 8, 1), (7, 120, 2, 1, 1), (7, 128, 2, 0, 1), (7, 135, 2, 2, 1), (7, 46, 7, 6, 0), (7, 180, 6, 0, 1), (7, 189, 6, 3, 1), (7, 193, 1, 4, 1), (7, 198, 1, 3, 1), (7, 39, 7, 5, 0), (7, 35, 7, 4, 0), (7, 52, 7, 7, 0), (7, 246, 3, 0, 1), (7, 61, 7, 9, 0), (7, 258, 3, 1, 1), (7, 261, 3, 2, 1), (8, 53, 8, 22, 0), (8, 7, 8, 0, 0), (8, 23, 8, 4, 0), (8, 29, 8, 6, 0), (8, 71, 8, 7, 0), (8, 26, 8, 5, 0), (8, 75, 8, 12, 0), (8, 78, 8, 9, 0), (8, 81, 8, 13, 0), (8, 84, 8, 10, 0), (8, 87, 8, 8, 0), (8, 106, 8, 11, 0), (8, 16, 8, 2, 0), (8, 32, 8, 14, 0), (8, 35, 8, 15, 0), (8, 38, 8, 16, 0), (8, 41, 8, 17, 0), (8, 204, 8, 21, 0), (8, 44, 8, 18, 0), (8, 47, 8, 19, 0), (8, 50, 8, 20, 0), (8, 20, 8, 3, 0), (8, 13, 8, 1, 0), (8, 56, 8, 23, 0), (8, 59, 8, 24, 0), (8, 293, 8, 25, 0)]
/-- method links: the own class, the pool index, the method, 1: by the nest -/
def MLT : List (Nat × Nat × Nat × Int) := [(0, 33, 196, 0), (0, 42, 101, 1), (0, 46, 1, 0), (0, 50, 1002, 0), (0, 56, 3, 0), (0, 63, 2, 0), (0, 67, 1001, 0), (0, 73, 1000, 0), (0, 76, 103, 1), (0, 79, 104, 1), (1, 37, 5, 0), (1, 41, 6, 0), (1, 44, 12, 0), (1, 52, 196, 0), (1, 61, 7, 0), (1, 64, 1001, 0), (1, 70, 1000, 0), (1, 73, 9, 0), (1, 77, 8, 0), (1, 80, 10, 0), (1, 84, 11, 0), (2, 43, 1002, 0), (2, 49, 102, 1), (2, 53, 103, 1), (2, 57, 18, 0), (2, 61, 19, 0), (2, 64, 104, 1), (2, 67, 1000, 0), (2, 73, 24, 0), (2, 77, 31, 0), (2, 81, 32, 0), (2, 85, 25, 0), (3, 22, 196, 0), (3, 28, 89, 1), (3, 32, 1001, 0), (4, 17, 1003, 0), (4, 22, 37, 0), (4, 26, 1004, 0), (5, 41, 13, 1), (5, 48, 40, 0), (5, 52, 48, 0), (5, 55, 41, 0), (5, 59, 51, 0), (5, 63, 47, 0), (5, 66, 43, 0), (5, 69, 42, 0), (5, 73, 38, 1), (5, 87, 44, 0), (5, 91, 45, 0), (5, 94, 89, 1), (5, 98, 46, 0), (5, 114, 15, 1), (5, 121, 37, 1), (5, 124, 49, 0), (5, 127, 50, 0), (6, 35, 54, 0), (6, 39, 4, 1), (6, 43, 0, 1), (6, 44, 53, 0), (6, 56, 23, 1), (6, 60, 196, 0), (6, 66, 103, 1), (6, 73, 102, 1), (6, 77, 55, 0), (6, 81, 104, 1), (7, 64, 89, 0), (7, 75, 39, 1), (7, 84, 14, 1), (7, 88, 97, 0), (7, 92, 99, 0), (7, 110, 18, 1), (7, 114, 19, 1), (7, 117, 21, 1), (7, 124, 101, 0), (7, 131, 90, 0), (7, 138, 23, 1), (7, 142, 91, 0), (7, 145, 17, 1), (7, 148, 24, 1), (7, 151, 195, 0), (7, 156, 25, 1), (7, 159, 26, 1), (7, 162, 92, 0), (7, 165, 93, 0), (7, 168, 52, 1), (7, 172, 55, 1), (7, 175, 56, 1), (7, 177, 57, 1), (7, 183, 20, 1), (7, 186, 98, 0), (7, 201, 22, 1), (7, 205, 15, 1), (7, 209, 16, 1), (7, 212, 30, 1), (7, 215, 1002, 0), (7, 221, 1001, 0), (7, 227, 94, 0), (7, 230, 95, 0), (7, 233, 96, 0), (7, 236, 33, 1), (7, 239, 34, 1), (7, 242, 35, 1), (7, 249, 36, 1), (7, 252, 100, 0), (7, 255, 27, 1), (7, 262, 28, 1), (7, 265, 29, 1), (7, 268, 196, 0), (7, 274, 1000, 0), (8, 62, 108, 0), (8, 67, 106, 0), (8, 90, 112, 0), (8, 94, 113, 0), (8, 109, 111, 0), (8, 113, 115, 0), (8, 116, 118, 0), (8, 120, 114, 0), (8, 124, 119, 0), (8, 127, 116, 0), (8, 130, 117, 0), (8, 133, 120, 0), (8, 136, 155, 0), (8, 139, 127, 0), (8, 142, 125, 0), (8, 146, 129, 0), (8, 149, 128, 0), (8, 152, 132, 0), (8, 155, 133, 0), (8, 158, 130, 0), (8, 161, 131, 0), (8, 164, 107, 0), (8, 168, 123, 0), (8, 172, 135, 0), (8, 175, 124, 0), (8, 178, 140, 0), (8, 181, 138, 0), (8, 185, 137, 0), (8, 188, 139, 0), (8, 191, 144, 0), (8, 194, 146, 0), (8, 197, 145, 0), (8, 201, 148, 0), (8, 207, 147, 0), (8, 210, 149, 0), (8, 214, 126, 0), (8, 217, 151, 0), (8, 221, 142, 0), (8, 224, 143, 0), (8, 227, 150, 0), (8, 230, 152, 0), (8, 233, 154, 0), (8, 238, 156, 0), (8, 241, 157, 0), (8, 244, 153, 0), (8, 249, 159, 0), (8, 252, 162, 0), (8, 255, 163, 0), (8, 258, 167, 0), (8, 263, 170, 0), (8, 268, 176, 0), (8, 273, 177, 0), (8, 276, 182, 0), (8, 279, 183, 0), (8, 285, 186, 0), (8, 290, 166, 0), (8, 296, 191, 0), (8, 299, 192, 0), (8, 302, 193, 0)]
def FPT : List (Nat × Nat × Nat × Nat × Int) := [(0, 21, 0, 3, 0), (0, 25, 0, 4, 0), (1, 31, 1, 5, 0), (1, 34, 1, 6, 0), (1, 27, 1, 4, 0), (2, 27, 2, 4, 0), (2, 31, 2, 5, 0), (2, 34, 2, 6, 0), (2, 37, 2, 7, 0), (2, 40, 2, 8, 0), (3, 15, 3, 1, 0), (3, 19, 3, 2, 0), (5, 9, 5, 2, 0), (5, 15, 5, 3, 0), (5, 24, 5, 6, 0), (5, 30, 5, 8, 0), (5, 18, 5, 4, 0), (5, 21, 5, 5, 0), (5, 27, 5, 7, 0), (5, 102, 2, 5, 1), (5, 105, 2, 6, 1), (5, 107, 2, 7, 1), (5, 109, 2, 8, 1), (7, 68, 4, 1, 1), (7, 57, 7, 8, 0), (7, 98, 2, 5, 1), (7, 101, 2, 6, 1), (7, 104, 2, 7, 1), (7, 107, 2, 8, 1), (7, 61, 7, 9, 0), (8, 71, 8, 7, 0), (8, 75, 8, 12, 0), (8, 78, 8, 9, 0), (8, 81, 8, 13, 0), (8, 84, 8, 10, 0), (8, 87, 8, 8, 0), (8, 106, 8, 11, 0), (8, 204, 8, 21, 0), (8, 293, 8, 25, 0)]
def CIT : List (Nat × Nat × Int) := [(7, 226, 1103515245), (8, 284, 1103515245), (10, 265, 1431655765), (10, 266, 858993459), (10, 267, 252645135)]
def CLT : List (Nat × Nat × Int) := [(8, 65, 127), (8, 98, 97), (8, 100, 122), (8, 102, 48), (8, 104, 57), (8, 236, 3), (8, 247, 2), (8, 261, 999), (8, 266, 5), (8, 271, 200), (8, 282, 16), (8, 288, 20)]
def SRT : List (Nat × Nat × Nat) := [(5, 77, 100), (5, 79, 101), (5, 81, 102), (5, 83, 103), (5, 85, 104)]
def STT : List (List Int) := [[103, 114, 111, 117, 112, 115], [99, 101, 108, 108, 115], [102, 108, 111, 111, 114], [114, 97, 116, 101], [115, 108, 97, 99, 107]]
end
section
/-! the abstract machine: one instruction, a run -/
def shp (i : Nat) : Option SHP := SH[i]?
/-- an int-like array of kind t -/
def arrN (t c : Nat) : Option Nat := match shp c with
  | some (.inl (u, n)) => if u = t then some n else none
  | _ => none
/-- byte or boolean -/
def arrB (c : Nat) : Option (Nat × Nat) := match shp c with
  | some (.inl (u, n)) => if u = 1 ∨ u = 2 then some (u, n) else none
  | _ => none
def refA (c : Nat) : Option (List Nat) := match shp c with
  | some (.inr (.inl (_, ts))) => some ts
  | _ => none
/-- slot k of an object of class ci: a cell, or an int -/
def fldA (c ci k : Nat) : Option (Option Nat) := match shp c with
  | some (.inr (.inr (u, fs))) => if u = ci then fs[k]? else none
  | _ => none
def clsA (c : Nat) : Option Nat := match shp c with
  | some (.inr (.inr (u, _))) => some u
  | _ => none
/-- the library's own methods -/
def prm (k : Nat) (nx : Nat) (L : LVs) (S : List AV) (M : Mem) : RS := match k with
  | 0 => match S with
    | .inl y :: .inl x :: r => if inR x ∧ inR y ∧ catS r ≤ 8 then some (.inl (nx, L, .inl (if x < y then y else x) :: r, M)) else none
    | _ => none
  | 1 => match S with
    | .inl y :: .inl x :: r => if inR x ∧ inR y ∧ catS r ≤ 8 then some (.inl (nx, L, .inl (if y < x then y else x) :: r, M)) else none
    | _ => none
  | 2 => match S with
    | .inl n :: .inl dp :: .inr (.inr c) :: .inl sp :: .inr (.inr d) :: r => match arrN 0 c, arrN 0 d with
      | some nc, some nd => if 0 ≤ n ∧ 0 ≤ dp ∧ 0 ≤ sp ∧ sp + n ≤ nd ∧ dp + n ≤ nc ∧ (nc < 2147483648 ∧ nd < 2147483648) ∧ catS r ≤ 8 then some (.inl (nx, L, r, setC M c (cpI (M d) (M c) sp dp n))) else none
      | _, _ => none
    | _ => none
  | 3 => match S with
    | .inr (.inr i) :: r => match STT[i - 100]? with
      | some t => if 100 ≤ i ∧ catS r ≤ 8 then some (.inl (nx, L, .inl t.length :: r, M)) else none
      | none => none
    | _ => none
  | 4 => match S with
    | .inl k :: .inr (.inr i) :: r => match STT[i - 100]? with
      | some t => if 100 ≤ i ∧ 0 ≤ k ∧ k < t.length ∧ catS r ≤ 8 then some (.inl (nx, L, .inl (t.getD k.toNat 0) :: r, M)) else none
      | none => none
    | _ => none
  | _ => none
def stp (e : EN) (st : AS) : RS := match st, e with
  | (pc, L, S, M), (_, ins, nx, a, b, z) => match ins with
    | .iconst _ => some (.inl (nx, L, .inl z :: S, M))
    | .bipush _ => some (.inl (nx, L, .inl z :: S, M))
    | .sipush _ => some (.inl (nx, L, .inl z :: S, M))
    | .ldc _ => match b with
      | 0 => some (.inl (nx, L, .inl z :: S, M))
      | _ => some (.inl (nx, L, .inr (.inr a) :: S, M))
    | .ldc_w _ => some (.inl (nx, L, .inl z :: S, M))
    | .lconst _ => some (.inl (nx, L, .inr (.inl z) :: S, M))
    | .ldc2_w _ => some (.inl (nx, L, .inr (.inl z) :: S, M))
    | .iload k => (ldI L k).map fun x => .inl (nx, L, .inl x :: S, M)
    | .iload_n k => (ldI L k.val).map fun x => .inl (nx, L, .inl x :: S, M)
    | .lload k => (ldJ L k).map fun x => .inl (nx, L, .inr (.inl x) :: S, M)
    | .lload_n k => (ldJ L k.val).map fun x => .inl (nx, L, .inr (.inl x) :: S, M)
    | .aload k => (ldR L k).map fun x => .inl (nx, L, .inr (.inr x) :: S, M)
    | .aload_n k => (ldR L k.val).map fun x => .inl (nx, L, .inr (.inr x) :: S, M)
    | .istore k => match S with
      | .inl x :: r => if k < L.length then some (.inl (nx, st1 L k (.inl x), r, M)) else none
      | _ => none
    | .istore_n k => match S with
      | .inl x :: r => if k.val < L.length then some (.inl (nx, st1 L k.val (.inl x), r, M)) else none
      | _ => none
    | .lstore k => match S with
      | .inr (.inl x) :: r => if k + 1 < L.length then some (.inl (nx, st2 L k (.inr (.inl x)), r, M)) else none
      | _ => none
    | .astore k => match S with
      | .inr (.inr x) :: r => if k < L.length then some (.inl (nx, st1 L k (.inr (.inr x)), r, M)) else none
      | _ => none
    | .astore_n k => match S with
      | .inr (.inr x) :: r => if k.val < L.length then some (.inl (nx, st1 L k.val (.inr (.inr x)), r, M)) else none
      | _ => none
    | .iinc k n => if k < L.length then (ldI L k).map fun x => .inl (nx, st1 L k (.inl (x + n)), S, M) else none
    | .dup => match S with
      | v :: r => if catA v = 1 then some (.inl (nx, L, v :: v :: r, M)) else none
      | _ => none
    | .dup2 => match S with
      | v :: w :: r => if catA v = 1 ∧ catA w = 1 then some (.inl (nx, L, v :: w :: v :: w :: r, M)) else none
      | _ => none
    | .pop => match S with
      | v :: r => if catA v = 1 then some (.inl (nx, L, r, M)) else none
      | _ => none
    | .i2l => match S with
      | .inl x :: r => if inR x then some (.inl (nx, L, .inr (.inl x) :: r, M)) else none
      | _ => none
    | .ladd => match S with
      | .inr (.inl y) :: .inr (.inl x) :: r => some (.inl (nx, L, .inr (.inl (x + y)) :: r, M))
      | _ => none
    | .lcmp => match S with
      | .inr (.inl y) :: .inr (.inl x) :: r => if inR64 x ∧ inR64 y then some (.inl (nx, L, .inl (if y < x then 1 else if x = y then 0 else -1) :: r, M)) else none
      | _ => none
    | .goto _ => some (.inl (a, L, S, M))
    | .ifCond c _ => match S with
      | .inl x :: r => if inR x then some (.inl (if cmpB c x 0 then a else nx, L, r, M)) else none
      | _ => none
    | .if_icmp c _ => match S with
      | .inl y :: .inl x :: r => if inR x ∧ inR y then some (.inl (if cmpB c x y then a else nx, L, r, M)) else none
      | _ => none
    | .tableswitch d lo hi os => match S with
      | .inl x :: r => if inR x then (tswT pc d lo hi os x).map fun t => .inl (t, L, r, M) else none
      | _ => none
    | .lookupswitch d ps => match S with
      | .inl x :: r => if inR x then some (.inl (lswT pc d ps x, L, r, M)) else none
      | _ => none
    | .arraylength => match S with
      | .inr (.inr c) :: r => match arrN 0 c with
        | some n => some (.inl (nx, L, .inl (n : Int) :: r, M))
        | none => none
      | _ => none
    | .iaload => match S with
      | .inl i :: .inr (.inr c) :: r => match arrN 0 c with
        | some n => if 0 ≤ i ∧ i < n ∧ n < 2147483648 then some (.inl (nx, L, .inl (M c i) :: r, M)) else none
        | none => none
      | _ => none
    | .baload => match S with
      | .inl i :: .inr (.inr c) :: r => match arrB c with
        | some (_, n) => if 0 ≤ i ∧ i < n ∧ n < 2147483648 then some (.inl (nx, L, .inl (M c i) :: r, M)) else none
        | none => none
      | _ => none
    | .aaload => match S with
      | .inl i :: .inr (.inr c) :: r => match refA c with
        | some ts => if 0 ≤ i ∧ i < ts.length ∧ ts.length < 2147483648 then (ts[i.toNat]?).map fun t => .inl (nx, L, .inr (.inr t) :: r, M) else none
        | none => none
      | _ => none
    | .iastore => match S with
      | .inl v :: .inl i :: .inr (.inr c) :: r => match arrN 0 c with
        | some n => if 0 ≤ i ∧ i < n ∧ n < 2147483648 then some (.inl (nx, L, r, wr M c i v)) else none
        | none => none
      | _ => none
    | .bastore => match S with
      | .inl v :: .inl i :: .inr (.inr c) :: r => match arrB c with
        | some (t, n) => if 0 ≤ i ∧ i < n ∧ n < 2147483648 ∧ (t = 1 ∧ -128 ≤ v ∧ v < 128 ∨ t = 2 ∧ (v = 0 ∨ v = 1)) then some (.inl (nx, L, r, wr M c i v)) else none
        | none => none
      | _ => none
    | .getfield _ => match S with
      | .inr (.inr c) :: r => match fldA c a b with
        | some (some t) => some (.inl (nx, L, .inr (.inr t) :: r, M))
        | some none => some (.inl (nx, L, .inl (M c (b : Int)) :: r, M))
        | none => none
      | _ => none
    | .putfield _ => match S with
      | .inl v :: .inr (.inr c) :: r => match fldA c a b with
        | some none => some (.inl (nx, L, r, wr M c (b : Int) v))
        | _ => none
      | _ => none
    | .ireturn => match S with
      | [.inl x] => if a = 0 ∨ (a = 1 ∧ (x = 0 ∨ x = 1)) then some (.inr (some (.inl x), M)) else none
      | _ => none
    | .areturn => match S with
      | [.inr (.inr x)] => some (.inr (some (.inr (.inr x)), M))
      | _ => none
    | .return_ => match S with
      | [] => some (.inr (none, M))
      | _ => none
    | .ineg => match S with
      | .inl x :: r => (un1 ins x).map fun v => .inl (nx, L, .inl v :: r, M)
      | _ => none
    | .i2b => match S with
      | .inl x :: r => (un1 ins x).map fun v => .inl (nx, L, .inl v :: r, M)
      | _ => none
    | .i2s => match S with
      | .inl x :: r => (un1 ins x).map fun v => .inl (nx, L, .inl v :: r, M)
      | _ => none
    | _ => match S with
      | .inl y :: .inl x :: r => (bin2 ins x y).map fun v => .inl (nx, L, .inl v :: r, M)
      | _ => none
/-- a call: the method, how many arguments, whether it has a receiver -/
def callOf (e : EN) : Option (Nat × Nat × Bool) := match e.2.1 with
  | .invokevirtual _ => some (e.2.2.2.1, e.2.2.2.2.1, true)
  | .invokestatic _ => some (e.2.2.2.1, e.2.2.2.2.1, false)
  | _ => none
def lay : List AV → LVs
  | [] => []
  | v :: r => match catA v with
    | 2 => some v :: none :: lay r
    | _ => some v :: lay r
def entL (as : List AV) (n : Nat) : LVs := lay as ++ List.replicate (n - (lay as).length) none
/-- what a receiver must be: an object of the method's class -/
def recvOK (o : Nat) (as : List AV) : Bool := match as with
  | .inr (.inr c) :: _ => clsA c == some o
  | _ => false
end
section
/-! ints of the machine and whole numbers -/
theorem oi_t {x : Int} (h : inR x) : (Int32.ofInt x).toInt = x := Int32.toInt_ofInt_of_le (by have := h.1; omega) (by have := h.2; omega)
theorem oi_t64 {x : Int} (h : inR64 x) : (Int64.ofInt x).toInt = x := Int64.toInt_ofInt_of_le (by have := h.1; omega) (by have := h.2; omega)
theorem oi_lt {x y : Int} (hx : inR x) (hy : inR y) : Int32.ofInt x < Int32.ofInt y ↔ x < y := by rw [Int32.lt_iff_toInt_lt, oi_t hx, oi_t hy]
theorem oi_le {x y : Int} (hx : inR x) (hy : inR y) : Int32.ofInt x ≤ Int32.ofInt y ↔ x ≤ y := by rw [Int32.le_iff_toInt_le, oi_t hx, oi_t hy]
theorem oi_eq {x y : Int} (hx : inR x) (hy : inR y) : Int32.ofInt x = Int32.ofInt y ↔ x = y := by rw [← Int32.toInt_inj, oi_t hx, oi_t hy]
theorem oi_0 : (0 : Int32) = Int32.ofInt 0 := by decide
theorem oi_n {i : Int} (h : inR i) : (Int32.ofInt i).toNatClampNeg = i.toNat := by
  show (Int32.ofInt i).toInt.toNat = _
  rw [oi_t h]
theorem oi_in {i : Int} {n : Nat} (h0 : 0 ≤ i) (h : i < n) (hn : n < 2147483648) : vp_in (Int32.ofInt i) n := vp_in_iff.mpr (by rw [oi_t ⟨by omega, by omega⟩]; exact ⟨h0, h⟩)
theorem oi_nI {x : Int} (h : 0 ≤ x) : Int32.ofInt x = nI x.toNat := by
  obtain ⟨n, rfl⟩ := Int.eq_ofNat_of_zero_le h
  show Int32.ofInt (n : Int) = Int32.ofNat n
  apply Int32.toBitVec.inj
  simp
theorem oi_div {x y : Int} (h0 : 0 ≤ x) (h1 : x < 2147483648) (h2 : 0 < y) (h3 : y < 2147483648) : Int32.ofInt x / Int32.ofInt y = Int32.ofInt (x / y) := by
  rw [oi_nI h0, oi_nI (by omega : 0 ≤ y), oi_nI (Int.ediv_nonneg h0 (by omega)), pk_div (by omega) (by omega) (by omega)]
  congr 1
  obtain ⟨a, rfl⟩ := Int.eq_ofNat_of_zero_le h0
  obtain ⟨b, rfl⟩ := Int.eq_ofNat_of_zero_le (show 0 ≤ y by omega)
  simp only [Int.toNat_natCast]
  have e : ((a : Int) / (b : Int)) = ((a / b : Nat) : Int) := by simp
  rw [e, Int.toNat_natCast]
theorem oi_rem {x y : Int} (h0 : 0 ≤ x) (h1 : x < 2147483648) (h2 : 0 < y) (h3 : y < 2147483648) : Int32.ofInt x - Int32.ofInt x / Int32.ofInt y * Int32.ofInt y = Int32.ofInt (x % y) := by
  rw [oi_nI h0, oi_nI (by omega : 0 ≤ y), oi_nI (Int.emod_nonneg x (by omega)), pk_rem (by omega) (by omega) (by omega)]
  congr 1
  obtain ⟨a, rfl⟩ := Int.eq_ofNat_of_zero_le h0
  obtain ⟨b, rfl⟩ := Int.eq_ofNat_of_zero_le (show 0 ≤ y by omega)
  simp only [Int.toNat_natCast]
  have e : ((a : Int) % (b : Int)) = ((a % b : Nat) : Int) := by simp
  rw [e, Int.toNat_natCast]
theorem oi_sl : ∀ n, n < 32 → ((nI n &&& 31).toBitVec.smod 32).toNat = n := by decide +kernel
theorem oi_su : ∀ n, n < 32 → (((nI n).toUInt32 &&& Int32.toUInt32 31).toBitVec % 32).toNat = n := by decide +kernel
theorem oi_bn (x : Int) : (Int32.ofInt x).toBitVec.toNat = (x % 4294967296).toNat := by
  rw [Int32.toBitVec_ofInt, BitVec.toNat_ofInt]
  rfl
theorem oi_binj {a b : Int32} (h : a.toBitVec.toNat = b.toBitVec.toNat) : a = b := Int32.toBitVec.inj (BitVec.eq_of_toNat_eq h)
theorem oi_shl {x y : Int} (h0 : 0 ≤ y) (h1 : y < 32) : Int32.ofInt x <<< (Int32.ofInt y &&& 31) = Int32.ofInt (x * 2 ^ y.toNat) := by
  apply oi_binj
  rw [oi_nI h0, pk_shl _ _ _ (oi_sl y.toNat (by omega)), oi_bn, oi_bn]
  have hp : (0 : Int) ≤ x % 4294967296 := Int.emod_nonneg _ (by decide)
  apply Int.ofNat_inj.mp
  rw [Int.toNat_of_nonneg (Int.emod_nonneg _ (by decide))]
  rw [Int.natCast_emod, Int.natCast_mul, Int.toNat_of_nonneg hp, Int.natCast_pow]
  show (x % 4294967296 * 2 ^ y.toNat) % 4294967296 = _
  rw [Int.mul_emod, Int.emod_emod, ← Int.mul_emod]
theorem oi_shr {x y : Int} (h0 : 0 ≤ y) (h1 : y < 32) : Int32.ofInt x >>> (Int32.ofInt y &&& 31) = Int32.ofInt (x.bmod 4294967296 / 2 ^ y.toNat) := by
  have hb1 : -2147483648 ≤ x.bmod 4294967296 := by have := Int.le_bmod (x := x) (m := 4294967296) (by decide); omega
  have hb2 : x.bmod 4294967296 < 2147483648 := by have := Int.bmod_lt (x := x) (m := 4294967296) (by decide); omega
  have hp : (0 : Int) < 2 ^ y.toNat := Int.pow_pos (by decide)
  apply Int32.toInt_inj.mp
  rw [oi_nI h0, pk_shr _ _ _ (oi_sl y.toNat (by omega)), Int32.toInt_ofInt, oi_t, Int.shiftRight_eq_div_pow]
  · rfl
  · refine ⟨?_, ?_⟩
    · have : -2147483648 * 2 ^ y.toNat ≤ x.bmod 4294967296 := by
        have h3 : (1 : Int) ≤ 2 ^ y.toNat := by omega
        have h4 : -2147483648 * 2 ^ y.toNat ≤ -2147483648 * (1 : Int) := Int.mul_le_mul_of_nonpos_left (by decide) h3
        omega
      exact (Int.le_ediv_iff_mul_le hp).mpr this
    · have h3 : (1 : Int) ≤ 2 ^ y.toNat := by omega
      have : x.bmod 4294967296 < 2147483648 * 2 ^ y.toNat := by
        have h4 : (2147483648 : Int) * 1 ≤ 2147483648 * 2 ^ y.toNat := Int.mul_le_mul_of_nonneg_left h3 (by decide)
        omega
      exact Int.ediv_lt_of_lt_mul hp this
theorem oi_ushr {x y : Int} (h0 : 0 ≤ y) (h1 : y < 32) : ((Int32.ofInt x).toUInt32 >>> ((Int32.ofInt y).toUInt32 &&& Int32.toUInt32 31)).toInt32 = Int32.ofInt (x % 4294967296 / 2 ^ y.toNat) := by
  apply oi_binj
  rw [oi_nI h0, pk_ushr _ _ _ (oi_su y.toNat (by omega)), oi_bn, oi_bn]
  have hp : (0 : Int) ≤ x % 4294967296 := Int.emod_nonneg _ (by decide)
  have hl : x % 4294967296 < 4294967296 := Int.emod_lt_of_pos _ (by decide)
  have h2 : (1 : Int) ≤ 2 ^ y.toNat := by have : (0 : Int) < 2 ^ y.toNat := Int.pow_pos (by decide); omega
  have hd0 : 0 ≤ x % 4294967296 / 2 ^ y.toNat := Int.ediv_nonneg hp (by omega)
  have hd1 : x % 4294967296 / 2 ^ y.toNat ≤ x % 4294967296 := Int.ediv_le_self _ hp
  rw [Int.emod_eq_of_lt hd0 (by omega)]
  apply Int.ofNat_inj.mp
  rw [Int.toNat_of_nonneg hd0, Int.natCast_ediv, Int.toNat_of_nonneg hp, Int.natCast_pow]
  rfl
theorem bin_ok {i : Instr} {x y v : Int} (h : bin2 i x y = some v) :
    (i = .iadd ∧ Int32.ofInt v = Int32.ofInt x + Int32.ofInt y) ∨ (i = .isub ∧ Int32.ofInt v = Int32.ofInt x - Int32.ofInt y) ∨ (i = .imul ∧ Int32.ofInt v = Int32.ofInt x * Int32.ofInt y) ∨
    (i = .iand ∧ Int32.ofInt v = Int32.ofInt x &&& Int32.ofInt y) ∨ (i = .ior ∧ Int32.ofInt v = Int32.ofInt x ||| Int32.ofInt y) ∨
    (i = .idiv ∧ ¬ Int32.ofInt y = 0 ∧ Int32.ofInt v = Int32.ofInt x / Int32.ofInt y) ∨ (i = .irem ∧ ¬ Int32.ofInt y = 0 ∧ Int32.ofInt v = Int32.ofInt x - Int32.ofInt x / Int32.ofInt y * Int32.ofInt y) ∨
    (i = .ishl ∧ Int32.ofInt v = Int32.ofInt x <<< (Int32.ofInt y &&& 31)) ∨ (i = .ishr ∧ Int32.ofInt v = Int32.ofInt x >>> (Int32.ofInt y &&& 31)) ∨ (i = .iushr ∧ ((Int32.ofInt x).toUInt32 >>> ((Int32.ofInt y).toUInt32 &&& Int32.toUInt32 31)).toInt32 = Int32.ofInt v) := by
  unfold bin2 at h
  have ne : 0 < y → y < 2147483648 → ¬ Int32.ofInt y = 0 := fun h1 h2 e => by
    rw [oi_0, oi_eq ⟨by omega, by omega⟩ ⟨by omega, by omega⟩] at e
    omega
  split at h
  · cases h; exact Or.inl ⟨rfl, Int32.ofInt_add _ _⟩
  · cases h; exact Or.inr (Or.inl ⟨rfl, Int32.ofInt_sub _ _⟩)
  · cases h; exact Or.inr (Or.inr (Or.inl ⟨rfl, Int32.ofInt_mul _ _⟩))
  · cases h; exact Or.inr (Or.inr (Or.inr (Or.inl ⟨rfl, Int32.ofInt_toInt _⟩)))
  · cases h; exact Or.inr (Or.inr (Or.inr (Or.inr (Or.inl ⟨rfl, Int32.ofInt_toInt _⟩))))
  · split at h
    · rename_i hc
      cases h; exact Or.inr (Or.inr (Or.inr (Or.inr (Or.inr (Or.inl ⟨rfl, ne hc.2.2.1 hc.2.2.2, (oi_div hc.1 hc.2.1 hc.2.2.1 hc.2.2.2).symm⟩)))))
    · cases h
  · split at h
    · rename_i hc
      cases h; exact Or.inr (Or.inr (Or.inr (Or.inr (Or.inr (Or.inr (Or.inl ⟨rfl, ne hc.2.2.1 hc.2.2.2, (oi_rem hc.1 hc.2.1 hc.2.2.1 hc.2.2.2).symm⟩))))))
    · cases h
  · split at h
    · rename_i hc
      cases h; exact Or.inr (Or.inr (Or.inr (Or.inr (Or.inr (Or.inr (Or.inr (Or.inl ⟨rfl, (oi_shl hc.1 hc.2).symm⟩)))))))
    · cases h
  · split at h
    · rename_i hc
      cases h; exact Or.inr (Or.inr (Or.inr (Or.inr (Or.inr (Or.inr (Or.inr (Or.inr (Or.inl ⟨rfl, (oi_shr hc.1 hc.2).symm⟩))))))))
    · cases h
  · split at h
    · rename_i hc
      cases h; exact Or.inr (Or.inr (Or.inr (Or.inr (Or.inr (Or.inr (Or.inr (Or.inr (Or.inr ⟨rfl, oi_ushr hc.1 hc.2⟩))))))))
    · cases h
  · cases h
theorem un_ok {i : Instr} {x v : Int} (h : un1 i x = some v) : (i = .ineg ∧ Int32.ofInt v = -Int32.ofInt x) ∨ (i = .i2b ∧ (Int32.ofInt x).toInt8.toInt32 = Int32.ofInt v) ∨ (i = .i2s ∧ (Int32.ofInt x).toInt16.toInt32 = Int32.ofInt v) := by
  unfold un1 at h
  split at h
  · cases h; exact Or.inl ⟨rfl, Int32.ofInt_neg _⟩
  · cases h
    refine Or.inr (Or.inl ⟨rfl, ?_⟩)
    apply Int32.toInt_inj.mp
    have h1 := Int.le_bmod (x := x) (m := 256) (by decide)
    have h2 := Int.bmod_lt (x := x) (m := 256) (by decide)
    rw [Int8.toInt_toInt32, Int32.toInt_toInt8, oi_t (x := x.bmod 256) ⟨by omega, by omega⟩, Int32.toInt_ofInt]
    exact Int.bmod_bmod_of_dvd (show (256 : Nat) ∣ 4294967296 by decide)
  · cases h
    refine Or.inr (Or.inr ⟨rfl, ?_⟩)
    apply Int32.toInt_inj.mp
    have h1 := Int.le_bmod (x := x) (m := 65536) (by decide)
    have h2 := Int.bmod_lt (x := x) (m := 65536) (by decide)
    rw [Int16.toInt_toInt32, Int32.toInt_toInt16, oi_t (x := x.bmod 65536) ⟨by omega, by omega⟩, Int32.toInt_ofInt]
    exact Int.bmod_bmod_of_dvd (show (65536 : Nat) ∣ 4294967296 by decide)
  · cases h
end
section
/-! the abstract machine's world as cells of the heap -/
section WORLD
variable {ad : Nat → Nat} {cT : Nat → ClassId}
def cz (ad : Nat → Nat) : AV → Value
  | .inl z => .int (Int32.ofInt z)
  | .inr (.inl z) => .long (Int64.ofInt z)
  | .inr (.inr i) => .ref (ad i)
theorem cz_cat (v : AV) : (cz ad v).category = catA v := by
  rcases v with z | z | i <;> rfl
theorem cz_catS (S : List AV) : ((S.map (cz ad)).map fun v => v.category).sum = catS S := by
  unfold catS
  rw [List.map_map]
  congr 1
  exact List.map_congr_left fun v _ => cz_cat v
def fvs (ad : Nat → Nat) (f : Int → Int) : List (Option Nat) → Nat → List Value
  | [], _ => []
  | some r :: l, k => .ref (ad r) :: fvs ad f l (k + 1)
  | none :: l, k => .int (Int32.ofInt (f (k : Int))) :: fvs ad f l (k + 1)
def fv1 (ad : Nat → Nat) (f : Int → Int) (k : Nat) (o : Option Nat) : Value := match o with
  | some r => .ref (ad r)
  | none => .int (Int32.ofInt (f (k : Int)))
theorem fvs_get (f : Int → Int) : ∀ (l : List (Option Nat)) (k i : Nat), (fvs ad f l k)[i]? = (l[i]?).map (fv1 ad f (k + i))
  | [], k, i => by simp [fvs]
  | some r :: l, k, 0 => by simp [fvs, fv1]
  | none :: l, k, 0 => by simp [fvs, fv1]
  | some r :: l, k, i + 1 => by
    rw [fvs, List.getElem?_cons_succ, List.getElem?_cons_succ, fvs_get f l (k + 1) i, show k + 1 + i = k + (i + 1) by omega]
  | none :: l, k, i + 1 => by
    rw [fvs, List.getElem?_cons_succ, List.getElem?_cons_succ, fvs_get f l (k + 1) i, show k + 1 + i = k + (i + 1) by omega]
theorem fvs_set (f : Int → Int) (l : List (Option Nat)) (i : Nat) (v : Int) (h : l[i]? = some none) : (fvs ad f l 0).set i (.int (Int32.ofInt v)) = fvs ad (upI f (i : Int) v) l 0 := by
  apply List.ext_getElem?
  intro j
  rw [fvs_get]
  by_cases e : i = j
  · subst e
    rw [List.getElem?_set, if_pos rfl, h]
    have hl : i < (fvs ad f l 0).length := by
      rcases Nat.lt_or_ge i (fvs ad f l 0).length with q | q
      · exact q
      · have h2 := fvs_get (ad := ad) f l 0 i
        rw [List.getElem?_eq_none q, h] at h2
        cases h2
    simp [hl, fv1, upI]
  · rw [List.getElem?_set_ne e, fvs_get]
    cases l[j]? with
    | none => rfl
    | some o =>
      cases o with
      | none => simp [fv1, upI, show ¬ (j : Int) = (i : Int) from fun q => e (by omega)]
      | some r => rfl
def cellOf (ad : Nat → Nat) (cT : Nat → ClassId) (f : Int → Int) : SHP → va_E
  | .inl (t, n) => .inl (cT t, n, .inl (fun j => Int32.ofInt (f (j : Int))))
  | .inr (.inl (t, ts)) => .inl (cT t, ts.length, .inr (.inr (.inr (.inr (fun j => (ts[j]?).map ad)))))
  | .inr (.inr (ci, fs)) => .inr (ci, fvs ad f fs 0)
def WL (ad : Nat → Nat) (cT : Nat → ClassId) (M : Mem) : va_W := SH.mapIdx fun i sh => (ad i, cellOf ad cT (M i) sh)
theorem WL_get (M : Mem) (i : Nat) : (WL ad cT M)[i]? = (shp i).map fun sh => (ad i, cellOf ad cT (M i) sh) := by
  unfold WL shp
  rw [List.getElem?_mapIdx]
theorem WL_at {M : Mem} {i : Nat} {sh : SHP} (h : shp i = some sh) : (WL ad cT M)[i]? = some (ad i, cellOf ad cT (M i) sh) := by rw [WL_get, h]; rfl
theorem WL_set {M : Mem} {i : Nat} {sh : SHP} (h : shp i = some sh) (g : Int → Int) : (WL ad cT M).set i (ad i, cellOf ad cT g sh) = WL ad cT (setC M i g) := by
  apply List.ext_getElem?
  intro j
  rw [WL_get]
  by_cases e : i = j
  · subst e
    have hl : i < (WL ad cT M).length := (List.getElem?_eq_some_iff.mp (WL_at (ad := ad) (cT := cT) (M := M) h)).1
    rw [List.getElem?_set, if_pos rfl, if_pos hl, h]
    simp [setC]
  · rw [List.getElem?_set_ne e, WL_get]
    simp [setC, show ¬ j = i from fun q => e q.symm]
/-- the cells that the world may write -/
def AD (ad : Nat → Nat) : Nat → Prop := fun q => ∃ i, i < SH.length ∧ q = ad i
def Inj (ad : Nat → Nat) : Prop := ∀ i j, i < SH.length → j < SH.length → ad i = ad j → i = j
theorem WL_D {M : Mem} (h : Inj ad) : va_D (AD ad) (WL ad cT M) := by
  have key : ∀ (k : Nat) (q : Nat × va_E), (WL ad cT M)[k]? = some q → k < SH.length ∧ q.1 = ad k := by
    intro k q hk
    have hl : k < (WL ad cT M).length := (List.getElem?_eq_some_iff.mp hk).1
    have h2 : (WL ad cT M).length = SH.length := by unfold WL; exact List.length_mapIdx
    rw [WL_get] at hk
    cases hs : shp k with
    | none => rw [hs] at hk; cases hk
    | some sh => rw [hs] at hk; cases hk; exact ⟨by omega, rfl⟩
  refine ⟨fun i j p q hi hj e => ?_, fun k q hk => ⟨k, key k q hk⟩⟩
  obtain ⟨h1, h2⟩ := key i p hi
  obtain ⟨h3, h4⟩ := key j q hj
  exact h i j h1 h3 (by rw [← h2, ← h4]; exact e)
def TYS (cT : Nat → ClassId) : List (ClassId × FieldType) := [(cT 0, .int), (cT 1, .byte), (cT 2, .boolean), (cT 3, .object "CellPacks$Pack"), (cT 4, .object "CellPacks$Sheet"), (cT 5, .array .int)]
theorem arrN_s {t c n : Nat} (h : arrN t c = some n) : shp c = some (.inl (t, n)) := by
  unfold arrN at h
  split at h
  · split at h
    · rename_i h1 h2
      cases h; subst h2; exact h1
    · cases h
  · cases h
theorem arrB_s {t c n : Nat} (h : arrB c = some (t, n)) : shp c = some (.inl (t, n)) ∧ (t = 1 ∨ t = 2) := by
  unfold arrB at h
  split at h
  · split at h
    · rename_i h1 h2
      cases h; exact ⟨h1, h2⟩
    · cases h
  · cases h
theorem refA_s {c : Nat} {ts : List Nat} (h : refA c = some ts) : ∃ t, shp c = some (.inr (.inl (t, ts))) := by
  unfold refA at h
  split at h
  · rename_i h1
    cases h; exact ⟨_, h1⟩
  · cases h
theorem fldA_s {c ci k : Nat} {o : Option Nat} (h : fldA c ci k = some o) : ∃ fs, shp c = some (.inr (.inr (ci, fs))) ∧ fs[k]? = some o := by
  unfold fldA at h
  split at h
  · split at h
    · rename_i h1 h2
      subst h2; exact ⟨_, h1, h⟩
    · cases h
  · cases h
theorem clsA_s {c ci : Nat} (h : clsA c = some ci) : ∃ fs, shp c = some (.inr (.inr (ci, fs))) := by
  unfold clsA at h
  split at h
  · rename_i h1
    cases h; exact ⟨_, h1⟩
  · cases h
def refK (o : Option SHP) : Bool := match o with
  | some (.inr (.inl (t, _))) => t == 3 || (t == 4 || t == 5)
  | _ => true
theorem shp_ref0 : ∀ i, i < 98 → refK (shp i) = true := by decide +kernel
theorem shp_lt {i : Nat} {sh : SHP} (h : shp i = some sh) : i < 98 := by
  have := (List.getElem?_eq_some_iff.mp h).1
  exact Nat.lt_of_lt_of_eq this (by decide +kernel)
theorem shp_ref {i t : Nat} {ts : List Nat} (h : shp i = some (.inr (.inl (t, ts)))) : t = 3 ∨ t = 4 ∨ t = 5 := by
  have := shp_ref0 i (shp_lt h)
  rw [h] at this
  simpa [refK] using this
/-- the locals -/
def LH (ad : Nat → Nat) (ls : Array Slot) (nL : Nat) (L : LVs) : Prop := ls.size = nL ∧ L.length = nL ∧ lv_wf ls ∧ ∀ i v, L.getD i none = some v → ls[i]? = some (.val (cz ad v))
def alL (ad : Nat → Nat) (L : LVs) : List (Nat × Value) := (List.range L.length).filterMap fun i => (L.getD i none).map fun v => (i, cz ad v)
theorem alL_mem {L : LVs} {q : Nat × Value} : q ∈ alL ad L ↔ ∃ v, L.getD q.1 none = some v ∧ q.2 = cz ad v := by
  unfold alL
  rw [List.mem_filterMap]
  constructor
  · rintro ⟨i, -, hi⟩
    cases h : L.getD i none with
    | none => rw [h] at hi; cases hi
    | some v => rw [h] at hi; cases hi; exact ⟨v, h, rfl⟩
  · rintro ⟨v, h, e⟩
    refine ⟨q.1, ?_, by rw [h]; simp [← e]⟩
    rw [List.mem_range]
    rcases Nat.lt_or_ge q.1 L.length with z | z
    · exact z
    · rw [List.getD_eq_getElem?_getD, List.getElem?_eq_none z] at h
      cases h
theorem LH.has {ls : Array Slot} {nL : Nat} {L : LVs} (h : LH ad ls nL L) : lv_has ls nL (alL ad L) := ⟨h.1, h.2.2.1, fun q hq => by
  obtain ⟨v, h1, h2⟩ := alL_mem.mp hq
  rw [h.2.2.2 q.1 v h1, h2]⟩
theorem getD_set (L : LVs) (i j : Nat) (o : Option AV) (hi : i < L.length) : (L.set i o).getD j none = if i = j then o else L.getD j none := by
  rw [List.getD_eq_getElem?_getD, List.getD_eq_getElem?_getD, List.getElem?_set]
  by_cases e : i = j
  · rw [if_pos e, if_pos e, if_pos hi]; rfl
  · rw [if_neg e, if_neg e]
theorem clr_len (L : LVs) (i : Nat) : (clr L i).length = L.length := by
  cases i with
  | zero => rfl
  | succ j => rw [show clr L (j + 1) = match isLg (L.getD j none) with | true => L.set j none | false => L from rfl]; split <;> simp
theorem clr_succ (L : LVs) (k : Nat) : clr L (k + 1) = match isLg (L.getD k none) with | true => L.set k none | false => L := rfl
/-- clearing keeps what isn't a long just ahead -/
theorem clr_get {L : LVs} {i j : Nat} {v : AV} (h : (clr L i).getD j none = some v) : L.getD j none = some v ∧ ¬ (j + 1 = i ∧ catA v = 2) := by
  have lg : ∀ w : AV, catA w = 2 → isLg (some w) = true := by
    intro w hw
    rcases w with z | z | k
    · cases hw
    · rfl
    · cases hw
  cases i with
  | zero => exact ⟨h, fun q => by omega⟩
  | succ k =>
    rw [clr_succ] at h
    split at h
    · rename_i hg
      have hk : k < L.length := by
        rcases Nat.lt_or_ge k L.length with q | q
        · exact q
        · rw [List.getD_eq_getElem?_getD, List.getElem?_eq_none q] at hg
          cases hg
      rw [getD_set L k j none hk] at h
      split at h
      · cases h
      · rename_i e
        exact ⟨h, fun q => e (by omega)⟩
    · rename_i hg
      refine ⟨h, fun q => ?_⟩
      have : j = k := by omega
      subst this
      rw [h, lg v q.2] at hg
      cases hg
theorem LH_st1 {ls ls' : Array Slot} {nL i : Nat} {L : LVs} {v : AV} (h : LH ad ls nL L) (hi : i < L.length) (h' : lv_has ls' nL ((i, cz ad v) :: (alL ad L).filter (fun q => !(q.1 == i) && !(q.1 + 1 == i && q.2.category == 2)))) : LH ad ls' nL (st1 L i v) := by
  refine ⟨h'.1, by unfold st1; rw [List.length_set, clr_len]; exact h.2.1, h'.2.1, fun j w hj => ?_⟩
  unfold st1 at hj
  rw [getD_set _ _ _ _ (by rw [clr_len]; exact hi)] at hj
  split at hj
  · rename_i e
    cases hj
    subst e
    exact h'.2.2 (i, cz ad v) List.mem_cons_self
  · rename_i e
    obtain ⟨h1, h2⟩ := clr_get hj
    refine h'.2.2 (j, cz ad w) (List.mem_cons_of_mem _ (List.mem_filter.mpr ⟨alL_mem.mpr ⟨w, h1, rfl⟩, ?_⟩))
    rw [cz_cat]
    by_cases q : j + 1 = i
    · have : ¬ catA w = 2 := fun z => h2 ⟨q, z⟩
      simp [show ¬ j = i from fun z => e z.symm, this]
    · simp [show ¬ j = i from fun z => e z.symm, q]
theorem LH_st2 {ls ls' : Array Slot} {nL i : Nat} {L : LVs} {v : AV} (h : LH ad ls nL L) (hi : i + 1 < L.length) (h' : lv_has ls' nL ((i, cz ad v) :: (alL ad L).filter (fun q => !(q.1 == i) && (!(q.1 == i + 1) && !(q.1 + 1 == i && q.2.category == 2))))) : LH ad ls' nL (st2 L i v) := by
  refine ⟨h'.1, by unfold st2; rw [List.length_set, List.length_set, clr_len]; exact h.2.1, h'.2.1, fun j w hj => ?_⟩
  unfold st2 at hj
  rw [getD_set _ _ _ _ (by rw [List.length_set, clr_len]; omega)] at hj
  split at hj
  · rename_i e
    cases hj
    subst e
    exact h'.2.2 (i, cz ad v) List.mem_cons_self
  · rename_i e
    rw [getD_set _ _ _ _ (by rw [clr_len]; omega)] at hj
    split at hj
    · cases hj
    · rename_i e2
      obtain ⟨h1, h2⟩ := clr_get hj
      refine h'.2.2 (j, cz ad w) (List.mem_cons_of_mem _ (List.mem_filter.mpr ⟨alL_mem.mpr ⟨w, h1, rfl⟩, ?_⟩))
      rw [cz_cat]
      by_cases q : j + 1 = i
      · have : ¬ catA w = 2 := fun z => h2 ⟨q, z⟩
        simp [show ¬ j = i from fun z => e z.symm, show ¬ j = i + 1 from fun z => e2 z.symm, this]
      · simp [show ¬ j = i from fun z => e z.symm, show ¬ j = i + 1 from fun z => e2 z.symm, q]
/-- at a method's entry -/
theorem lay_args : ∀ (as : List AV) (k i : Nat) (v : AV), (lay as).getD i none = some v → (k + i, cz ad v) ∈ lv_args k (as.map (cz ad))
  | [], k, i, v, h => by simp [lay] at h
  | a :: as, k, i, v, h => by
    have hc := cz_cat (ad := ad) a
    rw [List.map_cons, lv_args, hc]
    unfold lay at h
    split at h
    · rename_i h2
      rw [if_pos h2]
      match i, h with
      | 0, h =>
        simp at h
        subst h
        exact List.mem_cons_self
      | 1, h => simp at h
      | i + 2, h =>
        have := lay_args as (k + 2) i v (by simpa using h)
        exact List.mem_cons_of_mem _ (by rw [show k + (i + 2) = k + 2 + i by omega]; exact this)
    · rename_i h2
      rw [if_neg h2]
      match i, h with
      | 0, h =>
        simp at h
        subst h
        exact List.mem_cons_self
      | i + 1, h =>
        have := lay_args as (k + 1) i v (by simpa using h)
        exact List.mem_cons_of_mem _ (by rw [show k + (i + 1) = k + 1 + i by omega]; exact this)
theorem lay_len (as : List AV) : (lg_sl (as.map (cz ad))).length = (lay as).length := by
  induction as with
  | nil => rfl
  | cons a as ih =>
    unfold lg_sl at ih ⊢
    rw [List.map_cons, List.flatMap_cons, List.length_append, ih]
    rcases a with z | z | i
    · simp [lay, catA, cz, Value.category]; omega
    · simp [lay, catA, cz, Value.category]; omega
    · simp [lay, catA, cz, Value.category]; omega
theorem LH_entry (as : List AV) {n : Nat} (h : (lay as).length ≤ n) : LH ad ((lg_sl (as.map (cz ad)) ++ List.replicate (n - (lg_sl (as.map (cz ad))).length) Slot.unset).toArray) n (entL as n) := by
  have h0 := lv_entry (as.map (cz ad)) (n := n) (by rw [lay_len]; exact h)
  refine ⟨h0.1, by unfold entL; rw [List.length_append, List.length_replicate]; omega, h0.2.1, fun i v hv => ?_⟩
  refine h0.2.2 (i, cz ad v) ?_
  have := lay_args (ad := ad) as 0 i v (by
    unfold entL at hv
    rw [List.getD_eq_getElem?_getD] at hv ⊢
    rcases Nat.lt_or_ge i (lay as).length with q | q
    · rw [List.getElem?_append_left q] at hv; exact hv
    · rw [List.getElem?_append_right q, List.getElem?_replicate] at hv
      split at hv <;> cases hv)
  rw [Nat.zero_add] at this
  exact this
end WORLD
end
section
/-! what the tables' words say of the links -/
def clsOK (q : vw_C) : Prop := (∀ w ∈ u_ws q.1 q.2.1 q.2.2, w ∈ GW) ∧ (∃ ty : Nat → FieldType, ∀ k, k < q.2.2 → parseFieldDescriptor (q.2.1 k).2.2.1 = some (ty k)) ∧ (∀ a, a < q.2.2 → ∀ b, b < q.2.2 → a ≠ b → (q.2.1 a).2.1 ≠ (q.2.1 b).2.1)
def FOK (e : Nat × Nat × Nat × Nat × Int) : Prop := ∃ (own C : String) (T : u_T) (N : Nat), RN[e.1]? = some own ∧ vwCl[e.2.2.1]? = some (C, T, N) ∧ e.2.2.2.1 < N ∧ (Cond.fieldLink own e.2.1 (T e.2.2.2.1).1 (T e.2.2.2.1).2.1 (T e.2.2.2.1).2.2.1 ∈ GW ∨ ∃ host, Cond.fieldLinkNest own e.2.1 (T e.2.2.2.1).1 (T e.2.2.2.1).2.1 (T e.2.2.2.1).2.2.1 host ∈ NWs)
def FPK (e : Nat × Nat × Nat × Nat × Int) : Prop := ∃ (C : String) (T : u_T) (N : Nat), vwCl[e.2.2.1]? = some (C, T, N) ∧ (T e.2.2.2.1).2.2.2 = false ∧ (T e.2.2.2.1).2.2.1 = "I"
def MOK (e : MI) : Prop := Cond.code e.2.1 e.2.2.1 e.2.2.2.1 e.2.2.2.2.1 ∈ GW ∧ Cond.initialized e.2.1.cls ∈ GW ∧ (e.2.1.cls ≠ "java/lang/invoke/MethodHandle" ∧ e.2.1.cls ≠ "java/lang/invoke/VarHandle") ∧ plainName e.2.1.cls = true ∧ RN[e.1]? = some e.2.1.cls ∧ e.2.2.2.1 ≤ 40 ∧
  ((e.2.2.2.2.2.2 = true ∧ Cond.static e.2.1 ∈ GW ∧ (parseMethodDescriptor e.2.1.desc).map (fun d => d.parameters.length) = some e.2.2.2.2.2.1) ∨ (e.2.2.2.2.2.2 = false ∧ Cond.instanceMethod e.2.1 ∈ GW ∧ Cond.selects e.2.1.cls e.2.1 e.2.1 ∈ GW ∧ ∃ n, e.2.2.2.2.2.1 = n + 1 ∧ (parseMethodDescriptor e.2.1.desc).map (fun d => d.parameters.length) = some n))
def prN (z : Nat) : Option MethodName := match z with
  | 1000 => some Lib.Math.max.name
  | 1001 => some Lib.Math.min.name
  | 1002 => some arraycopyName
  | 1003 => some yJ0_length_8abf5
  | 1004 => some yJ0_charAt_5068e
  | _ => none
def LOK (e : Nat × Nat × Nat × Int) : Prop := ∃ own, RN[e.1]? = some own ∧ ((∃ mi, MT[e.2.2.1]? = some mi ∧ MOK mi ∧ (Cond.methodLink own e.2.1 mi.2.1 ∈ GW ∨ ∃ host, Cond.methodLinkNest own e.2.1 mi.2.1 host ∈ NWs)) ∨ (1000 ≤ e.2.2.1 ∧ ∃ nm, prN e.2.2.1 = some nm ∧ Cond.methodLink own e.2.1 nm ∈ GW))
def CIK (e : Nat × Nat × Int) : Prop := ∃ own, RN[e.1]? = some own ∧ Cond.constant own e.2.1 (Int32.ofInt e.2.2) ∈ GW
def CLK (e : Nat × Nat × Int) : Prop := ∃ own, RN[e.1]? = some own ∧ Cond.constantLong own e.2.1 (Int64.ofInt e.2.2) ∈ GW
theorem gw_of {ws : List Cond} (h : ∀ w ∈ ws, w ∈ lw_tbl) (g : ws.all goodWord = true) : ∀ w ∈ ws, w ∈ GW := fun w hw => List.mem_filter.mpr ⟨h w hw, List.all_eq_true.mp g w hw⟩

set_option maxRecDepth 20000 in
theorem iX0 : ∀ w ∈ u_ws RX0 TX0 5, w ∈ GW := gw_of (by decide +kernel) (by decide +kernel)
set_option maxRecDepth 20000 in
theorem iX1 : ∀ w ∈ u_ws RX1 TX1 7, w ∈ GW := gw_of (by decide +kernel) (by decide +kernel)
set_option maxRecDepth 20000 in
theorem iX2 : ∀ w ∈ u_ws RX2 TX2 9, w ∈ GW := gw_of (by decide +kernel) (by decide +kernel)
set_option maxRecDepth 20000 in
theorem iX3 : ∀ w ∈ u_ws RX3 TX3 3, w ∈ GW := gw_of (by decide +kernel) (by decide +kernel)
set_option maxRecDepth 20000 in
theorem iX4 : ∀ w ∈ u_ws RX4 TX4 2, w ∈ GW := gw_of (by decide +kernel) (by decide +kernel)
set_option maxRecDepth 20000 in
theorem iX5 : ∀ w ∈ u_ws RX5 TX5 9, w ∈ GW := gw_of (by decide +kernel) (by decide +kernel)
set_option maxRecDepth 20000 in
theorem iX6 : ∀ w ∈ u_ws RX6 TX6 5, w ∈ GW := gw_of (by decide +kernel) (by decide +kernel)
set_option maxRecDepth 20000 in
theorem iX7 : ∀ w ∈ u_ws RX7 TX7 10, w ∈ GW := gw_of (by decide +kernel) (by decide +kernel)
set_option maxRecDepth 20000 in
theorem iX8 : ∀ w ∈ u_ws RX8 TX8 26, w ∈ GW := gw_of (by decide +kernel) (by decide +kernel)
theorem cl_ok : ∀ (ci : Nat) (q : vw_C), vwCl[ci]? = some q → clsOK q := by
  intro ci q h
  match ci, h with
  | 0, h => cases h; exact ⟨iX0, ⟨tyX0, tyX0_ok⟩, nmX0⟩
  | 1, h => cases h; exact ⟨iX1, ⟨tyX1, tyX1_ok⟩, nmX1⟩
  | 2, h => cases h; exact ⟨iX2, ⟨tyX2, tyX2_ok⟩, nmX2⟩
  | 3, h => cases h; exact ⟨iX3, ⟨tyX3, tyX3_ok⟩, nmX3⟩
  | 4, h => cases h; exact ⟨iX4, ⟨tyX4, tyX4_ok⟩, nmX4⟩
  | 5, h => cases h; exact ⟨iX5, ⟨tyX5, tyX5_ok⟩, nmX5⟩
  | 6, h => cases h; exact ⟨iX6, ⟨tyX6, tyX6_ok⟩, nmX6⟩
  | 7, h => cases h; exact ⟨iX7, ⟨tyX7, tyX7_ok⟩, nmX7⟩
  | 8, h => cases h; exact ⟨iX8, ⟨tyX8, tyX8_ok⟩, nmX8⟩
  | k + 9, h => simp [vwCl] at h
theorem fo_0 : FOK ((0, 28, 2, 4, 1) : Nat × Nat × Nat × Nat × Int) := ⟨RX0, RX2, TX2, 9, rfl, rfl, by decide, Or.inr ⟨_, nw_at (w := .fieldLinkNest RX0 28 (TX2 4).1 (TX2 4).2.1 (TX2 4).2.2.1 "CellPacks") 178 (by decide +kernel) rfl⟩⟩
theorem fo_1 : FOK ((0, 18, 0, 2, 0) : Nat × Nat × Nat × Nat × Int) := ⟨RX0, RX0, TX0, 5, rfl, rfl, by decide, Or.inl (gw_at 303 (by decide +kernel) (by decide +kernel))⟩
theorem fo_2 : FOK ((0, 21, 0, 3, 0) : Nat × Nat × Nat × Nat × Int) := ⟨RX0, RX0, TX0, 5, rfl, rfl, by decide, Or.inl (gw_at 304 (by decide +kernel) (by decide +kernel))⟩
theorem fo_3 : FOK ((0, 25, 0, 4, 0) : Nat × Nat × Nat × Nat × Int) := ⟨RX0, RX0, TX0, 5, rfl, rfl, by decide, Or.inl (gw_at 305 (by decide +kernel) (by decide +kernel))⟩
theorem fo_4 : FOK ((0, 39, 2, 0, 1) : Nat × Nat × Nat × Nat × Int) := ⟨RX0, RX2, TX2, 9, rfl, rfl, by decide, Or.inr ⟨_, nw_at (w := .fieldLinkNest RX0 39 (TX2 0).1 (TX2 0).2.1 (TX2 0).2.2.1 "CellPacks") 168 (by decide +kernel) rfl⟩⟩
theorem fo_5 : FOK ((0, 15, 0, 1, 0) : Nat × Nat × Nat × Nat × Int) := ⟨RX0, RX0, TX0, 5, rfl, rfl, by decide, Or.inl (gw_at 302 (by decide +kernel) (by decide +kernel))⟩
theorem fo_6 : FOK ((0, 60, 2, 5, 1) : Nat × Nat × Nat × Nat × Int) := ⟨RX0, RX2, TX2, 9, rfl, rfl, by decide, Or.inr ⟨_, nw_at (w := .fieldLinkNest RX0 60 (TX2 5).1 (TX2 5).2.1 (TX2 5).2.2.1 "CellPacks") 187 (by decide +kernel) rfl⟩⟩
theorem fo_7 : FOK ((0, 9, 0, 0, 0) : Nat × Nat × Nat × Nat × Int) := ⟨RX0, RX0, TX0, 5, rfl, rfl, by decide, Or.inl (gw_at 301 (by decide +kernel) (by decide +kernel))⟩
theorem fo_8 : FOK ((1, 31, 1, 5, 0) : Nat × Nat × Nat × Nat × Int) := ⟨RX1, RX1, TX1, 7, rfl, rfl, by decide, Or.inl (gw_at 277 (by decide +kernel) (by decide +kernel))⟩
theorem fo_9 : FOK ((1, 48, 2, 4, 1) : Nat × Nat × Nat × Nat × Int) := ⟨RX1, RX2, TX2, 9, rfl, rfl, by decide, Or.inr ⟨_, nw_at (w := .fieldLinkNest RX1 48 (TX2 4).1 (TX2 4).2.1 (TX2 4).2.2.1 "CellPacks") 180 (by decide +kernel) rfl⟩⟩
theorem fo_10 : FOK ((1, 51, 2, 5, 1) : Nat × Nat × Nat × Nat × Int) := ⟨RX1, RX2, TX2, 9, rfl, rfl, by decide, Or.inr ⟨_, nw_at (w := .fieldLinkNest RX1 51 (TX2 5).1 (TX2 5).2.1 (TX2 5).2.2.1 "CellPacks") 185 (by decide +kernel) rfl⟩⟩
theorem fo_11 : FOK ((1, 34, 1, 6, 0) : Nat × Nat × Nat × Nat × Int) := ⟨RX1, RX1, TX1, 7, rfl, rfl, by decide, Or.inl (gw_at 278 (by decide +kernel) (by decide +kernel))⟩
theorem fo_12 : FOK ((1, 27, 1, 4, 0) : Nat × Nat × Nat × Nat × Int) := ⟨RX1, RX1, TX1, 7, rfl, rfl, by decide, Or.inl (gw_at 275 (by decide +kernel) (by decide +kernel))⟩
theorem fo_13 : FOK ((1, 11, 1, 0, 0) : Nat × Nat × Nat × Nat × Int) := ⟨RX1, RX1, TX1, 7, rfl, rfl, by decide, Or.inl (gw_at 270 (by decide +kernel) (by decide +kernel))⟩
theorem fo_14 : FOK ((1, 16, 1, 1, 0) : Nat × Nat × Nat × Nat × Int) := ⟨RX1, RX1, TX1, 7, rfl, rfl, by decide, Or.inl (gw_at 271 (by decide +kernel) (by decide +kernel))⟩
theorem fo_15 : FOK ((1, 58, 2, 0, 1) : Nat × Nat × Nat × Nat × Int) := ⟨RX1, RX2, TX2, 9, rfl, rfl, by decide, Or.inr ⟨_, nw_at (w := .fieldLinkNest RX1 58 (TX2 0).1 (TX2 0).2.1 (TX2 0).2.2.1 "CellPacks") 169 (by decide +kernel) rfl⟩⟩
theorem fo_16 : FOK ((1, 19, 1, 2, 0) : Nat × Nat × Nat × Nat × Int) := ⟨RX1, RX1, TX1, 7, rfl, rfl, by decide, Or.inl (gw_at 272 (by decide +kernel) (by decide +kernel))⟩
theorem fo_17 : FOK ((1, 23, 1, 3, 0) : Nat × Nat × Nat × Nat × Int) := ⟨RX1, RX1, TX1, 7, rfl, rfl, by decide, Or.inl (gw_at 273 (by decide +kernel) (by decide +kernel))⟩
theorem fo_18 : FOK ((2, 27, 2, 4, 0) : Nat × Nat × Nat × Nat × Int) := ⟨RX2, RX2, TX2, 9, rfl, rfl, by decide, Or.inl (gw_at 179 (by decide +kernel) (by decide +kernel))⟩
theorem fo_19 : FOK ((2, 31, 2, 5, 0) : Nat × Nat × Nat × Nat × Int) := ⟨RX2, RX2, TX2, 9, rfl, rfl, by decide, Or.inl (gw_at 184 (by decide +kernel) (by decide +kernel))⟩
theorem fo_20 : FOK ((2, 34, 2, 6, 0) : Nat × Nat × Nat × Nat × Int) := ⟨RX2, RX2, TX2, 9, rfl, rfl, by decide, Or.inl (gw_at 190 (by decide +kernel) (by decide +kernel))⟩
theorem fo_21 : FOK ((2, 37, 2, 7, 0) : Nat × Nat × Nat × Nat × Int) := ⟨RX2, RX2, TX2, 9, rfl, rfl, by decide, Or.inl (gw_at 193 (by decide +kernel) (by decide +kernel))⟩
theorem fo_22 : FOK ((2, 40, 2, 8, 0) : Nat × Nat × Nat × Nat × Int) := ⟨RX2, RX2, TX2, 9, rfl, rfl, by decide, Or.inl (gw_at 196 (by decide +kernel) (by decide +kernel))⟩
theorem fo_23 : FOK ((2, 9, 2, 0, 0) : Nat × Nat × Nat × Nat × Int) := ⟨RX2, RX2, TX2, 9, rfl, rfl, by decide, Or.inl (gw_at 167 (by decide +kernel) (by decide +kernel))⟩
theorem fo_24 : FOK ((2, 15, 2, 1, 0) : Nat × Nat × Nat × Nat × Int) := ⟨RX2, RX2, TX2, 9, rfl, rfl, by decide, Or.inl (gw_at 172 (by decide +kernel) (by decide +kernel))⟩
theorem fo_25 : FOK ((2, 18, 2, 2, 0) : Nat × Nat × Nat × Nat × Int) := ⟨RX2, RX2, TX2, 9, rfl, rfl, by decide, Or.inl (gw_at 174 (by decide +kernel) (by decide +kernel))⟩
theorem fo_26 : FOK ((2, 21, 2, 3, 0) : Nat × Nat × Nat × Nat × Int) := ⟨RX2, RX2, TX2, 9, rfl, rfl, by decide, Or.inl (gw_at 177 (by decide +kernel) (by decide +kernel))⟩
theorem fo_27 : FOK ((3, 15, 3, 1, 0) : Nat × Nat × Nat × Nat × Int) := ⟨RX3, RX3, TX3, 3, rfl, rfl, by decide, Or.inl (gw_at 344 (by decide +kernel) (by decide +kernel))⟩
theorem fo_28 : FOK ((3, 19, 3, 2, 0) : Nat × Nat × Nat × Nat × Int) := ⟨RX3, RX3, TX3, 3, rfl, rfl, by decide, Or.inl (gw_at 346 (by decide +kernel) (by decide +kernel))⟩
theorem fo_29 : FOK ((3, 9, 3, 0, 0) : Nat × Nat × Nat × Nat × Int) := ⟨RX3, RX3, TX3, 3, rfl, rfl, by decide, Or.inl (gw_at 342 (by decide +kernel) (by decide +kernel))⟩
theorem fo_30 : FOK ((4, 13, 4, 1, 0) : Nat × Nat × Nat × Nat × Int) := ⟨RX4, RX4, TX4, 2, rfl, rfl, by decide, Or.inl (gw_at 148 (by decide +kernel) (by decide +kernel))⟩
theorem fo_31 : FOK ((4, 9, 4, 0, 0) : Nat × Nat × Nat × Nat × Int) := ⟨RX4, RX4, TX4, 2, rfl, rfl, by decide, Or.inl (gw_at 146 (by decide +kernel) (by decide +kernel))⟩
theorem fo_32 : FOK ((5, 37, 5, 1, 0) : Nat × Nat × Nat × Nat × Int) := ⟨RX5, RX5, TX5, 9, rfl, rfl, by decide, Or.inl (gw_at 226 (by decide +kernel) (by decide +kernel))⟩
theorem fo_33 : FOK ((5, 9, 5, 2, 0) : Nat × Nat × Nat × Nat × Int) := ⟨RX5, RX5, TX5, 9, rfl, rfl, by decide, Or.inl (gw_at 227 (by decide +kernel) (by decide +kernel))⟩
theorem fo_34 : FOK ((5, 15, 5, 3, 0) : Nat × Nat × Nat × Nat × Int) := ⟨RX5, RX5, TX5, 9, rfl, rfl, by decide, Or.inl (gw_at 229 (by decide +kernel) (by decide +kernel))⟩
theorem fo_35 : FOK ((5, 24, 5, 6, 0) : Nat × Nat × Nat × Nat × Int) := ⟨RX5, RX5, TX5, 9, rfl, rfl, by decide, Or.inl (gw_at 233 (by decide +kernel) (by decide +kernel))⟩
theorem fo_36 : FOK ((5, 30, 5, 8, 0) : Nat × Nat × Nat × Nat × Int) := ⟨RX5, RX5, TX5, 9, rfl, rfl, by decide, Or.inl (gw_at 235 (by decide +kernel) (by decide +kernel))⟩
theorem fo_37 : FOK ((5, 18, 5, 4, 0) : Nat × Nat × Nat × Nat × Int) := ⟨RX5, RX5, TX5, 9, rfl, rfl, by decide, Or.inl (gw_at 231 (by decide +kernel) (by decide +kernel))⟩
theorem fo_38 : FOK ((5, 33, 5, 0, 0) : Nat × Nat × Nat × Nat × Int) := ⟨RX5, RX5, TX5, 9, rfl, rfl, by decide, Or.inl (gw_at 225 (by decide +kernel) (by decide +kernel))⟩
theorem fo_39 : FOK ((5, 21, 5, 5, 0) : Nat × Nat × Nat × Nat × Int) := ⟨RX5, RX5, TX5, 9, rfl, rfl, by decide, Or.inl (gw_at 232 (by decide +kernel) (by decide +kernel))⟩
theorem fo_40 : FOK ((5, 27, 5, 7, 0) : Nat × Nat × Nat × Nat × Int) := ⟨RX5, RX5, TX5, 9, rfl, rfl, by decide, Or.inl (gw_at 234 (by decide +kernel) (by decide +kernel))⟩
theorem fo_41 : FOK ((5, 102, 2, 5, 1) : Nat × Nat × Nat × Nat × Int) := ⟨RX5, RX2, TX2, 9, rfl, rfl, by decide, Or.inr ⟨_, nw_at (w := .fieldLinkNest RX5 102 (TX2 5).1 (TX2 5).2.1 (TX2 5).2.2.1 "CellPacks") 189 (by decide +kernel) rfl⟩⟩
theorem fo_42 : FOK ((5, 105, 2, 6, 1) : Nat × Nat × Nat × Nat × Int) := ⟨RX5, RX2, TX2, 9, rfl, rfl, by decide, Or.inr ⟨_, nw_at (w := .fieldLinkNest RX5 105 (TX2 6).1 (TX2 6).2.1 (TX2 6).2.2.1 "CellPacks") 192 (by decide +kernel) rfl⟩⟩
theorem fo_43 : FOK ((5, 107, 2, 7, 1) : Nat × Nat × Nat × Nat × Int) := ⟨RX5, RX2, TX2, 9, rfl, rfl, by decide, Or.inr ⟨_, nw_at (w := .fieldLinkNest RX5 107 (TX2 7).1 (TX2 7).2.1 (TX2 7).2.2.1 "CellPacks") 195 (by decide +kernel) rfl⟩⟩
theorem fo_44 : FOK ((5, 109, 2, 8, 1) : Nat × Nat × Nat × Nat × Int) := ⟨RX5, RX2, TX2, 9, rfl, rfl, by decide, Or.inr ⟨_, nw_at (w := .fieldLinkNest RX5 109 (TX2 8).1 (TX2 8).2.1 (TX2 8).2.2.1 "CellPacks") 198 (by decide +kernel) rfl⟩⟩
theorem fo_45 : FOK ((5, 111, 2, 4, 1) : Nat × Nat × Nat × Nat × Int) := ⟨RX5, RX2, TX2, 9, rfl, rfl, by decide, Or.inr ⟨_, nw_at (w := .fieldLinkNest RX5 111 (TX2 4).1 (TX2 4).2.1 (TX2 4).2.2.1 "CellPacks") 183 (by decide +kernel) rfl⟩⟩
theorem fo_46 : FOK ((5, 118, 4, 1, 1) : Nat × Nat × Nat × Nat × Int) := ⟨RX5, RX4, TX4, 2, rfl, rfl, by decide, Or.inr ⟨_, nw_at (w := .fieldLinkNest RX5 118 (TX4 1).1 (TX4 1).2.1 (TX4 1).2.2.1 "CellPacks") 150 (by decide +kernel) rfl⟩⟩
theorem fo_47 : FOK ((6, 24, 6, 3, 0) : Nat × Nat × Nat × Nat × Int) := ⟨RX6, RX6, TX6, 5, rfl, rfl, by decide, Or.inl (gw_at 321 (by decide +kernel) (by decide +kernel))⟩
theorem fo_48 : FOK ((6, 9, 6, 0, 0) : Nat × Nat × Nat × Nat × Int) := ⟨RX6, RX6, TX6, 5, rfl, rfl, by decide, Or.inl (gw_at 317 (by decide +kernel) (by decide +kernel))⟩
theorem fo_49 : FOK ((6, 31, 6, 4, 0) : Nat × Nat × Nat × Nat × Int) := ⟨RX6, RX6, TX6, 5, rfl, rfl, by decide, Or.inl (gw_at 323 (by decide +kernel) (by decide +kernel))⟩
theorem fo_50 : FOK ((6, 47, 2, 4, 1) : Nat × Nat × Nat × Nat × Int) := ⟨RX6, RX2, TX2, 9, rfl, rfl, by decide, Or.inr ⟨_, nw_at (w := .fieldLinkNest RX6 47 (TX2 4).1 (TX2 4).2.1 (TX2 4).2.2.1 "CellPacks") 181 (by decide +kernel) rfl⟩⟩
theorem fo_51 : FOK ((6, 53, 2, 5, 1) : Nat × Nat × Nat × Nat × Int) := ⟨RX6, RX2, TX2, 9, rfl, rfl, by decide, Or.inr ⟨_, nw_at (w := .fieldLinkNest RX6 53 (TX2 5).1 (TX2 5).2.1 (TX2 5).2.2.1 "CellPacks") 186 (by decide +kernel) rfl⟩⟩
theorem fo_52 : FOK ((6, 18, 6, 2, 0) : Nat × Nat × Nat × Nat × Int) := ⟨RX6, RX6, TX6, 5, rfl, rfl, by decide, Or.inl (gw_at 320 (by decide +kernel) (by decide +kernel))⟩
theorem fo_53 : FOK ((6, 15, 6, 1, 0) : Nat × Nat × Nat × Nat × Int) := ⟨RX6, RX6, TX6, 5, rfl, rfl, by decide, Or.inl (gw_at 319 (by decide +kernel) (by decide +kernel))⟩
theorem fo_54 : FOK ((6, 70, 2, 0, 1) : Nat × Nat × Nat × Nat × Int) := ⟨RX6, RX2, TX2, 9, rfl, rfl, by decide, Or.inr ⟨_, nw_at (w := .fieldLinkNest RX6 70 (TX2 0).1 (TX2 0).2.1 (TX2 0).2.2.1 "CellPacks") 170 (by decide +kernel) rfl⟩⟩
theorem fo_55 : FOK ((6, 84, 2, 2, 1) : Nat × Nat × Nat × Nat × Int) := ⟨RX6, RX2, TX2, 9, rfl, rfl, by decide, Or.inr ⟨_, nw_at (w := .fieldLinkNest RX6 84 (TX2 2).1 (TX2 2).2.1 (TX2 2).2.2.1 "CellPacks") 175 (by decide +kernel) rfl⟩⟩
theorem fo_56 : FOK ((7, 10, 7, 0, 0) : Nat × Nat × Nat × Nat × Int) := ⟨RX7, RX7, TX7, 10, rfl, rfl, by decide, Or.inl (gw_at 355 (by decide +kernel) (by decide +kernel))⟩
theorem fo_57 : FOK ((7, 68, 4, 1, 1) : Nat × Nat × Nat × Nat × Int) := ⟨RX7, RX4, TX4, 2, rfl, rfl, by decide, Or.inr ⟨_, nw_at (w := .fieldLinkNest RX7 68 (TX4 1).1 (TX4 1).2.1 (TX4 1).2.2.1 "CellPacks") 149 (by decide +kernel) rfl⟩⟩
theorem fo_58 : FOK ((7, 71, 4, 0, 1) : Nat × Nat × Nat × Nat × Int) := ⟨RX7, RX4, TX4, 2, rfl, rfl, by decide, Or.inr ⟨_, nw_at (w := .fieldLinkNest RX7 71 (TX4 0).1 (TX4 0).2.1 (TX4 0).2.2.1 "CellPacks") 147 (by decide +kernel) rfl⟩⟩
theorem fo_59 : FOK ((7, 31, 7, 3, 0) : Nat × Nat × Nat × Nat × Int) := ⟨RX7, RX7, TX7, 10, rfl, rfl, by decide, Or.inl (gw_at 358 (by decide +kernel) (by decide +kernel))⟩
theorem fo_60 : FOK ((7, 78, 5, 2, 1) : Nat × Nat × Nat × Nat × Int) := ⟨RX7, RX5, TX5, 9, rfl, rfl, by decide, Or.inr ⟨_, nw_at (w := .fieldLinkNest RX7 78 (TX5 2).1 (TX5 2).2.1 (TX5 2).2.2.1 "CellPacks") 228 (by decide +kernel) rfl⟩⟩
theorem fo_61 : FOK ((7, 57, 7, 8, 0) : Nat × Nat × Nat × Nat × Int) := ⟨RX7, RX7, TX7, 10, rfl, rfl, by decide, Or.inl (gw_at 363 (by decide +kernel) (by decide +kernel))⟩
theorem fo_62 : FOK ((7, 81, 5, 3, 1) : Nat × Nat × Nat × Nat × Int) := ⟨RX7, RX5, TX5, 9, rfl, rfl, by decide, Or.inr ⟨_, nw_at (w := .fieldLinkNest RX7 81 (TX5 3).1 (TX5 3).2.1 (TX5 3).2.2.1 "CellPacks") 230 (by decide +kernel) rfl⟩⟩
theorem fo_63 : FOK ((7, 19, 7, 1, 0) : Nat × Nat × Nat × Nat × Int) := ⟨RX7, RX7, TX7, 10, rfl, rfl, by decide, Or.inl (gw_at 356 (by decide +kernel) (by decide +kernel))⟩
theorem fo_64 : FOK ((7, 23, 7, 2, 0) : Nat × Nat × Nat × Nat × Int) := ⟨RX7, RX7, TX7, 10, rfl, rfl, by decide, Or.inl (gw_at 357 (by decide +kernel) (by decide +kernel))⟩
theorem fo_65 : FOK ((7, 95, 2, 4, 1) : Nat × Nat × Nat × Nat × Int) := ⟨RX7, RX2, TX2, 9, rfl, rfl, by decide, Or.inr ⟨_, nw_at (w := .fieldLinkNest RX7 95 (TX2 4).1 (TX2 4).2.1 (TX2 4).2.2.1 "CellPacks") 182 (by decide +kernel) rfl⟩⟩
theorem fo_66 : FOK ((7, 98, 2, 5, 1) : Nat × Nat × Nat × Nat × Int) := ⟨RX7, RX2, TX2, 9, rfl, rfl, by decide, Or.inr ⟨_, nw_at (w := .fieldLinkNest RX7 98 (TX2 5).1 (TX2 5).2.1 (TX2 5).2.2.1 "CellPacks") 188 (by decide +kernel) rfl⟩⟩
theorem fo_67 : FOK ((7, 101, 2, 6, 1) : Nat × Nat × Nat × Nat × Int) := ⟨RX7, RX2, TX2, 9, rfl, rfl, by decide, Or.inr ⟨_, nw_at (w := .fieldLinkNest RX7 101 (TX2 6).1 (TX2 6).2.1 (TX2 6).2.2.1 "CellPacks") 191 (by decide +kernel) rfl⟩⟩
theorem fo_68 : FOK ((7, 104, 2, 7, 1) : Nat × Nat × Nat × Nat × Int) := ⟨RX7, RX2, TX2, 9, rfl, rfl, by decide, Or.inr ⟨_, nw_at (w := .fieldLinkNest RX7 104 (TX2 7).1 (TX2 7).2.1 (TX2 7).2.2.1 "CellPacks") 194 (by decide +kernel) rfl⟩⟩
theorem fo_69 : FOK ((7, 107, 2, 8, 1) : Nat × Nat × Nat × Nat × Int) := ⟨RX7, RX2, TX2, 9, rfl, rfl, by decide, Or.inr ⟨_, nw_at (w := .fieldLinkNest RX7 107 (TX2 8).1 (TX2 8).2.1 (TX2 8).2.2.1 "CellPacks") 197 (by decide +kernel) rfl⟩⟩
theorem fo_70 : FOK ((7, 120, 2, 1, 1) : Nat × Nat × Nat × Nat × Int) := ⟨RX7, RX2, TX2, 9, rfl, rfl, by decide, Or.inr ⟨_, nw_at (w := .fieldLinkNest RX7 120 (TX2 1).1 (TX2 1).2.1 (TX2 1).2.2.1 "CellPacks") 173 (by decide +kernel) rfl⟩⟩
theorem fo_71 : FOK ((7, 128, 2, 0, 1) : Nat × Nat × Nat × Nat × Int) := ⟨RX7, RX2, TX2, 9, rfl, rfl, by decide, Or.inr ⟨_, nw_at (w := .fieldLinkNest RX7 128 (TX2 0).1 (TX2 0).2.1 (TX2 0).2.2.1 "CellPacks") 171 (by decide +kernel) rfl⟩⟩
theorem fo_72 : FOK ((7, 135, 2, 2, 1) : Nat × Nat × Nat × Nat × Int) := ⟨RX7, RX2, TX2, 9, rfl, rfl, by decide, Or.inr ⟨_, nw_at (w := .fieldLinkNest RX7 135 (TX2 2).1 (TX2 2).2.1 (TX2 2).2.2.1 "CellPacks") 176 (by decide +kernel) rfl⟩⟩
theorem fo_73 : FOK ((7, 46, 7, 6, 0) : Nat × Nat × Nat × Nat × Int) := ⟨RX7, RX7, TX7, 10, rfl, rfl, by decide, Or.inl (gw_at 361 (by decide +kernel) (by decide +kernel))⟩
theorem fo_74 : FOK ((7, 180, 6, 0, 1) : Nat × Nat × Nat × Nat × Int) := ⟨RX7, RX6, TX6, 5, rfl, rfl, by decide, Or.inr ⟨_, nw_at (w := .fieldLinkNest RX7 180 (TX6 0).1 (TX6 0).2.1 (TX6 0).2.2.1 "CellPacks") 318 (by decide +kernel) rfl⟩⟩
theorem fo_75 : FOK ((7, 189, 6, 3, 1) : Nat × Nat × Nat × Nat × Int) := ⟨RX7, RX6, TX6, 5, rfl, rfl, by decide, Or.inr ⟨_, nw_at (w := .fieldLinkNest RX7 189 (TX6 3).1 (TX6 3).2.1 (TX6 3).2.2.1 "CellPacks") 322 (by decide +kernel) rfl⟩⟩
theorem fo_76 : FOK ((7, 193, 1, 4, 1) : Nat × Nat × Nat × Nat × Int) := ⟨RX7, RX1, TX1, 7, rfl, rfl, by decide, Or.inr ⟨_, nw_at (w := .fieldLinkNest RX7 193 (TX1 4).1 (TX1 4).2.1 (TX1 4).2.2.1 "CellPacks") 276 (by decide +kernel) rfl⟩⟩
theorem fo_77 : FOK ((7, 198, 1, 3, 1) : Nat × Nat × Nat × Nat × Int) := ⟨RX7, RX1, TX1, 7, rfl, rfl, by decide, Or.inr ⟨_, nw_at (w := .fieldLinkNest RX7 198 (TX1 3).1 (TX1 3).2.1 (TX1 3).2.2.1 "CellPacks") 274 (by decide +kernel) rfl⟩⟩
theorem fo_78 : FOK ((7, 39, 7, 5, 0) : Nat × Nat × Nat × Nat × Int) := ⟨RX7, RX7, TX7, 10, rfl, rfl, by decide, Or.inl (gw_at 360 (by decide +kernel) (by decide +kernel))⟩
theorem fo_79 : FOK ((7, 35, 7, 4, 0) : Nat × Nat × Nat × Nat × Int) := ⟨RX7, RX7, TX7, 10, rfl, rfl, by decide, Or.inl (gw_at 359 (by decide +kernel) (by decide +kernel))⟩
theorem fo_80 : FOK ((7, 52, 7, 7, 0) : Nat × Nat × Nat × Nat × Int) := ⟨RX7, RX7, TX7, 10, rfl, rfl, by decide, Or.inl (gw_at 362 (by decide +kernel) (by decide +kernel))⟩
theorem fo_81 : FOK ((7, 246, 3, 0, 1) : Nat × Nat × Nat × Nat × Int) := ⟨RX7, RX3, TX3, 3, rfl, rfl, by decide, Or.inr ⟨_, nw_at (w := .fieldLinkNest RX7 246 (TX3 0).1 (TX3 0).2.1 (TX3 0).2.2.1 "CellPacks") 343 (by decide +kernel) rfl⟩⟩
theorem fo_82 : FOK ((7, 61, 7, 9, 0) : Nat × Nat × Nat × Nat × Int) := ⟨RX7, RX7, TX7, 10, rfl, rfl, by decide, Or.inl (gw_at 364 (by decide +kernel) (by decide +kernel))⟩
theorem fo_83 : FOK ((7, 258, 3, 1, 1) : Nat × Nat × Nat × Nat × Int) := ⟨RX7, RX3, TX3, 3, rfl, rfl, by decide, Or.inr ⟨_, nw_at (w := .fieldLinkNest RX7 258 (TX3 1).1 (TX3 1).2.1 (TX3 1).2.2.1 "CellPacks") 345 (by decide +kernel) rfl⟩⟩
theorem fo_84 : FOK ((7, 261, 3, 2, 1) : Nat × Nat × Nat × Nat × Int) := ⟨RX7, RX3, TX3, 3, rfl, rfl, by decide, Or.inr ⟨_, nw_at (w := .fieldLinkNest RX7 261 (TX3 2).1 (TX3 2).2.1 (TX3 2).2.2.1 "CellPacks") 347 (by decide +kernel) rfl⟩⟩
theorem fo_85 : FOK ((8, 53, 8, 22, 0) : Nat × Nat × Nat × Nat × Int) := ⟨RX8, RX8, TX8, 26, rfl, rfl, by decide, Or.inl (gw_at 922 (by decide +kernel) (by decide +kernel))⟩
theorem fo_86 : FOK ((8, 7, 8, 0, 0) : Nat × Nat × Nat × Nat × Int) := ⟨RX8, RX8, TX8, 26, rfl, rfl, by decide, Or.inl (gw_at 900 (by decide +kernel) (by decide +kernel))⟩
theorem fo_87 : FOK ((8, 23, 8, 4, 0) : Nat × Nat × Nat × Nat × Int) := ⟨RX8, RX8, TX8, 26, rfl, rfl, by decide, Or.inl (gw_at 904 (by decide +kernel) (by decide +kernel))⟩
theorem fo_88 : FOK ((8, 29, 8, 6, 0) : Nat × Nat × Nat × Nat × Int) := ⟨RX8, RX8, TX8, 26, rfl, rfl, by decide, Or.inl (gw_at 906 (by decide +kernel) (by decide +kernel))⟩
theorem fo_89 : FOK ((8, 71, 8, 7, 0) : Nat × Nat × Nat × Nat × Int) := ⟨RX8, RX8, TX8, 26, rfl, rfl, by decide, Or.inl (gw_at 907 (by decide +kernel) (by decide +kernel))⟩
theorem fo_90 : FOK ((8, 26, 8, 5, 0) : Nat × Nat × Nat × Nat × Int) := ⟨RX8, RX8, TX8, 26, rfl, rfl, by decide, Or.inl (gw_at 905 (by decide +kernel) (by decide +kernel))⟩
theorem fo_91 : FOK ((8, 75, 8, 12, 0) : Nat × Nat × Nat × Nat × Int) := ⟨RX8, RX8, TX8, 26, rfl, rfl, by decide, Or.inl (gw_at 912 (by decide +kernel) (by decide +kernel))⟩
theorem fo_92 : FOK ((8, 78, 8, 9, 0) : Nat × Nat × Nat × Nat × Int) := ⟨RX8, RX8, TX8, 26, rfl, rfl, by decide, Or.inl (gw_at 909 (by decide +kernel) (by decide +kernel))⟩
theorem fo_93 : FOK ((8, 81, 8, 13, 0) : Nat × Nat × Nat × Nat × Int) := ⟨RX8, RX8, TX8, 26, rfl, rfl, by decide, Or.inl (gw_at 913 (by decide +kernel) (by decide +kernel))⟩
theorem fo_94 : FOK ((8, 84, 8, 10, 0) : Nat × Nat × Nat × Nat × Int) := ⟨RX8, RX8, TX8, 26, rfl, rfl, by decide, Or.inl (gw_at 910 (by decide +kernel) (by decide +kernel))⟩
theorem fo_95 : FOK ((8, 87, 8, 8, 0) : Nat × Nat × Nat × Nat × Int) := ⟨RX8, RX8, TX8, 26, rfl, rfl, by decide, Or.inl (gw_at 908 (by decide +kernel) (by decide +kernel))⟩
theorem fo_96 : FOK ((8, 106, 8, 11, 0) : Nat × Nat × Nat × Nat × Int) := ⟨RX8, RX8, TX8, 26, rfl, rfl, by decide, Or.inl (gw_at 911 (by decide +kernel) (by decide +kernel))⟩
theorem fo_97 : FOK ((8, 16, 8, 2, 0) : Nat × Nat × Nat × Nat × Int) := ⟨RX8, RX8, TX8, 26, rfl, rfl, by decide, Or.inl (gw_at 902 (by decide +kernel) (by decide +kernel))⟩
theorem fo_98 : FOK ((8, 32, 8, 14, 0) : Nat × Nat × Nat × Nat × Int) := ⟨RX8, RX8, TX8, 26, rfl, rfl, by decide, Or.inl (gw_at 914 (by decide +kernel) (by decide +kernel))⟩
theorem fo_99 : FOK ((8, 35, 8, 15, 0) : Nat × Nat × Nat × Nat × Int) := ⟨RX8, RX8, TX8, 26, rfl, rfl, by decide, Or.inl (gw_at 915 (by decide +kernel) (by decide +kernel))⟩
theorem fo_100 : FOK ((8, 38, 8, 16, 0) : Nat × Nat × Nat × Nat × Int) := ⟨RX8, RX8, TX8, 26, rfl, rfl, by decide, Or.inl (gw_at 916 (by decide +kernel) (by decide +kernel))⟩
theorem fo_101 : FOK ((8, 41, 8, 17, 0) : Nat × Nat × Nat × Nat × Int) := ⟨RX8, RX8, TX8, 26, rfl, rfl, by decide, Or.inl (gw_at 917 (by decide +kernel) (by decide +kernel))⟩
theorem fo_102 : FOK ((8, 204, 8, 21, 0) : Nat × Nat × Nat × Nat × Int) := ⟨RX8, RX8, TX8, 26, rfl, rfl, by decide, Or.inl (gw_at 921 (by decide +kernel) (by decide +kernel))⟩
theorem fo_103 : FOK ((8, 44, 8, 18, 0) : Nat × Nat × Nat × Nat × Int) := ⟨RX8, RX8, TX8, 26, rfl, rfl, by decide, Or.inl (gw_at 918 (by decide +kernel) (by decide +kernel))⟩
theorem fo_104 : FOK ((8, 47, 8, 19, 0) : Nat × Nat × Nat × Nat × Int) := ⟨RX8, RX8, TX8, 26, rfl, rfl, by decide, Or.inl (gw_at 919 (by decide +kernel) (by decide +kernel))⟩
theorem fo_105 : FOK ((8, 50, 8, 20, 0) : Nat × Nat × Nat × Nat × Int) := ⟨RX8, RX8, TX8, 26, rfl, rfl, by decide, Or.inl (gw_at 920 (by decide +kernel) (by decide +kernel))⟩
theorem fo_106 : FOK ((8, 20, 8, 3, 0) : Nat × Nat × Nat × Nat × Int) := ⟨RX8, RX8, TX8, 26, rfl, rfl, by decide, Or.inl (gw_at 903 (by decide +kernel) (by decide +kernel))⟩
theorem fo_107 : FOK ((8, 13, 8, 1, 0) : Nat × Nat × Nat × Nat × Int) := ⟨RX8, RX8, TX8, 26, rfl, rfl, by decide, Or.inl (gw_at 901 (by decide +kernel) (by decide +kernel))⟩
theorem fo_108 : FOK ((8, 56, 8, 23, 0) : Nat × Nat × Nat × Nat × Int) := ⟨RX8, RX8, TX8, 26, rfl, rfl, by decide, Or.inl (gw_at 923 (by decide +kernel) (by decide +kernel))⟩
theorem fo_109 : FOK ((8, 59, 8, 24, 0) : Nat × Nat × Nat × Nat × Int) := ⟨RX8, RX8, TX8, 26, rfl, rfl, by decide, Or.inl (gw_at 924 (by decide +kernel) (by decide +kernel))⟩
theorem fo_110 : FOK ((8, 293, 8, 25, 0) : Nat × Nat × Nat × Nat × Int) := ⟨RX8, RX8, TX8, 26, rfl, rfl, by decide, Or.inl (gw_at 925 (by decide +kernel) (by decide +kernel))⟩
theorem fl_c_0 : ∀ e ∈ [((0, 28, 2, 4, 1) : Nat × Nat × Nat × Nat × Int), ((0, 18, 0, 2, 0) : Nat × Nat × Nat × Nat × Int), ((0, 21, 0, 3, 0) : Nat × Nat × Nat × Nat × Int), ((0, 25, 0, 4, 0) : Nat × Nat × Nat × Nat × Int), ((0, 39, 2, 0, 1) : Nat × Nat × Nat × Nat × Int), ((0, 15, 0, 1, 0) : Nat × Nat × Nat × Nat × Int), ((0, 60, 2, 5, 1) : Nat × Nat × Nat × Nat × Int), ((0, 9, 0, 0, 0) : Nat × Nat × Nat × Nat × Int), ((1, 31, 1, 5, 0) : Nat × Nat × Nat × Nat × Int), ((1, 48, 2, 4, 1) : Nat × Nat × Nat × Nat × Int), ((1, 51, 2, 5, 1) : Nat × Nat × Nat × Nat × Int), ((1, 34, 1, 6, 0) : Nat × Nat × Nat × Nat × Int), ((1, 27, 1, 4, 0) : Nat × Nat × Nat × Nat × Int), ((1, 11, 1, 0, 0) : Nat × Nat × Nat × Nat × Int), ((1, 16, 1, 1, 0) : Nat × Nat × Nat × Nat × Int), ((1, 58, 2, 0, 1) : Nat × Nat × Nat × Nat × Int), ((1, 19, 1, 2, 0) : Nat × Nat × Nat × Nat × Int), ((1, 23, 1, 3, 0) : Nat × Nat × Nat × Nat × Int), ((2, 27, 2, 4, 0) : Nat × Nat × Nat × Nat × Int), ((2, 31, 2, 5, 0) : Nat × Nat × Nat × Nat × Int), ((2, 34, 2, 6, 0) : Nat × Nat × Nat × Nat × Int), ((2, 37, 2, 7, 0) : Nat × Nat × Nat × Nat × Int), ((2, 40, 2, 8, 0) : Nat × Nat × Nat × Nat × Int), ((2, 9, 2, 0, 0) : Nat × Nat × Nat × Nat × Int), ((2, 15, 2, 1, 0) : Nat × Nat × Nat × Nat × Int)], FOK e := List.forall_mem_cons.mpr ⟨fo_0, List.forall_mem_cons.mpr ⟨fo_1, List.forall_mem_cons.mpr ⟨fo_2, List.forall_mem_cons.mpr ⟨fo_3, List.forall_mem_cons.mpr ⟨fo_4, List.forall_mem_cons.mpr ⟨fo_5, List.forall_mem_cons.mpr ⟨fo_6, List.forall_mem_cons.mpr ⟨fo_7, List.forall_mem_cons.mpr ⟨fo_8, List.forall_mem_cons.mpr ⟨fo_9, List.forall_mem_cons.mpr ⟨fo_10, List.forall_mem_cons.mpr ⟨fo_11, List.forall_mem_cons.mpr ⟨fo_12, List.forall_mem_cons.mpr ⟨fo_13, List.forall_mem_cons.mpr ⟨fo_14, List.forall_mem_cons.mpr ⟨fo_15, List.forall_mem_cons.mpr ⟨fo_16, List.forall_mem_cons.mpr ⟨fo_17, List.forall_mem_cons.mpr ⟨fo_18, List.forall_mem_cons.mpr ⟨fo_19, List.forall_mem_cons.mpr ⟨fo_20, List.forall_mem_cons.mpr ⟨fo_21, List.forall_mem_cons.mpr ⟨fo_22, List.forall_mem_cons.mpr ⟨fo_23, List.forall_mem_cons.mpr ⟨fo_24, List.forall_mem_nil _⟩⟩⟩⟩⟩⟩⟩⟩⟩⟩⟩⟩⟩⟩⟩⟩⟩⟩⟩⟩⟩⟩⟩⟩⟩
theorem fl_c_1 : ∀ e ∈ [((2, 18, 2, 2, 0) : Nat × Nat × Nat × Nat × Int), ((2, 21, 2, 3, 0) : Nat × Nat × Nat × Nat × Int), ((3, 15, 3, 1, 0) : Nat × Nat × Nat × Nat × Int), ((3, 19, 3, 2, 0) : Nat × Nat × Nat × Nat × Int), ((3, 9, 3, 0, 0) : Nat × Nat × Nat × Nat × Int), ((4, 13, 4, 1, 0) : Nat × Nat × Nat × Nat × Int), ((4, 9, 4, 0, 0) : Nat × Nat × Nat × Nat × Int), ((5, 37, 5, 1, 0) : Nat × Nat × Nat × Nat × Int), ((5, 9, 5, 2, 0) : Nat × Nat × Nat × Nat × Int), ((5, 15, 5, 3, 0) : Nat × Nat × Nat × Nat × Int), ((5, 24, 5, 6, 0) : Nat × Nat × Nat × Nat × Int), ((5, 30, 5, 8, 0) : Nat × Nat × Nat × Nat × Int), ((5, 18, 5, 4, 0) : Nat × Nat × Nat × Nat × Int), ((5, 33, 5, 0, 0) : Nat × Nat × Nat × Nat × Int), ((5, 21, 5, 5, 0) : Nat × Nat × Nat × Nat × Int), ((5, 27, 5, 7, 0) : Nat × Nat × Nat × Nat × Int), ((5, 102, 2, 5, 1) : Nat × Nat × Nat × Nat × Int), ((5, 105, 2, 6, 1) : Nat × Nat × Nat × Nat × Int), ((5, 107, 2, 7, 1) : Nat × Nat × Nat × Nat × Int), ((5, 109, 2, 8, 1) : Nat × Nat × Nat × Nat × Int), ((5, 111, 2, 4, 1) : Nat × Nat × Nat × Nat × Int), ((5, 118, 4, 1, 1) : Nat × Nat × Nat × Nat × Int), ((6, 24, 6, 3, 0) : Nat × Nat × Nat × Nat × Int), ((6, 9, 6, 0, 0) : Nat × Nat × Nat × Nat × Int), ((6, 31, 6, 4, 0) : Nat × Nat × Nat × Nat × Int)], FOK e := List.forall_mem_cons.mpr ⟨fo_25, List.forall_mem_cons.mpr ⟨fo_26, List.forall_mem_cons.mpr ⟨fo_27, List.forall_mem_cons.mpr ⟨fo_28, List.forall_mem_cons.mpr ⟨fo_29, List.forall_mem_cons.mpr ⟨fo_30, List.forall_mem_cons.mpr ⟨fo_31, List.forall_mem_cons.mpr ⟨fo_32, List.forall_mem_cons.mpr ⟨fo_33, List.forall_mem_cons.mpr ⟨fo_34, List.forall_mem_cons.mpr ⟨fo_35, List.forall_mem_cons.mpr ⟨fo_36, List.forall_mem_cons.mpr ⟨fo_37, List.forall_mem_cons.mpr ⟨fo_38, List.forall_mem_cons.mpr ⟨fo_39, List.forall_mem_cons.mpr ⟨fo_40, List.forall_mem_cons.mpr ⟨fo_41, List.forall_mem_cons.mpr ⟨fo_42, List.forall_mem_cons.mpr ⟨fo_43, List.forall_mem_cons.mpr ⟨fo_44, List.forall_mem_cons.mpr ⟨fo_45, List.forall_mem_cons.mpr ⟨fo_46, List.forall_mem_cons.mpr ⟨fo_47, List.forall_mem_cons.mpr ⟨fo_48, List.forall_mem_cons.mpr ⟨fo_49, List.forall_mem_nil _⟩⟩⟩⟩⟩⟩⟩⟩⟩⟩⟩⟩⟩⟩⟩⟩⟩⟩⟩⟩⟩⟩⟩⟩⟩
theorem fl_c_2 : ∀ e ∈ [((6, 47, 2, 4, 1) : Nat × Nat × Nat × Nat × Int), ((6, 53, 2, 5, 1) : Nat × Nat × Nat × Nat × Int), ((6, 18, 6, 2, 0) : Nat × Nat × Nat × Nat × Int), ((6, 15, 6, 1, 0) : Nat × Nat × Nat × Nat × Int), ((6, 70, 2, 0, 1) : Nat × Nat × Nat × Nat × Int), ((6, 84, 2, 2, 1) : Nat × Nat × Nat × Nat × Int), ((7, 10, 7, 0, 0) : Nat × Nat × Nat × Nat × Int), ((7, 68, 4, 1, 1) : Nat × Nat × Nat × Nat × Int), ((7, 71, 4, 0, 1) : Nat × Nat × Nat × Nat × Int), ((7, 31, 7, 3, 0) : Nat × Nat × Nat × Nat × Int), ((7, 78, 5, 2, 1) : Nat × Nat × Nat × Nat × Int), ((7, 57, 7, 8, 0) : Nat × Nat × Nat × Nat × Int), ((7, 81, 5, 3, 1) : Nat × Nat × Nat × Nat × Int), ((7, 19, 7, 1, 0) : Nat × Nat × Nat × Nat × Int), ((7, 23, 7, 2, 0) : Nat × Nat × Nat × Nat × Int), ((7, 95, 2, 4, 1) : Nat × Nat × Nat × Nat × Int), ((7, 98, 2, 5, 1) : Nat × Nat × Nat × Nat × Int), ((7, 101, 2, 6, 1) : Nat × Nat × Nat × Nat × Int), ((7, 104, 2, 7, 1) : Nat × Nat × Nat × Nat × Int), ((7, 107, 2, 8, 1) : Nat × Nat × Nat × Nat × Int), ((7, 120, 2, 1, 1) : Nat × Nat × Nat × Nat × Int), ((7, 128, 2, 0, 1) : Nat × Nat × Nat × Nat × Int), ((7, 135, 2, 2, 1) : Nat × Nat × Nat × Nat × Int), ((7, 46, 7, 6, 0) : Nat × Nat × Nat × Nat × Int), ((7, 180, 6, 0, 1) : Nat × Nat × Nat × Nat × Int)], FOK e := List.forall_mem_cons.mpr ⟨fo_50, List.forall_mem_cons.mpr ⟨fo_51, List.forall_mem_cons.mpr ⟨fo_52, List.forall_mem_cons.mpr ⟨fo_53, List.forall_mem_cons.mpr ⟨fo_54, List.forall_mem_cons.mpr ⟨fo_55, List.forall_mem_cons.mpr ⟨fo_56, List.forall_mem_cons.mpr ⟨fo_57, List.forall_mem_cons.mpr ⟨fo_58, List.forall_mem_cons.mpr ⟨fo_59, List.forall_mem_cons.mpr ⟨fo_60, List.forall_mem_cons.mpr ⟨fo_61, List.forall_mem_cons.mpr ⟨fo_62, List.forall_mem_cons.mpr ⟨fo_63, List.forall_mem_cons.mpr ⟨fo_64, List.forall_mem_cons.mpr ⟨fo_65, List.forall_mem_cons.mpr ⟨fo_66, List.forall_mem_cons.mpr ⟨fo_67, List.forall_mem_cons.mpr ⟨fo_68, List.forall_mem_cons.mpr ⟨fo_69, List.forall_mem_cons.mpr ⟨fo_70, List.forall_mem_cons.mpr ⟨fo_71, List.forall_mem_cons.mpr ⟨fo_72, List.forall_mem_cons.mpr ⟨fo_73, List.forall_mem_cons.mpr ⟨fo_74, List.forall_mem_nil _⟩⟩⟩⟩⟩⟩⟩⟩⟩⟩⟩⟩⟩⟩⟩⟩⟩⟩⟩⟩⟩⟩⟩⟩⟩
theorem fl_c_3 : ∀ e ∈ [((7, 189, 6, 3, 1) : Nat × Nat × Nat × Nat × Int), ((7, 193, 1, 4, 1) : Nat × Nat × Nat × Nat × Int), ((7, 198, 1, 3, 1) : Nat × Nat × Nat × Nat × Int), ((7, 39, 7, 5, 0) : Nat × Nat × Nat × Nat × Int), ((7, 35, 7, 4, 0) : Nat × Nat × Nat × Nat × Int), ((7, 52, 7, 7, 0) : Nat × Nat × Nat × Nat × Int), ((7, 246, 3, 0, 1) : Nat × Nat × Nat × Nat × Int), ((7, 61, 7, 9, 0) : Nat × Nat × Nat × Nat × Int), ((7, 258, 3, 1, 1) : Nat × Nat × Nat × Nat × Int), ((7, 261, 3, 2, 1) : Nat × Nat × Nat × Nat × Int), ((8, 53, 8, 22, 0) : Nat × Nat × Nat × Nat × Int), ((8, 7, 8, 0, 0) : Nat × Nat × Nat × Nat × Int), ((8, 23, 8, 4, 0) : Nat × Nat × Nat × Nat × Int), ((8, 29, 8, 6, 0) : Nat × Nat × Nat × Nat × Int), ((8, 71, 8, 7, 0) : Nat × Nat × Nat × Nat × Int), ((8, 26, 8, 5, 0) : Nat × Nat × Nat × Nat × Int), ((8, 75, 8, 12, 0) : Nat × Nat × Nat × Nat × Int), ((8, 78, 8, 9, 0) : Nat × Nat × Nat × Nat × Int), ((8, 81, 8, 13, 0) : Nat × Nat × Nat × Nat × Int), ((8, 84, 8, 10, 0) : Nat × Nat × Nat × Nat × Int), ((8, 87, 8, 8, 0) : Nat × Nat × Nat × Nat × Int), ((8, 106, 8, 11, 0) : Nat × Nat × Nat × Nat × Int), ((8, 16, 8, 2, 0) : Nat × Nat × Nat × Nat × Int), ((8, 32, 8, 14, 0) : Nat × Nat × Nat × Nat × Int), ((8, 35, 8, 15, 0) : Nat × Nat × Nat × Nat × Int)], FOK e := List.forall_mem_cons.mpr ⟨fo_75, List.forall_mem_cons.mpr ⟨fo_76, List.forall_mem_cons.mpr ⟨fo_77, List.forall_mem_cons.mpr ⟨fo_78, List.forall_mem_cons.mpr ⟨fo_79, List.forall_mem_cons.mpr ⟨fo_80, List.forall_mem_cons.mpr ⟨fo_81, List.forall_mem_cons.mpr ⟨fo_82, List.forall_mem_cons.mpr ⟨fo_83, List.forall_mem_cons.mpr ⟨fo_84, List.forall_mem_cons.mpr ⟨fo_85, List.forall_mem_cons.mpr ⟨fo_86, List.forall_mem_cons.mpr ⟨fo_87, List.forall_mem_cons.mpr ⟨fo_88, List.forall_mem_cons.mpr ⟨fo_89, List.forall_mem_cons.mpr ⟨fo_90, List.forall_mem_cons.mpr ⟨fo_91, List.forall_mem_cons.mpr ⟨fo_92, List.forall_mem_cons.mpr ⟨fo_93, List.forall_mem_cons.mpr ⟨fo_94, List.forall_mem_cons.mpr ⟨fo_95, List.forall_mem_cons.mpr ⟨fo_96, List.forall_mem_cons.mpr ⟨fo_97, List.forall_mem_cons.mpr ⟨fo_98, List.forall_mem_cons.mpr ⟨fo_99, List.forall_mem_nil _⟩⟩⟩⟩⟩⟩⟩⟩⟩⟩⟩⟩⟩⟩⟩⟩⟩⟩⟩⟩⟩⟩⟩⟩⟩
theorem fl_c_4 : ∀ e ∈ [((8, 38, 8, 16, 0) : Nat × Nat × Nat × Nat × Int), ((8, 41, 8, 17, 0) : Nat × Nat × Nat × Nat × Int), ((8, 204, 8, 21, 0) : Nat × Nat × Nat × Nat × Int), ((8, 44, 8, 18, 0) : Nat × Nat × Nat × Nat × Int), ((8, 47, 8, 19, 0) : Nat × Nat × Nat × Nat × Int), ((8, 50, 8, 20, 0) : Nat × Nat × Nat × Nat × Int), ((8, 20, 8, 3, 0) : Nat × Nat × Nat × Nat × Int), ((8, 13, 8, 1, 0) : Nat × Nat × Nat × Nat × Int), ((8, 56, 8, 23, 0) : Nat × Nat × Nat × Nat × Int), ((8, 59, 8, 24, 0) : Nat × Nat × Nat × Nat × Int), ((8, 293, 8, 25, 0) : Nat × Nat × Nat × Nat × Int)], FOK e := List.forall_mem_cons.mpr ⟨fo_100, List.forall_mem_cons.mpr ⟨fo_101, List.forall_mem_cons.mpr ⟨fo_102, List.forall_mem_cons.mpr ⟨fo_103, List.forall_mem_cons.mpr ⟨fo_104, List.forall_mem_cons.mpr ⟨fo_105, List.forall_mem_cons.mpr ⟨fo_106, List.forall_mem_cons.mpr ⟨fo_107, List.forall_mem_cons.mpr ⟨fo_108, List.forall_mem_cons.mpr ⟨fo_109, List.forall_mem_cons.mpr ⟨fo_110, List.forall_mem_nil _⟩⟩⟩⟩⟩⟩⟩⟩⟩⟩⟩
theorem fl_ok : ∀ e ∈ FLT, FOK e := by
  intro e he
  rw [show FLT = [((0, 28, 2, 4, 1) : Nat × Nat × Nat × Nat × Int), ((0, 18, 0, 2, 0) : Nat × Nat × Nat × Nat × Int), ((0, 21, 0, 3, 0) : Nat × Nat × Nat × Nat × Int), ((0, 25, 0, 4, 0) : Nat × Nat × Nat × Nat × Int), ((0, 39, 2, 0, 1) : Nat × Nat × Nat × Nat × Int), ((0, 15, 0, 1, 0) : Nat × Nat × Nat × Nat × Int), ((0, 60, 2, 5, 1) : Nat × Nat × Nat × Nat × Int), ((0, 9, 0, 0, 0) : Nat × Nat × Nat × Nat × Int), ((1, 31, 1, 5, 0) : Nat × Nat × Nat × Nat × Int), ((1, 48, 2, 4, 1) : Nat × Nat × Nat × Nat × Int), ((1, 51, 2, 5, 1) : Nat × Nat × Nat × Nat × Int), ((1, 34, 1, 6, 0) : Nat × Nat × Nat × Nat × Int), ((1, 27, 1, 4, 0) : Nat × Nat × Nat × Nat × Int), ((1, 11, 1, 0, 0) : Nat × Nat × Nat × Nat × Int), ((1, 16, 1, 1, 0) : Nat × Nat × Nat × Nat × Int), ((1, 58, 2, 0, 1) : Nat × Nat × Nat × Nat × Int), ((1, 19, 1, 2, 0) : Nat × Nat × Nat × Nat × Int), ((1, 23, 1, 3, 0) : Nat × Nat × Nat × Nat × Int), ((2, 27, 2, 4, 0) : Nat × Nat × Nat × Nat × Int), ((2, 31, 2, 5, 0) : Nat × Nat × Nat × Nat × Int), ((2, 34, 2, 6, 0) : Nat × Nat × Nat × Nat × Int), ((2, 37, 2, 7, 0) : Nat × Nat × Nat × Nat × Int), ((2, 40, 2, 8, 0) : Nat × Nat × Nat × Nat × Int), ((2, 9, 2, 0, 0) : Nat × Nat × Nat × Nat × Int), ((2, 15, 2, 1, 0) : Nat × Nat × Nat × Nat × Int)] ++ [((2, 18, 2, 2, 0) : Nat × Nat × Nat × Nat × Int), ((2, 21, 2, 3, 0) : Nat × Nat × Nat × Nat × Int), ((3, 15, 3, 1, 0) : Nat × Nat × Nat × Nat × Int), ((3, 19, 3, 2, 0) : Nat × Nat × Nat × Nat × Int), ((3, 9, 3, 0, 0) : Nat × Nat × Nat × Nat × Int), ((4, 13, 4, 1, 0) : Nat × Nat × Nat × Nat × Int), ((4, 9, 4, 0, 0) : Nat × Nat × Nat × Nat × Int), ((5, 37, 5, 1, 0) : Nat × Nat × Nat × Nat × Int), ((5, 9, 5, 2, 0) : Nat × Nat × Nat × Nat × Int), ((5, 15, 5, 3, 0) : Nat × Nat × Nat × Nat × Int), ((5, 24, 5, 6, 0) : Nat × Nat × Nat × Nat × Int), ((5, 30, 5, 8, 0) : Nat × Nat × Nat × Nat × Int), ((5, 18, 5, 4, 0) : Nat × Nat × Nat × Nat × Int), ((5, 33, 5, 0, 0) : Nat × Nat × Nat × Nat × Int), ((5, 21, 5, 5, 0) : Nat × Nat × Nat × Nat × Int), ((5, 27, 5, 7, 0) : Nat × Nat × Nat × Nat × Int), ((5, 102, 2, 5, 1) : Nat × Nat × Nat × Nat × Int), ((5, 105, 2, 6, 1) : Nat × Nat × Nat × Nat × Int), ((5, 107, 2, 7, 1) : Nat × Nat × Nat × Nat × Int), ((5, 109, 2, 8, 1) : Nat × Nat × Nat × Nat × Int), ((5, 111, 2, 4, 1) : Nat × Nat × Nat × Nat × Int), ((5, 118, 4, 1, 1) : Nat × Nat × Nat × Nat × Int), ((6, 24, 6, 3, 0) : Nat × Nat × Nat × Nat × Int), ((6, 9, 6, 0, 0) : Nat × Nat × Nat × Nat × Int), ((6, 31, 6, 4, 0) : Nat × Nat × Nat × Nat × Int)] ++ [((6, 47, 2, 4, 1) : Nat × Nat × Nat × Nat × Int), ((6, 53, 2, 5, 1) : Nat × Nat × Nat × Nat × Int), ((6, 18, 6, 2, 0) : Nat × Nat × Nat × Nat × Int), ((6, 15, 6, 1, 0) : Nat × Nat × Nat × Nat × Int), ((6, 70, 2, 0, 1) : Nat × Nat × Nat × Nat × Int), ((6, 84, 2, 2, 1) : Nat × Nat × Nat × Nat × Int), ((7, 10, 7, 0, 0) : Nat × Nat × Nat × Nat × Int), ((7, 68, 4, 1, 1) : Nat × Nat × Nat × Nat × Int), ((7, 71, 4, 0, 1) : Nat × Nat × Nat × Nat × Int), ((7, 31, 7, 3, 0) : Nat × Nat × Nat × Nat × Int), ((7, 78, 5, 2, 1) : Nat × Nat × Nat × Nat × Int), ((7, 57, 7, 8, 0) : Nat × Nat × Nat × Nat × Int), ((7, 81, 5, 3, 1) : Nat × Nat × Nat × Nat × Int), ((7, 19, 7, 1, 0) : Nat × Nat × Nat × Nat × Int), ((7, 23, 7, 2, 0) : Nat × Nat × Nat × Nat × Int), ((7, 95, 2, 4, 1) : Nat × Nat × Nat × Nat × Int), ((7, 98, 2, 5, 1) : Nat × Nat × Nat × Nat × Int), ((7, 101, 2, 6, 1) : Nat × Nat × Nat × Nat × Int), ((7, 104, 2, 7, 1) : Nat × Nat × Nat × Nat × Int), ((7, 107, 2, 8, 1) : Nat × Nat × Nat × Nat × Int), ((7, 120, 2, 1, 1) : Nat × Nat × Nat × Nat × Int), ((7, 128, 2, 0, 1) : Nat × Nat × Nat × Nat × Int), ((7, 135, 2, 2, 1) : Nat × Nat × Nat × Nat × Int), ((7, 46, 7, 6, 0) : Nat × Nat × Nat × Nat × Int), ((7, 180, 6, 0, 1) : Nat × Nat × Nat × Nat × Int)] ++ [((7, 189, 6, 3, 1) : Nat × Nat × Nat × Nat × Int), ((7, 193, 1, 4, 1) : Nat × Nat × Nat × Nat × Int), ((7, 198, 1, 3, 1) : Nat × Nat × Nat × Nat × Int), ((7, 39, 7, 5, 0) : Nat × Nat × Nat × Nat × Int), ((7, 35, 7, 4, 0) : Nat × Nat × Nat × Nat × Int), ((7, 52, 7, 7, 0) : Nat × Nat × Nat × Nat × Int), ((7, 246, 3, 0, 1) : Nat × Nat × Nat × Nat × Int), ((7, 61, 7, 9, 0) : Nat × Nat × Nat × Nat × Int), ((7, 258, 3, 1, 1) : Nat × Nat × Nat × Nat × Int), ((7, 261, 3, 2, 1) : Nat × Nat × Nat × Nat × Int), ((8, 53, 8, 22, 0) : Nat × Nat × Nat × Nat × Int), ((8, 7, 8, 0, 0) : Nat × Nat × Nat × Nat × Int), ((8, 23, 8, 4, 0) : Nat × Nat × Nat × Nat × Int), ((8, 29, 8, 6, 0) : Nat × Nat × Nat × Nat × Int), ((8, 71, 8, 7, 0) : Nat × Nat × Nat × Nat × Int), ((8, 26, 8, 5, 0) : Nat × Nat × Nat × Nat × Int), ((8, 75, 8, 12, 0) : Nat × Nat × Nat × Nat × Int), ((8, 78, 8, 9, 0) : Nat × Nat × Nat × Nat × Int), ((8, 81, 8, 13, 0) : Nat × Nat × Nat × Nat × Int), ((8, 84, 8, 10, 0) : Nat × Nat × Nat × Nat × Int), ((8, 87, 8, 8, 0) : Nat × Nat × Nat × Nat × Int), ((8, 106, 8, 11, 0) : Nat × Nat × Nat × Nat × Int), ((8, 16, 8, 2, 0) : Nat × Nat × Nat × Nat × Int), ((8, 32, 8, 14, 0) : Nat × Nat × Nat × Nat × Int), ((8, 35, 8, 15, 0) : Nat × Nat × Nat × Nat × Int)] ++ [((8, 38, 8, 16, 0) : Nat × Nat × Nat × Nat × Int), ((8, 41, 8, 17, 0) : Nat × Nat × Nat × Nat × Int), ((8, 204, 8, 21, 0) : Nat × Nat × Nat × Nat × Int), ((8, 44, 8, 18, 0) : Nat × Nat × Nat × Nat × Int), ((8, 47, 8, 19, 0) : Nat × Nat × Nat × Nat × Int), ((8, 50, 8, 20, 0) : Nat × Nat × Nat × Nat × Int), ((8, 20, 8, 3, 0) : Nat × Nat × Nat × Nat × Int), ((8, 13, 8, 1, 0) : Nat × Nat × Nat × Nat × Int), ((8, 56, 8, 23, 0) : Nat × Nat × Nat × Nat × Int), ((8, 59, 8, 24, 0) : Nat × Nat × Nat × Nat × Int), ((8, 293, 8, 25, 0) : Nat × Nat × Nat × Nat × Int)] from rfl] at he
  simp only [List.mem_append] at he
  rcases he with (((h0 | h1) | h2) | h3) | h4
  · exact fl_c_0 e h0
  · exact fl_c_1 e h1
  · exact fl_c_2 e h2
  · exact fl_c_3 e h3
  · exact fl_c_4 e h4
theorem fp_c_0 : ∀ e ∈ [((0, 21, 0, 3, 0) : Nat × Nat × Nat × Nat × Int), ((0, 25, 0, 4, 0) : Nat × Nat × Nat × Nat × Int), ((1, 31, 1, 5, 0) : Nat × Nat × Nat × Nat × Int), ((1, 34, 1, 6, 0) : Nat × Nat × Nat × Nat × Int), ((1, 27, 1, 4, 0) : Nat × Nat × Nat × Nat × Int), ((2, 27, 2, 4, 0) : Nat × Nat × Nat × Nat × Int), ((2, 31, 2, 5, 0) : Nat × Nat × Nat × Nat × Int), ((2, 34, 2, 6, 0) : Nat × Nat × Nat × Nat × Int), ((2, 37, 2, 7, 0) : Nat × Nat × Nat × Nat × Int), ((2, 40, 2, 8, 0) : Nat × Nat × Nat × Nat × Int), ((3, 15, 3, 1, 0) : Nat × Nat × Nat × Nat × Int), ((3, 19, 3, 2, 0) : Nat × Nat × Nat × Nat × Int), ((5, 9, 5, 2, 0) : Nat × Nat × Nat × Nat × Int), ((5, 15, 5, 3, 0) : Nat × Nat × Nat × Nat × Int), ((5, 24, 5, 6, 0) : Nat × Nat × Nat × Nat × Int), ((5, 30, 5, 8, 0) : Nat × Nat × Nat × Nat × Int), ((5, 18, 5, 4, 0) : Nat × Nat × Nat × Nat × Int), ((5, 21, 5, 5, 0) : Nat × Nat × Nat × Nat × Int), ((5, 27, 5, 7, 0) : Nat × Nat × Nat × Nat × Int), ((5, 102, 2, 5, 1) : Nat × Nat × Nat × Nat × Int), ((5, 105, 2, 6, 1) : Nat × Nat × Nat × Nat × Int), ((5, 107, 2, 7, 1) : Nat × Nat × Nat × Nat × Int), ((5, 109, 2, 8, 1) : Nat × Nat × Nat × Nat × Int), ((7, 68, 4, 1, 1) : Nat × Nat × Nat × Nat × Int), ((7, 57, 7, 8, 0) : Nat × Nat × Nat × Nat × Int)], FPK e := List.forall_mem_cons.mpr ⟨⟨RX0, TX0, 5, rfl, rfl, rfl⟩, List.forall_mem_cons.mpr ⟨⟨RX0, TX0, 5, rfl, rfl, rfl⟩, List.forall_mem_cons.mpr ⟨⟨RX1, TX1, 7, rfl, rfl, rfl⟩, List.forall_mem_cons.mpr ⟨⟨RX1, TX1, 7, rfl, rfl, rfl⟩, List.forall_mem_cons.mpr ⟨⟨RX1, TX1, 7, rfl, rfl, rfl⟩, List.forall_mem_cons.mpr ⟨⟨RX2, TX2, 9, rfl, rfl, rfl⟩, List.forall_mem_cons.mpr ⟨⟨RX2, TX2, 9, rfl, rfl, rfl⟩, List.forall_mem_cons.mpr ⟨⟨RX2, TX2, 9, rfl, rfl, rfl⟩, List.forall_mem_cons.mpr ⟨⟨RX2, TX2, 9, rfl, rfl, rfl⟩, List.forall_mem_cons.mpr ⟨⟨RX2, TX2, 9, rfl, rfl, rfl⟩, List.forall_mem_cons.mpr ⟨⟨RX3, TX3, 3, rfl, rfl, rfl⟩, List.forall_mem_cons.mpr ⟨⟨RX3, TX3, 3, rfl, rfl, rfl⟩, List.forall_mem_cons.mpr ⟨⟨RX5, TX5, 9, rfl, rfl, rfl⟩, List.forall_mem_cons.mpr ⟨⟨RX5, TX5, 9, rfl, rfl, rfl⟩, List.forall_mem_cons.mpr ⟨⟨RX5, TX5, 9, rfl, rfl, rfl⟩, List.forall_mem_cons.mpr ⟨⟨RX5, TX5, 9, rfl, rfl, rfl⟩, List.forall_mem_cons.mpr ⟨⟨RX5, TX5, 9, rfl, rfl, rfl⟩, List.forall_mem_cons.mpr ⟨⟨RX5, TX5, 9, rfl, rfl, rfl⟩, List.forall_mem_cons.mpr ⟨⟨RX5, TX5, 9, rfl, rfl, rfl⟩, List.forall_mem_cons.mpr ⟨⟨RX2, TX2, 9, rfl, rfl, rfl⟩, List.forall_mem_cons.mpr ⟨⟨RX2, TX2, 9, rfl, rfl, rfl⟩, List.forall_mem_cons.mpr ⟨⟨RX2, TX2, 9, rfl, rfl, rfl⟩, List.forall_mem_cons.mpr ⟨⟨RX2, TX2, 9, rfl, rfl, rfl⟩, List.forall_mem_cons.mpr ⟨⟨RX4, TX4, 2, rfl, rfl, rfl⟩, List.forall_mem_cons.mpr ⟨⟨RX7, TX7, 10, rfl, rfl, rfl⟩, List.forall_mem_nil _⟩⟩⟩⟩⟩⟩⟩⟩⟩⟩⟩⟩⟩⟩⟩⟩⟩⟩⟩⟩⟩⟩⟩⟩⟩
theorem fp_c_1 : ∀ e ∈ [((7, 98, 2, 5, 1) : Nat × Nat × Nat × Nat × Int), ((7, 101, 2, 6, 1) : Nat × Nat × Nat × Nat × Int), ((7, 104, 2, 7, 1) : Nat × Nat × Nat × Nat × Int), ((7, 107, 2, 8, 1) : Nat × Nat × Nat × Nat × Int), ((7, 61, 7, 9, 0) : Nat × Nat × Nat × Nat × Int), ((8, 71, 8, 7, 0) : Nat × Nat × Nat × Nat × Int), ((8, 75, 8, 12, 0) : Nat × Nat × Nat × Nat × Int), ((8, 78, 8, 9, 0) : Nat × Nat × Nat × Nat × Int), ((8, 81, 8, 13, 0) : Nat × Nat × Nat × Nat × Int), ((8, 84, 8, 10, 0) : Nat × Nat × Nat × Nat × Int), ((8, 87, 8, 8, 0) : Nat × Nat × Nat × Nat × Int), ((8, 106, 8, 11, 0) : Nat × Nat × Nat × Nat × Int), ((8, 204, 8, 21, 0) : Nat × Nat × Nat × Nat × Int), ((8, 293, 8, 25, 0) : Nat × Nat × Nat × Nat × Int)], FPK e := List.forall_mem_cons.mpr ⟨⟨RX2, TX2, 9, rfl, rfl, rfl⟩, List.forall_mem_cons.mpr ⟨⟨RX2, TX2, 9, rfl, rfl, rfl⟩, List.forall_mem_cons.mpr ⟨⟨RX2, TX2, 9, rfl, rfl, rfl⟩, List.forall_mem_cons.mpr ⟨⟨RX2, TX2, 9, rfl, rfl, rfl⟩, List.forall_mem_cons.mpr ⟨⟨RX7, TX7, 10, rfl, rfl, rfl⟩, List.forall_mem_cons.mpr ⟨⟨RX8, TX8, 26, rfl, rfl, rfl⟩, List.forall_mem_cons.mpr ⟨⟨RX8, TX8, 26, rfl, rfl, rfl⟩, List.forall_mem_cons.mpr ⟨⟨RX8, TX8, 26, rfl, rfl, rfl⟩, List.forall_mem_cons.mpr ⟨⟨RX8, TX8, 26, rfl, rfl, rfl⟩, List.forall_mem_cons.mpr ⟨⟨RX8, TX8, 26, rfl, rfl, rfl⟩, List.forall_mem_cons.mpr ⟨⟨RX8, TX8, 26, rfl, rfl, rfl⟩, List.forall_mem_cons.mpr ⟨⟨RX8, TX8, 26, rfl, rfl, rfl⟩, List.forall_mem_cons.mpr ⟨⟨RX8, TX8, 26, rfl, rfl, rfl⟩, List.forall_mem_cons.mpr ⟨⟨RX8, TX8, 26, rfl, rfl, rfl⟩, List.forall_mem_nil _⟩⟩⟩⟩⟩⟩⟩⟩⟩⟩⟩⟩⟩⟩
theorem fp_ok : ∀ e ∈ FPT, FPK e := by
  intro e he
  rw [show FPT = [((0, 21, 0, 3, 0) : Nat × Nat × Nat × Nat × Int), ((0, 25, 0, 4, 0) : Nat × Nat × Nat × Nat × Int), ((1, 31, 1, 5, 0) : Nat × Nat × Nat × Nat × Int), ((1, 34, 1, 6, 0) : Nat × Nat × Nat × Nat × Int), ((1, 27, 1, 4, 0) : Nat × Nat × Nat × Nat × Int), ((2, 27, 2, 4, 0) : Nat × Nat × Nat × Nat × Int), ((2, 31, 2, 5, 0) : Nat × Nat × Nat × Nat × Int), ((2, 34, 2, 6, 0) : Nat × Nat × Nat × Nat × Int), ((2, 37, 2, 7, 0) : Nat × Nat × Nat × Nat × Int), ((2, 40, 2, 8, 0) : Nat × Nat × Nat × Nat × Int), ((3, 15, 3, 1, 0) : Nat × Nat × Nat × Nat × Int), ((3, 19, 3, 2, 0) : Nat × Nat × Nat × Nat × Int), ((5, 9, 5, 2, 0) : Nat × Nat × Nat × Nat × Int), ((5, 15, 5, 3, 0) : Nat × Nat × Nat × Nat × Int), ((5, 24, 5, 6, 0) : Nat × Nat × Nat × Nat × Int), ((5, 30, 5, 8, 0) : Nat × Nat × Nat × Nat × Int), ((5, 18, 5, 4, 0) : Nat × Nat × Nat × Nat × Int), ((5, 21, 5, 5, 0) : Nat × Nat × Nat × Nat × Int), ((5, 27, 5, 7, 0) : Nat × Nat × Nat × Nat × Int), ((5, 102, 2, 5, 1) : Nat × Nat × Nat × Nat × Int), ((5, 105, 2, 6, 1) : Nat × Nat × Nat × Nat × Int), ((5, 107, 2, 7, 1) : Nat × Nat × Nat × Nat × Int), ((5, 109, 2, 8, 1) : Nat × Nat × Nat × Nat × Int), ((7, 68, 4, 1, 1) : Nat × Nat × Nat × Nat × Int), ((7, 57, 7, 8, 0) : Nat × Nat × Nat × Nat × Int)] ++ [((7, 98, 2, 5, 1) : Nat × Nat × Nat × Nat × Int), ((7, 101, 2, 6, 1) : Nat × Nat × Nat × Nat × Int), ((7, 104, 2, 7, 1) : Nat × Nat × Nat × Nat × Int), ((7, 107, 2, 8, 1) : Nat × Nat × Nat × Nat × Int), ((7, 61, 7, 9, 0) : Nat × Nat × Nat × Nat × Int), ((8, 71, 8, 7, 0) : Nat × Nat × Nat × Nat × Int), ((8, 75, 8, 12, 0) : Nat × Nat × Nat × Nat × Int), ((8, 78, 8, 9, 0) : Nat × Nat × Nat × Nat × Int), ((8, 81, 8, 13, 0) : Nat × Nat × Nat × Nat × Int), ((8, 84, 8, 10, 0) : Nat × Nat × Nat × Nat × Int), ((8, 87, 8, 8, 0) : Nat × Nat × Nat × Nat × Int), ((8, 106, 8, 11, 0) : Nat × Nat × Nat × Nat × Int), ((8, 204, 8, 21, 0) : Nat × Nat × Nat × Nat × Int), ((8, 293, 8, 25, 0) : Nat × Nat × Nat × Nat × Int)] from rfl] at he
  simp only [List.mem_append] at he
  rcases he with h0 | h1
  · exact fp_c_0 e h0
  · exact fp_c_1 e h1
set_option maxRecDepth 20000 in
theorem mo_0 : MOK (0, yX0_chooseHomes, cX0_chooseHomes, 3, none, 3, false) := ⟨gw_at 592 rfl rfl, gw_at 121 (by decide +kernel) (by decide +kernel), ⟨by decide +kernel, by decide +kernel⟩, by decide +kernel, rfl, by decide, Or.inr ⟨rfl, gw_at 591 (by decide +kernel) (by decide +kernel), gw_at 27 (by decide +kernel) (by decide +kernel), 2, rfl, (by decide +kernel)⟩⟩
set_option maxRecDepth 20000 in
theorem mo_1 : MOK (0, yX0_tryCell, cX0_tryCell, 7, none, 5, false) := ⟨gw_at 600 rfl rfl, gw_at 121 (by decide +kernel) (by decide +kernel), ⟨by decide +kernel, by decide +kernel⟩, by decide +kernel, rfl, by decide, Or.inr ⟨rfl, gw_at 599 (by decide +kernel) (by decide +kernel), gw_at 28 (by decide +kernel) (by decide +kernel), 4, rfl, (by decide +kernel)⟩⟩
set_option maxRecDepth 20000 in
theorem mo_2 : MOK (0, yX0_lacking, cX0_lacking, 4, (some .int), 2, false) := ⟨gw_at 614 rfl rfl, gw_at 121 (by decide +kernel) (by decide +kernel), ⟨by decide +kernel, by decide +kernel⟩, by decide +kernel, rfl, by decide, Or.inr ⟨rfl, gw_at 613 (by decide +kernel) (by decide +kernel), gw_at 30 (by decide +kernel) (by decide +kernel), 1, rfl, (by decide +kernel)⟩⟩
set_option maxRecDepth 20000 in
theorem mo_3 : MOK (0, yX0_judge, cX0_judge, 4, none, 2, false) := ⟨gw_at 604 rfl rfl, gw_at 121 (by decide +kernel) (by decide +kernel), ⟨by decide +kernel, by decide +kernel⟩, by decide +kernel, rfl, by decide, Or.inr ⟨rfl, gw_at 603 (by decide +kernel) (by decide +kernel), gw_at 29 (by decide +kernel) (by decide +kernel), 1, rfl, (by decide +kernel)⟩⟩
set_option maxRecDepth 20000 in
theorem mo_4 : MOK (1, yX1_chooseHomes, cX1_chooseHomes, 4, none, 3, false) := ⟨gw_at 550 rfl rfl, gw_at 120 (by decide +kernel) (by decide +kernel), ⟨by decide +kernel, by decide +kernel⟩, by decide +kernel, rfl, by decide, Or.inr ⟨rfl, gw_at 549 (by decide +kernel) (by decide +kernel), gw_at 19 (by decide +kernel) (by decide +kernel), 2, rfl, (by decide +kernel)⟩⟩
set_option maxRecDepth 20000 in
theorem mo_5 : MOK (1, yX1_begin, cX1_begin, 3, none, 2, false) := ⟨gw_at 554 rfl rfl, gw_at 120 (by decide +kernel) (by decide +kernel), ⟨by decide +kernel, by decide +kernel⟩, by decide +kernel, rfl, by decide, Or.inr ⟨rfl, gw_at 553 (by decide +kernel) (by decide +kernel), gw_at 20 (by decide +kernel) (by decide +kernel), 1, rfl, (by decide +kernel)⟩⟩
set_option maxRecDepth 20000 in
theorem mo_6 : MOK (1, yX1_joinTwo, cX1_joinTwo, 3, none, 1, false) := ⟨gw_at 559 rfl rfl, gw_at 120 (by decide +kernel) (by decide +kernel), ⟨by decide +kernel, by decide +kernel⟩, by decide +kernel, rfl, by decide, Or.inr ⟨rfl, gw_at 558 (by decide +kernel) (by decide +kernel), gw_at 21 (by decide +kernel) (by decide +kernel), 0, rfl, (by decide +kernel)⟩⟩
set_option maxRecDepth 20000 in
theorem mo_7 : MOK (1, yX1_widestBut, cX1_widestBut, 4, (some .int), 2, false) := ⟨gw_at 563 rfl rfl, gw_at 120 (by decide +kernel) (by decide +kernel), ⟨by decide +kernel, by decide +kernel⟩, by decide +kernel, rfl, by decide, Or.inr ⟨rfl, gw_at 562 (by decide +kernel) (by decide +kernel), gw_at 22 (by decide +kernel) (by decide +kernel), 1, rfl, (by decide +kernel)⟩⟩
set_option maxRecDepth 20000 in
theorem mo_8 : MOK (1, yX1_width, cX1_width, 2, (some .int), 2, false) := ⟨gw_at 567 rfl rfl, gw_at 120 (by decide +kernel) (by decide +kernel), ⟨by decide +kernel, by decide +kernel⟩, by decide +kernel, rfl, by decide, Or.inr ⟨rfl, gw_at 566 (by decide +kernel) (by decide +kernel), gw_at 23 (by decide +kernel) (by decide +kernel), 1, rfl, (by decide +kernel)⟩⟩
set_option maxRecDepth 20000 in
theorem mo_9 : MOK (1, yX1_merge, cX1_merge, 5, none, 3, false) := ⟨gw_at 577 rfl rfl, gw_at 120 (by decide +kernel) (by decide +kernel), ⟨by decide +kernel, by decide +kernel⟩, by decide +kernel, rfl, by decide, Or.inr ⟨rfl, gw_at 576 (by decide +kernel) (by decide +kernel), gw_at 24 (by decide +kernel) (by decide +kernel), 2, rfl, (by decide +kernel)⟩⟩
set_option maxRecDepth 20000 in
theorem mo_10 : MOK (1, yX1_isAhead, cX1_isAhead, 6, (some .boolean), 4, false) := ⟨gw_at 581 rfl rfl, gw_at 120 (by decide +kernel) (by decide +kernel), ⟨by decide +kernel, by decide +kernel⟩, by decide +kernel, rfl, by decide, Or.inr ⟨rfl, gw_at 580 (by decide +kernel) (by decide +kernel), gw_at 25 (by decide +kernel) (by decide +kernel), 3, rfl, (by decide +kernel)⟩⟩
set_option maxRecDepth 20000 in
theorem mo_11 : MOK (1, yX1_exchange, cX1_exchange, 3, none, 2, true) := ⟨gw_at 584 rfl rfl, gw_at 120 (by decide +kernel) (by decide +kernel), ⟨by decide +kernel, by decide +kernel⟩, by decide +kernel, rfl, by decide, Or.inl ⟨rfl, gw_at 583 (by decide +kernel) (by decide +kernel), (by decide +kernel)⟩⟩
set_option maxRecDepth 20000 in
theorem mo_12 : MOK (1, yX1_bundleOf, cX1_bundleOf, 3, (some .int), 2, false) := ⟨gw_at 588 rfl rfl, gw_at 120 (by decide +kernel) (by decide +kernel), ⟨by decide +kernel, by decide +kernel⟩, by decide +kernel, rfl, by decide, Or.inr ⟨rfl, gw_at 587 (by decide +kernel) (by decide +kernel), gw_at 26 (by decide +kernel) (by decide +kernel), 1, rfl, (by decide +kernel)⟩⟩
set_option maxRecDepth 20000 in
theorem mo_13 : MOK (2, yX2_reset, cX2_reset, 1, none, 1, false) := ⟨gw_at 166 rfl rfl, gw_at 117 (by decide +kernel) (by decide +kernel), ⟨by decide +kernel, by decide +kernel⟩, by decide +kernel, rfl, by decide, Or.inr ⟨rfl, gw_at 165 (by decide +kernel) (by decide +kernel), gw_at 0 (by decide +kernel) (by decide +kernel), 0, rfl, (by decide +kernel)⟩⟩
set_option maxRecDepth 20000 in
theorem mo_14 : MOK (2, yX2_copyFrom, cX2_copyFrom, 2, none, 2, false) := ⟨gw_at 521 rfl rfl, gw_at 117 (by decide +kernel) (by decide +kernel), ⟨by decide +kernel, by decide +kernel⟩, by decide +kernel, rfl, by decide, Or.inr ⟨rfl, gw_at 520 (by decide +kernel) (by decide +kernel), gw_at 14 (by decide +kernel) (by decide +kernel), 1, rfl, (by decide +kernel)⟩⟩
set_option maxRecDepth 20000 in
theorem mo_15 : MOK (2, yX2_append, cX2_append, 3, none, 3, false) := ⟨gw_at 503 rfl rfl, gw_at 117 (by decide +kernel) (by decide +kernel), ⟨by decide +kernel, by decide +kernel⟩, by decide +kernel, rfl, by decide, Or.inr ⟨rfl, gw_at 502 (by decide +kernel) (by decide +kernel), gw_at 11 (by decide +kernel) (by decide +kernel), 2, rfl, (by decide +kernel)⟩⟩
set_option maxRecDepth 20000 in
theorem mo_16 : MOK (2, yX2_removeAt, cX2_removeAt, 3, none, 2, false) := ⟨gw_at 773 rfl rfl, gw_at 117 (by decide +kernel) (by decide +kernel), ⟨by decide +kernel, by decide +kernel⟩, by decide +kernel, rfl, by decide, Or.inr ⟨rfl, gw_at 772 (by decide +kernel) (by decide +kernel), gw_at 49 (by decide +kernel) (by decide +kernel), 1, rfl, (by decide +kernel)⟩⟩
set_option maxRecDepth 20000 in
theorem mo_17 : MOK (2, yX2_sumOf, cX2_sumOf, 2, (some .int), 2, false) := ⟨gw_at 675 rfl rfl, gw_at 117 (by decide +kernel) (by decide +kernel), ⟨by decide +kernel, by decide +kernel⟩, by decide +kernel, rfl, by decide, Or.inr ⟨rfl, gw_at 674 (by decide +kernel) (by decide +kernel), gw_at 38 (by decide +kernel) (by decide +kernel), 1, rfl, (by decide +kernel)⟩⟩
set_option maxRecDepth 20000 in
theorem mo_18 : MOK (2, yX2_weakest, cX2_weakest, 1, (some .int), 1, false) := ⟨gw_at 637 rfl rfl, gw_at 117 (by decide +kernel) (by decide +kernel), ⟨by decide +kernel, by decide +kernel⟩, by decide +kernel, rfl, by decide, Or.inr ⟨rfl, gw_at 636 (by decide +kernel) (by decide +kernel), gw_at 33 (by decide +kernel) (by decide +kernel), 0, rfl, (by decide +kernel)⟩⟩
set_option maxRecDepth 20000 in
theorem mo_19 : MOK (2, yX2_leastSum, cX2_leastSum, 1, (some .int), 1, false) := ⟨gw_at 646 rfl rfl, gw_at 117 (by decide +kernel) (by decide +kernel), ⟨by decide +kernel, by decide +kernel⟩, by decide +kernel, rfl, by decide, Or.inr ⟨rfl, gw_at 645 (by decide +kernel) (by decide +kernel), gw_at 34 (by decide +kernel) (by decide +kernel), 0, rfl, (by decide +kernel)⟩⟩
set_option maxRecDepth 20000 in
theorem mo_20 : MOK (2, yX2_leastSumOfCharges, cX2_leastSumOfCharges, 1, (some .int), 1, false) := ⟨gw_at 736 rfl rfl, gw_at 117 (by decide +kernel) (by decide +kernel), ⟨by decide +kernel, by decide +kernel⟩, by decide +kernel, rfl, by decide, Or.inr ⟨rfl, gw_at 735 (by decide +kernel) (by decide +kernel), gw_at 46 (by decide +kernel) (by decide +kernel), 0, rfl, (by decide +kernel)⟩⟩
set_option maxRecDepth 20000 in
theorem mo_21 : MOK (2, yX2_spread, cX2_spread, 2, (some .int), 1, false) := ⟨gw_at 651 rfl rfl, gw_at 117 (by decide +kernel) (by decide +kernel), ⟨by decide +kernel, by decide +kernel⟩, by decide +kernel, rfl, by decide, Or.inr ⟨rfl, gw_at 650 (by decide +kernel) (by decide +kernel), gw_at 35 (by decide +kernel) (by decide +kernel), 0, rfl, (by decide +kernel)⟩⟩
set_option maxRecDepth 20000 in
theorem mo_22 : MOK (2, yX2_leastSumExchanged, cX2_leastSumExchanged, 3, (some .int), 3, false) := ⟨gw_at 760 rfl rfl, gw_at 117 (by decide +kernel) (by decide +kernel), ⟨by decide +kernel, by decide +kernel⟩, by decide +kernel, rfl, by decide, Or.inr ⟨rfl, gw_at 759 (by decide +kernel) (by decide +kernel), gw_at 48 (by decide +kernel) (by decide +kernel), 2, rfl, (by decide +kernel)⟩⟩
set_option maxRecDepth 20000 in
theorem mo_23 : MOK (2, yX2_rankByCharge, cX2_rankByCharge, 4, (some .int), 2, false) := ⟨gw_at 540 rfl rfl, gw_at 117 (by decide +kernel) (by decide +kernel), ⟨by decide +kernel, by decide +kernel⟩, by decide +kernel, rfl, by decide, Or.inr ⟨rfl, gw_at 539 (by decide +kernel) (by decide +kernel), gw_at 18 (by decide +kernel) (by decide +kernel), 1, rfl, (by decide +kernel)⟩⟩
set_option maxRecDepth 20000 in
theorem mo_24 : MOK (2, yX2_bitsOf, cX2_bitsOf, 4, (some .int), 2, false) := ⟨gw_at 679 rfl rfl, gw_at 117 (by decide +kernel) (by decide +kernel), ⟨by decide +kernel, by decide +kernel⟩, by decide +kernel, rfl, by decide, Or.inr ⟨rfl, gw_at 678 (by decide +kernel) (by decide +kernel), gw_at 39 (by decide +kernel) (by decide +kernel), 1, rfl, (by decide +kernel)⟩⟩
set_option maxRecDepth 20000 in
theorem mo_25 : MOK (2, yX2_strongestOf, cX2_strongestOf, 4, (some .int), 2, false) := ⟨gw_at 689 rfl rfl, gw_at 117 (by decide +kernel) (by decide +kernel), ⟨by decide +kernel, by decide +kernel⟩, by decide +kernel, rfl, by decide, Or.inr ⟨rfl, gw_at 688 (by decide +kernel) (by decide +kernel), gw_at 40 (by decide +kernel) (by decide +kernel), 1, rfl, (by decide +kernel)⟩⟩
set_option maxRecDepth 20000 in
theorem mo_26 : MOK (2, yX2_aboveFloor, cX2_aboveFloor, 4, (some .int), 2, false) := ⟨gw_at 693 rfl rfl, gw_at 117 (by decide +kernel) (by decide +kernel), ⟨by decide +kernel, by decide +kernel⟩, by decide +kernel, rfl, by decide, Or.inr ⟨rfl, gw_at 692 (by decide +kernel) (by decide +kernel), gw_at 41 (by decide +kernel) (by decide +kernel), 1, rfl, (by decide +kernel)⟩⟩
set_option maxRecDepth 20000 in
theorem mo_27 : MOK (2, yX2_emptyGroups, cX2_emptyGroups, 3, (some .int), 1, false) := ⟨gw_at 880 rfl rfl, gw_at 117 (by decide +kernel) (by decide +kernel), ⟨by decide +kernel, by decide +kernel⟩, by decide +kernel, rfl, by decide, Or.inr ⟨rfl, gw_at 879 (by decide +kernel) (by decide +kernel), gw_at 58 (by decide +kernel) (by decide +kernel), 0, rfl, (by decide +kernel)⟩⟩
set_option maxRecDepth 20000 in
theorem mo_28 : MOK (2, yX2_bledCells, cX2_bledCells, 3, (some .int), 1, false) := ⟨gw_at 885 rfl rfl, gw_at 117 (by decide +kernel) (by decide +kernel), ⟨by decide +kernel, by decide +kernel⟩, by decide +kernel, rfl, by decide, Or.inr ⟨rfl, gw_at 884 (by decide +kernel) (by decide +kernel), gw_at 59 (by decide +kernel) (by decide +kernel), 0, rfl, (by decide +kernel)⟩⟩
set_option maxRecDepth 20000 in
theorem mo_29 : MOK (2, yX2_greatestCharge, cX2_greatestCharge, 3, (some .int), 1, false) := ⟨gw_at 889 rfl rfl, gw_at 117 (by decide +kernel) (by decide +kernel), ⟨by decide +kernel, by decide +kernel⟩, by decide +kernel, rfl, by decide, Or.inr ⟨rfl, gw_at 888 (by decide +kernel) (by decide +kernel), gw_at 60 (by decide +kernel) (by decide +kernel), 0, rfl, (by decide +kernel)⟩⟩
set_option maxRecDepth 20000 in
theorem mo_30 : MOK (2, yX2_runTicks, cX2_runTicks, 3, (some .int), 2, false) := ⟨gw_at 793 rfl rfl, gw_at 117 (by decide +kernel) (by decide +kernel), ⟨by decide +kernel, by decide +kernel⟩, by decide +kernel, rfl, by decide, Or.inr ⟨rfl, gw_at 792 (by decide +kernel) (by decide +kernel), gw_at 50 (by decide +kernel) (by decide +kernel), 1, rfl, (by decide +kernel)⟩⟩
set_option maxRecDepth 20000 in
theorem mo_31 : MOK (2, yX2_tickLoses, cX2_tickLoses, 4, (some .boolean), 1, false) := ⟨gw_at 797 rfl rfl, gw_at 117 (by decide +kernel) (by decide +kernel), ⟨by decide +kernel, by decide +kernel⟩, by decide +kernel, rfl, by decide, Or.inr ⟨rfl, gw_at 796 (by decide +kernel) (by decide +kernel), gw_at 51 (by decide +kernel) (by decide +kernel), 0, rfl, (by decide +kernel)⟩⟩
set_option maxRecDepth 20000 in
theorem mo_32 : MOK (2, yX2_strongestLoses, cX2_strongestLoses, 3, (some .boolean), 2, false) := ⟨gw_at 801 rfl rfl, gw_at 117 (by decide +kernel) (by decide +kernel), ⟨by decide +kernel, by decide +kernel⟩, by decide +kernel, rfl, by decide, Or.inr ⟨rfl, gw_at 800 (by decide +kernel) (by decide +kernel), gw_at 52 (by decide +kernel) (by decide +kernel), 1, rfl, (by decide +kernel)⟩⟩
set_option maxRecDepth 20000 in
theorem mo_33 : MOK (3, yX3_renew, cX3_renew, 3, none, 3, false) := ⟨gw_at 841 rfl rfl, gw_at 122 (by decide +kernel) (by decide +kernel), ⟨by decide +kernel, by decide +kernel⟩, by decide +kernel, rfl, by decide, Or.inr ⟨rfl, gw_at 840 (by decide +kernel) (by decide +kernel), gw_at 53 (by decide +kernel) (by decide +kernel), 2, rfl, (by decide +kernel)⟩⟩
set_option maxRecDepth 20000 in
theorem mo_34 : MOK (3, yX3_putAt, cX3_putAt, 3, (some .int), 3, false) := ⟨gw_at 850 rfl rfl, gw_at 122 (by decide +kernel) (by decide +kernel), ⟨by decide +kernel, by decide +kernel⟩, by decide +kernel, rfl, by decide, Or.inr ⟨rfl, gw_at 849 (by decide +kernel) (by decide +kernel), gw_at 54 (by decide +kernel) (by decide +kernel), 2, rfl, (by decide +kernel)⟩⟩
set_option maxRecDepth 20000 in
theorem mo_35 : MOK (3, yX3_wholePairs, cX3_wholePairs, 4, (some .int), 4, false) := ⟨gw_at 859 rfl rfl, gw_at 122 (by decide +kernel) (by decide +kernel), ⟨by decide +kernel, by decide +kernel⟩, by decide +kernel, rfl, by decide, Or.inr ⟨rfl, gw_at 858 (by decide +kernel) (by decide +kernel), gw_at 55 (by decide +kernel) (by decide +kernel), 3, rfl, (by decide +kernel)⟩⟩
set_option maxRecDepth 20000 in
theorem mo_36 : MOK (3, yX3_faultAs, cX3_faultAs, 2, (some .int), 2, false) := ⟨gw_at 864 rfl rfl, gw_at 122 (by decide +kernel) (by decide +kernel), ⟨by decide +kernel, by decide +kernel⟩, by decide +kernel, rfl, by decide, Or.inr ⟨rfl, gw_at 863 (by decide +kernel) (by decide +kernel), gw_at 56 (by decide +kernel) (by decide +kernel), 1, rfl, (by decide +kernel)⟩⟩
set_option maxRecDepth 20000 in
theorem mo_37 : MOK (4, yX4_byteAt, cX4_byteAt, 2, (some .int), 2, false) := ⟨gw_at 417 rfl rfl, gw_at 116 (by decide +kernel) (by decide +kernel), ⟨by decide +kernel, by decide +kernel⟩, by decide +kernel, rfl, by decide, Or.inr ⟨rfl, gw_at 416 (by decide +kernel) (by decide +kernel), gw_at 4 (by decide +kernel) (by decide +kernel), 1, rfl, (by decide +kernel)⟩⟩
set_option maxRecDepth 20000 in
theorem mo_38 : MOK (4, yX4_spells, cX4_spells, 5, (some .boolean), 4, false) := ⟨gw_at 446 rfl rfl, gw_at 116 (by decide +kernel) (by decide +kernel), ⟨by decide +kernel, by decide +kernel⟩, by decide +kernel, rfl, by decide, Or.inr ⟨rfl, gw_at 445 (by decide +kernel) (by decide +kernel), gw_at 9 (by decide +kernel) (by decide +kernel), 3, rfl, (by decide +kernel)⟩⟩
set_option maxRecDepth 20000 in
theorem mo_39 : MOK (5, yX5_readAll, cX5_readAll, 3, none, 1, false) := ⟨gw_at 404 rfl rfl, gw_at 118 (by decide +kernel) (by decide +kernel), ⟨by decide +kernel, by decide +kernel⟩, by decide +kernel, rfl, by decide, Or.inr ⟨rfl, gw_at 403 (by decide +kernel) (by decide +kernel), gw_at 1 (by decide +kernel) (by decide +kernel), 0, rfl, (by decide +kernel)⟩⟩
set_option maxRecDepth 20000 in
theorem mo_40 : MOK (5, yX5_readLine, cX5_readLine, 2, (some .boolean), 1, false) := ⟨gw_at 409 rfl rfl, gw_at 118 (by decide +kernel) (by decide +kernel), ⟨by decide +kernel, by decide +kernel⟩, by decide +kernel, rfl, by decide, Or.inr ⟨rfl, gw_at 408 (by decide +kernel) (by decide +kernel), gw_at 2 (by decide +kernel) (by decide +kernel), 0, rfl, (by decide +kernel)⟩⟩
set_option maxRecDepth 20000 in
theorem mo_41 : MOK (5, yX5_lineNamed, cX5_lineNamed, 2, (some .int), 1, false) := ⟨gw_at 434 rfl rfl, gw_at 118 (by decide +kernel) (by decide +kernel), ⟨by decide +kernel, by decide +kernel⟩, by decide +kernel, rfl, by decide, Or.inr ⟨rfl, gw_at 433 (by decide +kernel) (by decide +kernel), gw_at 8 (by decide +kernel) (by decide +kernel), 0, rfl, (by decide +kernel)⟩⟩
set_option maxRecDepth 20000 in
theorem mo_42 : MOK (5, yX5_nameOf, cX5_nameOf, 1, (some (.object "java/lang/String")), 1, true) := ⟨gw_at 437 rfl rfl, gw_at 118 (by decide +kernel) (by decide +kernel), ⟨by decide +kernel, by decide +kernel⟩, by decide +kernel, rfl, by decide, Or.inl ⟨rfl, gw_at 436 (by decide +kernel) (by decide +kernel), (by decide +kernel)⟩⟩
set_option maxRecDepth 20000 in
theorem mo_43 : MOK (5, yX5_readSetting, cX5_readSetting, 2, (some .boolean), 2, false) := ⟨gw_at 507 rfl rfl, gw_at 118 (by decide +kernel) (by decide +kernel), ⟨by decide +kernel, by decide +kernel⟩, by decide +kernel, rfl, by decide, Or.inr ⟨rfl, gw_at 506 (by decide +kernel) (by decide +kernel), gw_at 12 (by decide +kernel) (by decide +kernel), 1, rfl, (by decide +kernel)⟩⟩
set_option maxRecDepth 20000 in
theorem mo_44 : MOK (5, yX5_lowestOf, cX5_lowestOf, 1, (some .int), 1, true) := ⟨gw_at 510 rfl rfl, gw_at 118 (by decide +kernel) (by decide +kernel), ⟨by decide +kernel, by decide +kernel⟩, by decide +kernel, rfl, by decide, Or.inl ⟨rfl, gw_at 509 (by decide +kernel) (by decide +kernel), (by decide +kernel)⟩⟩
set_option maxRecDepth 20000 in
theorem mo_45 : MOK (5, yX5_highestOf, cX5_highestOf, 1, (some .int), 1, true) := ⟨gw_at 513 rfl rfl, gw_at 118 (by decide +kernel) (by decide +kernel), ⟨by decide +kernel, by decide +kernel⟩, by decide +kernel, rfl, by decide, Or.inl ⟨rfl, gw_at 512 (by decide +kernel) (by decide +kernel), (by decide +kernel)⟩⟩
set_option maxRecDepth 20000 in
theorem mo_46 : MOK (5, yX5_putSetting, cX5_putSetting, 2, none, 2, false) := ⟨gw_at 517 rfl rfl, gw_at 118 (by decide +kernel) (by decide +kernel), ⟨by decide +kernel, by decide +kernel⟩, by decide +kernel, rfl, by decide, Or.inr ⟨rfl, gw_at 516 (by decide +kernel) (by decide +kernel), gw_at 13 (by decide +kernel) (by decide +kernel), 1, rfl, (by decide +kernel)⟩⟩
set_option maxRecDepth 20000 in
theorem mo_47 : MOK (5, yX5_readCells, cX5_readCells, 2, (some .boolean), 1, false) := ⟨gw_at 499 rfl rfl, gw_at 118 (by decide +kernel) (by decide +kernel), ⟨by decide +kernel, by decide +kernel⟩, by decide +kernel, rfl, by decide, Or.inr ⟨rfl, gw_at 498 (by decide +kernel) (by decide +kernel), gw_at 10 (by decide +kernel) (by decide +kernel), 0, rfl, (by decide +kernel)⟩⟩
set_option maxRecDepth 20000 in
theorem mo_48 : MOK (5, yX5_nextToken, cX5_nextToken, 2, (some .boolean), 1, false) := ⟨gw_at 413 rfl rfl, gw_at 118 (by decide +kernel) (by decide +kernel), ⟨by decide +kernel, by decide +kernel⟩, by decide +kernel, rfl, by decide, Or.inr ⟨rfl, gw_at 412 (by decide +kernel) (by decide +kernel), gw_at 3 (by decide +kernel) (by decide +kernel), 0, rfl, (by decide +kernel)⟩⟩
set_option maxRecDepth 20000 in
theorem mo_49 : MOK (5, yX5_passRun, cX5_passRun, 3, none, 3, false) := ⟨gw_at 422 rfl rfl, gw_at 118 (by decide +kernel) (by decide +kernel), ⟨by decide +kernel, by decide +kernel⟩, by decide +kernel, rfl, by decide, Or.inr ⟨rfl, gw_at 421 (by decide +kernel) (by decide +kernel), gw_at 5 (by decide +kernel) (by decide +kernel), 2, rfl, (by decide +kernel)⟩⟩
set_option maxRecDepth 20000 in
theorem mo_50 : MOK (5, yX5_takeValue, cX5_takeValue, 2, (some .boolean), 1, false) := ⟨gw_at 426 rfl rfl, gw_at 118 (by decide +kernel) (by decide +kernel), ⟨by decide +kernel, by decide +kernel⟩, by decide +kernel, rfl, by decide, Or.inr ⟨rfl, gw_at 425 (by decide +kernel) (by decide +kernel), gw_at 6 (by decide +kernel) (by decide +kernel), 0, rfl, (by decide +kernel)⟩⟩
set_option maxRecDepth 20000 in
theorem mo_51 : MOK (5, yX5_fail, cX5_fail, 2, (some .boolean), 2, false) := ⟨gw_at 430 rfl rfl, gw_at 118 (by decide +kernel) (by decide +kernel), ⟨by decide +kernel, by decide +kernel⟩, by decide +kernel, rfl, by decide, Or.inr ⟨rfl, gw_at 429 (by decide +kernel) (by decide +kernel), gw_at 7 (by decide +kernel) (by decide +kernel), 1, rfl, (by decide +kernel)⟩⟩
set_option maxRecDepth 20000 in
theorem mo_52 : MOK (6, yX6_choose, cX6_choose, 3, none, 3, false) := ⟨gw_at 532 rfl rfl, gw_at 119 (by decide +kernel) (by decide +kernel), ⟨by decide +kernel, by decide +kernel⟩, by decide +kernel, rfl, by decide, Or.inr ⟨rfl, gw_at 531 (by decide +kernel) (by decide +kernel), gw_at 16 (by decide +kernel) (by decide +kernel), 2, rfl, (by decide +kernel)⟩⟩
set_option maxRecDepth 20000 in
theorem mo_53 : MOK (6, yX6_byTurns, cX6_byTurns, 3, none, 2, false) := ⟨gw_at 620 rfl rfl, gw_at 119 (by decide +kernel) (by decide +kernel), ⟨by decide +kernel, by decide +kernel⟩, by decide +kernel, rfl, by decide, Or.inr ⟨rfl, gw_at 619 (by decide +kernel) (by decide +kernel), gw_at 31 (by decide +kernel) (by decide +kernel), 1, rfl, (by decide +kernel)⟩⟩
set_option maxRecDepth 20000 in
theorem mo_54 : MOK (6, yX6_byWeakest, cX6_byWeakest, 4, none, 2, false) := ⟨gw_at 536 rfl rfl, gw_at 119 (by decide +kernel) (by decide +kernel), ⟨by decide +kernel, by decide +kernel⟩, by decide +kernel, rfl, by decide, Or.inr ⟨rfl, gw_at 535 (by decide +kernel) (by decide +kernel), gw_at 17 (by decide +kernel) (by decide +kernel), 1, rfl, (by decide +kernel)⟩⟩
set_option maxRecDepth 20000 in
theorem mo_55 : MOK (6, yX6_leastSum, cX6_leastSum, 2, (some .int), 2, false) := ⟨gw_at 713 rfl rfl, gw_at 119 (by decide +kernel) (by decide +kernel), ⟨by decide +kernel, by decide +kernel⟩, by decide +kernel, rfl, by decide, Or.inr ⟨rfl, gw_at 712 (by decide +kernel) (by decide +kernel), gw_at 43 (by decide +kernel) (by decide +kernel), 1, rfl, (by decide +kernel)⟩⟩
set_option maxRecDepth 20000 in
theorem mo_56 : MOK (6, yX6_spread, cX6_spread, 3, (some .int), 2, false) := ⟨gw_at 718 rfl rfl, gw_at 119 (by decide +kernel) (by decide +kernel), ⟨by decide +kernel, by decide +kernel⟩, by decide +kernel, rfl, by decide, Or.inr ⟨rfl, gw_at 717 (by decide +kernel) (by decide +kernel), gw_at 44 (by decide +kernel) (by decide +kernel), 1, rfl, (by decide +kernel)⟩⟩
set_option maxRecDepth 20000 in
theorem mo_57 : MOK (6, yX6_strangers, cX6_strangers, 4, (some .int), 2, false) := ⟨gw_at 724 rfl rfl, gw_at 119 (by decide +kernel) (by decide +kernel), ⟨by decide +kernel, by decide +kernel⟩, by decide +kernel, rfl, by decide, Or.inr ⟨rfl, gw_at 723 (by decide +kernel) (by decide +kernel), gw_at 45 (by decide +kernel) (by decide +kernel), 1, rfl, (by decide +kernel)⟩⟩
set_option maxRecDepth 20000 in
theorem mo_58 : MOK (7, yX7_feed, cX7_feed, 2, (some .int), 2, false) := ⟨gw_at 389 rfl rfl, gw_at 115 (by decide +kernel) (by decide +kernel), ⟨by decide +kernel, by decide +kernel⟩, by decide +kernel, rfl, by decide, Or.inr ⟨rfl, gw_at 387 (by decide +kernel) (by decide +kernel), gw_at 388 (by decide +kernel) (by decide +kernel), 1, rfl, (by decide +kernel)⟩⟩
set_option maxRecDepth 20000 in
theorem mo_59 : MOK (7, yX7_end, cX7_end, 3, (some .int), 2, false) := ⟨gw_at 396 rfl rfl, gw_at 115 (by decide +kernel) (by decide +kernel), ⟨by decide +kernel, by decide +kernel⟩, by decide +kernel, rfl, by decide, Or.inr ⟨rfl, gw_at 394 (by decide +kernel) (by decide +kernel), gw_at 395 (by decide +kernel) (by decide +kernel), 1, rfl, (by decide +kernel)⟩⟩
set_option maxRecDepth 20000 in
theorem mo_60 : MOK (7, yX7_text, cX7_text, 1, (some .int), 1, false) := ⟨gw_at 400 rfl rfl, gw_at 115 (by decide +kernel) (by decide +kernel), ⟨by decide +kernel, by decide +kernel⟩, by decide +kernel, rfl, by decide, Or.inr ⟨rfl, gw_at 398 (by decide +kernel) (by decide +kernel), gw_at 399 (by decide +kernel) (by decide +kernel), 0, rfl, (by decide +kernel)⟩⟩
set_option maxRecDepth 20000 in
theorem mo_61 : MOK (7, yX7_fault, cX7_fault, 1, (some .int), 1, false) := ⟨gw_at 629 rfl rfl, gw_at 115 (by decide +kernel) (by decide +kernel), ⟨by decide +kernel, by decide +kernel⟩, by decide +kernel, rfl, by decide, Or.inr ⟨rfl, gw_at 627 (by decide +kernel) (by decide +kernel), gw_at 628 (by decide +kernel) (by decide +kernel), 0, rfl, (by decide +kernel)⟩⟩
set_option maxRecDepth 20000 in
theorem mo_62 : MOK (7, yX7_rule, cX7_rule, 2, (some .int), 2, false) := ⟨gw_at 633 rfl rfl, gw_at 115 (by decide +kernel) (by decide +kernel), ⟨by decide +kernel, by decide +kernel⟩, by decide +kernel, rfl, by decide, Or.inr ⟨rfl, gw_at 631 (by decide +kernel) (by decide +kernel), gw_at 632 (by decide +kernel) (by decide +kernel), 1, rfl, (by decide +kernel)⟩⟩
set_option maxRecDepth 20000 in
theorem mo_63 : MOK (7, yX7_cell, cX7_cell, 3, (some .int), 3, false) := ⟨gw_at 658 rfl rfl, gw_at 115 (by decide +kernel) (by decide +kernel), ⟨by decide +kernel, by decide +kernel⟩, by decide +kernel, rfl, by decide, Or.inr ⟨rfl, gw_at 656 (by decide +kernel) (by decide +kernel), gw_at 657 (by decide +kernel) (by decide +kernel), 2, rfl, (by decide +kernel)⟩⟩
set_option maxRecDepth 20000 in
theorem mo_64 : MOK (7, yX7_group, cX7_group, 3, (some .int), 3, false) := ⟨gw_at 667 rfl rfl, gw_at 115 (by decide +kernel) (by decide +kernel), ⟨by decide +kernel, by decide +kernel⟩, by decide +kernel, rfl, by decide, Or.inr ⟨rfl, gw_at 665 (by decide +kernel) (by decide +kernel), gw_at 666 (by decide +kernel) (by decide +kernel), 2, rfl, (by decide +kernel)⟩⟩
set_option maxRecDepth 20000 in
theorem mo_65 : MOK (7, yX7_take, cX7_take, 2, (some .int), 2, false) := ⟨gw_at 698 rfl rfl, gw_at 115 (by decide +kernel) (by decide +kernel), ⟨by decide +kernel, by decide +kernel⟩, by decide +kernel, rfl, by decide, Or.inr ⟨rfl, gw_at 696 (by decide +kernel) (by decide +kernel), gw_at 697 (by decide +kernel) (by decide +kernel), 1, rfl, (by decide +kernel)⟩⟩
set_option maxRecDepth 20000 in
theorem mo_66 : MOK (7, yX7_would, cX7_would, 3, (some .int), 3, false) := ⟨gw_at 709 rfl rfl, gw_at 115 (by decide +kernel) (by decide +kernel), ⟨by decide +kernel, by decide +kernel⟩, by decide +kernel, rfl, by decide, Or.inr ⟨rfl, gw_at 707 (by decide +kernel) (by decide +kernel), gw_at 708 (by decide +kernel) (by decide +kernel), 2, rfl, (by decide +kernel)⟩⟩
set_option maxRecDepth 20000 in
theorem mo_67 : MOK (7, yX7_where, cX7_where, 3, (some .int), 3, false) := ⟨gw_at 728 rfl rfl, gw_at 115 (by decide +kernel) (by decide +kernel), ⟨by decide +kernel, by decide +kernel⟩, by decide +kernel, rfl, by decide, Or.inr ⟨rfl, gw_at 726 (by decide +kernel) (by decide +kernel), gw_at 727 (by decide +kernel) (by decide +kernel), 2, rfl, (by decide +kernel)⟩⟩
set_option maxRecDepth 20000 in
theorem mo_68 : MOK (7, yX7_bound, cX7_bound, 3, (some .int), 2, false) := ⟨gw_at 732 rfl rfl, gw_at 115 (by decide +kernel) (by decide +kernel), ⟨by decide +kernel, by decide +kernel⟩, by decide +kernel, rfl, by decide, Or.inr ⟨rfl, gw_at 730 (by decide +kernel) (by decide +kernel), gw_at 731 (by decide +kernel) (by decide +kernel), 1, rfl, (by decide +kernel)⟩⟩
set_option maxRecDepth 20000 in
theorem mo_69 : MOK (7, yX7_joined, cX7_joined, 2, (some .int), 2, false) := ⟨gw_at 744 rfl rfl, gw_at 115 (by decide +kernel) (by decide +kernel), ⟨by decide +kernel, by decide +kernel⟩, by decide +kernel, rfl, by decide, Or.inr ⟨rfl, gw_at 742 (by decide +kernel) (by decide +kernel), gw_at 743 (by decide +kernel) (by decide +kernel), 1, rfl, (by decide +kernel)⟩⟩
set_option maxRecDepth 20000 in
theorem mo_70 : MOK (7, yX7_move, cX7_move, 4, (some .int), 3, false) := ⟨gw_at 748 rfl rfl, gw_at 115 (by decide +kernel) (by decide +kernel), ⟨by decide +kernel, by decide +kernel⟩, by decide +kernel, rfl, by decide, Or.inr ⟨rfl, gw_at 746 (by decide +kernel) (by decide +kernel), gw_at 747 (by decide +kernel) (by decide +kernel), 2, rfl, (by decide +kernel)⟩⟩
set_option maxRecDepth 20000 in
theorem mo_71 : MOK (7, yX7_swap, cX7_swap, 4, (some .int), 3, false) := ⟨gw_at 752 rfl rfl, gw_at 115 (by decide +kernel) (by decide +kernel), ⟨by decide +kernel, by decide +kernel⟩, by decide +kernel, rfl, by decide, Or.inr ⟨rfl, gw_at 750 (by decide +kernel) (by decide +kernel), gw_at 751 (by decide +kernel) (by decide +kernel), 2, rfl, (by decide +kernel)⟩⟩
set_option maxRecDepth 20000 in
theorem mo_72 : MOK (7, yX7_better, cX7_better, 6, (some .int), 1, false) := ⟨gw_at 756 rfl rfl, gw_at 115 (by decide +kernel) (by decide +kernel), ⟨by decide +kernel, by decide +kernel⟩, by decide +kernel, rfl, by decide, Or.inr ⟨rfl, gw_at 754 (by decide +kernel) (by decide +kernel), gw_at 755 (by decide +kernel) (by decide +kernel), 0, rfl, (by decide +kernel)⟩⟩
set_option maxRecDepth 20000 in
theorem mo_73 : MOK (7, yX7_add, cX7_add, 2, (some .int), 2, false) := ⟨gw_at 764 rfl rfl, gw_at 115 (by decide +kernel) (by decide +kernel), ⟨by decide +kernel, by decide +kernel⟩, by decide +kernel, rfl, by decide, Or.inr ⟨rfl, gw_at 762 (by decide +kernel) (by decide +kernel), gw_at 763 (by decide +kernel) (by decide +kernel), 1, rfl, (by decide +kernel)⟩⟩
set_option maxRecDepth 20000 in
theorem mo_74 : MOK (7, yX7_drop, cX7_drop, 2, (some .int), 2, false) := ⟨gw_at 769 rfl rfl, gw_at 115 (by decide +kernel) (by decide +kernel), ⟨by decide +kernel, by decide +kernel⟩, by decide +kernel, rfl, by decide, Or.inr ⟨rfl, gw_at 767 (by decide +kernel) (by decide +kernel), gw_at 768 (by decide +kernel) (by decide +kernel), 1, rfl, (by decide +kernel)⟩⟩
set_option maxRecDepth 20000 in
theorem mo_75 : MOK (7, yX7_set, cX7_set, 4, (some .int), 3, false) := ⟨gw_at 777 rfl rfl, gw_at 115 (by decide +kernel) (by decide +kernel), ⟨by decide +kernel, by decide +kernel⟩, by decide +kernel, rfl, by decide, Or.inr ⟨rfl, gw_at 775 (by decide +kernel) (by decide +kernel), gw_at 776 (by decide +kernel) (by decide +kernel), 2, rfl, (by decide +kernel)⟩⟩
set_option maxRecDepth 20000 in
theorem mo_76 : MOK (7, yX7_rate, cX7_rate, 4, (some .int), 3, false) := ⟨gw_at 781 rfl rfl, gw_at 115 (by decide +kernel) (by decide +kernel), ⟨by decide +kernel, by decide +kernel⟩, by decide +kernel, rfl, by decide, Or.inr ⟨rfl, gw_at 779 (by decide +kernel) (by decide +kernel), gw_at 780 (by decide +kernel) (by decide +kernel), 2, rfl, (by decide +kernel)⟩⟩
set_option maxRecDepth 20000 in
theorem mo_77 : MOK (7, yX7_groups, cX7_groups, 3, (some .int), 2, false) := ⟨gw_at 785 rfl rfl, gw_at 115 (by decide +kernel) (by decide +kernel), ⟨by decide +kernel, by decide +kernel⟩, by decide +kernel, rfl, by decide, Or.inr ⟨rfl, gw_at 783 (by decide +kernel) (by decide +kernel), gw_at 784 (by decide +kernel) (by decide +kernel), 1, rfl, (by decide +kernel)⟩⟩
set_option maxRecDepth 20000 in
theorem mo_78 : MOK (7, yX7_bleed, cX7_bleed, 2, (some .int), 2, false) := ⟨gw_at 789 rfl rfl, gw_at 115 (by decide +kernel) (by decide +kernel), ⟨by decide +kernel, by decide +kernel⟩, by decide +kernel, rfl, by decide, Or.inr ⟨rfl, gw_at 787 (by decide +kernel) (by decide +kernel), gw_at 788 (by decide +kernel) (by decide +kernel), 1, rfl, (by decide +kernel)⟩⟩
set_option maxRecDepth 20000 in
theorem mo_79 : MOK (7, yX7_plan, cX7_plan, 3, (some .int), 2, false) := ⟨gw_at 806 rfl rfl, gw_at 115 (by decide +kernel) (by decide +kernel), ⟨by decide +kernel, by decide +kernel⟩, by decide +kernel, rfl, by decide, Or.inr ⟨rfl, gw_at 804 (by decide +kernel) (by decide +kernel), gw_at 805 (by decide +kernel) (by decide +kernel), 1, rfl, (by decide +kernel)⟩⟩
set_option maxRecDepth 20000 in
theorem mo_80 : MOK (7, yX7_fill, cX7_fill, 2, (some .int), 1, false) := ⟨gw_at 810 rfl rfl, gw_at 115 (by decide +kernel) (by decide +kernel), ⟨by decide +kernel, by decide +kernel⟩, by decide +kernel, rfl, by decide, Or.inr ⟨rfl, gw_at 808 (by decide +kernel) (by decide +kernel), gw_at 809 (by decide +kernel) (by decide +kernel), 0, rfl, (by decide +kernel)⟩⟩
set_option maxRecDepth 20000 in
theorem mo_81 : MOK (7, yX7_draw, cX7_draw, 7, (some .int), 3, false) := ⟨gw_at 814 rfl rfl, gw_at 115 (by decide +kernel) (by decide +kernel), ⟨by decide +kernel, by decide +kernel⟩, by decide +kernel, rfl, by decide, Or.inr ⟨rfl, gw_at 812 (by decide +kernel) (by decide +kernel), gw_at 813 (by decide +kernel) (by decide +kernel), 2, rfl, (by decide +kernel)⟩⟩
set_option maxRecDepth 20000 in
theorem mo_82 : MOK (7, yX7_keep, cX7_keep, 3, (some .int), 2, false) := ⟨gw_at 820 rfl rfl, gw_at 115 (by decide +kernel) (by decide +kernel), ⟨by decide +kernel, by decide +kernel⟩, by decide +kernel, rfl, by decide, Or.inr ⟨rfl, gw_at 818 (by decide +kernel) (by decide +kernel), gw_at 819 (by decide +kernel) (by decide +kernel), 1, rfl, (by decide +kernel)⟩⟩
set_option maxRecDepth 20000 in
theorem mo_83 : MOK (7, yX7_back, cX7_back, 2, (some .int), 2, false) := ⟨gw_at 827 rfl rfl, gw_at 115 (by decide +kernel) (by decide +kernel), ⟨by decide +kernel, by decide +kernel⟩, by decide +kernel, rfl, by decide, Or.inr ⟨rfl, gw_at 825 (by decide +kernel) (by decide +kernel), gw_at 826 (by decide +kernel) (by decide +kernel), 1, rfl, (by decide +kernel)⟩⟩
set_option maxRecDepth 20000 in
theorem mo_84 : MOK (7, yX7_sheet, cX7_sheet, 4, (some .int), 4, false) := ⟨gw_at 831 rfl rfl, gw_at 115 (by decide +kernel) (by decide +kernel), ⟨by decide +kernel, by decide +kernel⟩, by decide +kernel, rfl, by decide, Or.inr ⟨rfl, gw_at 829 (by decide +kernel) (by decide +kernel), gw_at 830 (by decide +kernel) (by decide +kernel), 3, rfl, (by decide +kernel)⟩⟩
set_option maxRecDepth 20000 in
theorem mo_85 : MOK (7, yX7_lay, cX7_lay, 5, (some .int), 4, false) := ⟨gw_at 846 rfl rfl, gw_at 115 (by decide +kernel) (by decide +kernel), ⟨by decide +kernel, by decide +kernel⟩, by decide +kernel, rfl, by decide, Or.inr ⟨rfl, gw_at 844 (by decide +kernel) (by decide +kernel), gw_at 845 (by decide +kernel) (by decide +kernel), 3, rfl, (by decide +kernel)⟩⟩
set_option maxRecDepth 20000 in
theorem mo_86 : MOK (7, yX7_read, cX7_read, 8, (some .int), 5, false) := ⟨gw_at 855 rfl rfl, gw_at 115 (by decide +kernel) (by decide +kernel), ⟨by decide +kernel, by decide +kernel⟩, by decide +kernel, rfl, by decide, Or.inr ⟨rfl, gw_at 853 (by decide +kernel) (by decide +kernel), gw_at 854 (by decide +kernel) (by decide +kernel), 4, rfl, (by decide +kernel)⟩⟩
set_option maxRecDepth 20000 in
theorem mo_87 : MOK (7, yX7_torn, cX7_torn, 1, (some .int), 1, false) := ⟨gw_at 868 rfl rfl, gw_at 115 (by decide +kernel) (by decide +kernel), ⟨by decide +kernel, by decide +kernel⟩, by decide +kernel, rfl, by decide, Or.inr ⟨rfl, gw_at 866 (by decide +kernel) (by decide +kernel), gw_at 867 (by decide +kernel) (by decide +kernel), 0, rfl, (by decide +kernel)⟩⟩
set_option maxRecDepth 20000 in
theorem mo_88 : MOK (7, yX7_count, cX7_count, 2, (some .int), 2, false) := ⟨gw_at 872 rfl rfl, gw_at 115 (by decide +kernel) (by decide +kernel), ⟨by decide +kernel, by decide +kernel⟩, by decide +kernel, rfl, by decide, Or.inr ⟨rfl, gw_at 870 (by decide +kernel) (by decide +kernel), gw_at 871 (by decide +kernel) (by decide +kernel), 1, rfl, (by decide +kernel)⟩⟩
set_option maxRecDepth 20000 in
theorem mo_89 : MOK (7, yX7_within, cX7_within, 3, (some .boolean), 3, true) := ⟨gw_at 392 rfl rfl, gw_at 115 (by decide +kernel) (by decide +kernel), ⟨by decide +kernel, by decide +kernel⟩, by decide +kernel, rfl, by decide, Or.inl ⟨rfl, gw_at 391 (by decide +kernel) (by decide +kernel), (by decide +kernel)⟩⟩
set_option maxRecDepth 20000 in
theorem mo_90 : MOK (7, yX7_isCell, cX7_isCell, 2, (some .boolean), 2, false) := ⟨gw_at 662 rfl rfl, gw_at 115 (by decide +kernel) (by decide +kernel), ⟨by decide +kernel, by decide +kernel⟩, by decide +kernel, rfl, by decide, Or.inr ⟨rfl, gw_at 661 (by decide +kernel) (by decide +kernel), gw_at 36 (by decide +kernel) (by decide +kernel), 1, rfl, (by decide +kernel)⟩⟩
set_option maxRecDepth 20000 in
theorem mo_91 : MOK (7, yX7_isGroup, cX7_isGroup, 2, (some .boolean), 2, false) := ⟨gw_at 671 rfl rfl, gw_at 115 (by decide +kernel) (by decide +kernel), ⟨by decide +kernel, by decide +kernel⟩, by decide +kernel, rfl, by decide, Or.inr ⟨rfl, gw_at 670 (by decide +kernel) (by decide +kernel), gw_at 37 (by decide +kernel) (by decide +kernel), 1, rfl, (by decide +kernel)⟩⟩
set_option maxRecDepth 20000 in
theorem mo_92 : MOK (7, yX7_isWay, cX7_isWay, 1, (some .boolean), 1, true) := ⟨gw_at 701 rfl rfl, gw_at 115 (by decide +kernel) (by decide +kernel), ⟨by decide +kernel, by decide +kernel⟩, by decide +kernel, rfl, by decide, Or.inl ⟨rfl, gw_at 700 (by decide +kernel) (by decide +kernel), (by decide +kernel)⟩⟩
set_option maxRecDepth 20000 in
theorem mo_93 : MOK (7, yX7_wayIsOpen, cX7_wayIsOpen, 2, (some .boolean), 2, false) := ⟨gw_at 705 rfl rfl, gw_at 115 (by decide +kernel) (by decide +kernel), ⟨by decide +kernel, by decide +kernel⟩, by decide +kernel, rfl, by decide, Or.inr ⟨rfl, gw_at 704 (by decide +kernel) (by decide +kernel), gw_at 42 (by decide +kernel) (by decide +kernel), 1, rfl, (by decide +kernel)⟩⟩
set_option maxRecDepth 20000 in
theorem mo_94 : MOK (7, yX7_isImage, cX7_isImage, 1, (some .boolean), 1, true) := ⟨gw_at 823 rfl rfl, gw_at 115 (by decide +kernel) (by decide +kernel), ⟨by decide +kernel, by decide +kernel⟩, by decide +kernel, rfl, by decide, Or.inl ⟨rfl, gw_at 822 (by decide +kernel) (by decide +kernel), (by decide +kernel)⟩⟩
set_option maxRecDepth 20000 in
theorem mo_95 : MOK (7, yX7_isSheet, cX7_isSheet, 1, (some .boolean), 1, true) := ⟨gw_at 834 rfl rfl, gw_at 115 (by decide +kernel) (by decide +kernel), ⟨by decide +kernel, by decide +kernel⟩, by decide +kernel, rfl, by decide, Or.inl ⟨rfl, gw_at 833 (by decide +kernel) (by decide +kernel), (by decide +kernel)⟩⟩
set_option maxRecDepth 20000 in
theorem mo_96 : MOK (7, yX7_isLane, cX7_isLane, 1, (some .boolean), 1, true) := ⟨gw_at 837 rfl rfl, gw_at 115 (by decide +kernel) (by decide +kernel), ⟨by decide +kernel, by decide +kernel⟩, by decide +kernel, rfl, by decide, Or.inl ⟨rfl, gw_at 836 (by decide +kernel) (by decide +kernel), (by decide +kernel)⟩⟩
set_option maxRecDepth 20000 in
theorem mo_97 : MOK (7, yX7_regroup, cX7_regroup, 2, none, 2, false) := ⟨gw_at 528 rfl rfl, gw_at 115 (by decide +kernel) (by decide +kernel), ⟨by decide +kernel, by decide +kernel⟩, by decide +kernel, rfl, by decide, Or.inr ⟨rfl, gw_at 527 (by decide +kernel) (by decide +kernel), gw_at 15 (by decide +kernel) (by decide +kernel), 1, rfl, (by decide +kernel)⟩⟩
set_option maxRecDepth 20000 in
theorem mo_98 : MOK (7, yX7_waysThatReach, cX7_waysThatReach, 4, (some .int), 2, false) := ⟨gw_at 740 rfl rfl, gw_at 115 (by decide +kernel) (by decide +kernel), ⟨by decide +kernel, by decide +kernel⟩, by decide +kernel, rfl, by decide, Or.inr ⟨rfl, gw_at 739 (by decide +kernel) (by decide +kernel), gw_at 47 (by decide +kernel) (by decide +kernel), 1, rfl, (by decide +kernel)⟩⟩
set_option maxRecDepth 20000 in
theorem mo_99 : MOK (7, yX7_forgetImages, cX7_forgetImages, 2, none, 1, false) := ⟨gw_at 625 rfl rfl, gw_at 115 (by decide +kernel) (by decide +kernel), ⟨by decide +kernel, by decide +kernel⟩, by decide +kernel, rfl, by decide, Or.inr ⟨rfl, gw_at 624 (by decide +kernel) (by decide +kernel), gw_at 32 (by decide +kernel) (by decide +kernel), 0, rfl, (by decide +kernel)⟩⟩
set_option maxRecDepth 20000 in
theorem mo_100 : MOK (7, yX7_keptImages, cX7_keptImages, 3, (some .int), 1, false) := ⟨gw_at 876 rfl rfl, gw_at 115 (by decide +kernel) (by decide +kernel), ⟨by decide +kernel, by decide +kernel⟩, by decide +kernel, rfl, by decide, Or.inr ⟨rfl, gw_at 875 (by decide +kernel) (by decide +kernel), gw_at 57 (by decide +kernel) (by decide +kernel), 0, rfl, (by decide +kernel)⟩⟩
set_option maxRecDepth 20000 in
theorem mo_101 : MOK (7, yX7_total, cX7_total, 4, (some .int), 2, true) := ⟨gw_at 596 rfl rfl, gw_at 115 (by decide +kernel) (by decide +kernel), ⟨by decide +kernel, by decide +kernel⟩, by decide +kernel, rfl, by decide, Or.inl ⟨rfl, gw_at 595 (by decide +kernel) (by decide +kernel), (by decide +kernel)⟩⟩
set_option maxRecDepth 20000 in
theorem mo_102 : MOK (7, yX7_sumUp, cX7_sumUp, 5, none, 4, true) := ⟨gw_at 640 rfl rfl, gw_at 115 (by decide +kernel) (by decide +kernel), ⟨by decide +kernel, by decide +kernel⟩, by decide +kernel, rfl, by decide, Or.inl ⟨rfl, gw_at 639 (by decide +kernel) (by decide +kernel), (by decide +kernel)⟩⟩
set_option maxRecDepth 20000 in
theorem mo_103 : MOK (7, yX7_firstLeast, cX7_firstLeast, 4, (some .int), 2, true) := ⟨gw_at 546 rfl rfl, gw_at 115 (by decide +kernel) (by decide +kernel), ⟨by decide +kernel, by decide +kernel⟩, by decide +kernel, rfl, by decide, Or.inl ⟨rfl, gw_at 545 (by decide +kernel) (by decide +kernel), (by decide +kernel)⟩⟩
set_option maxRecDepth 20000 in
theorem mo_104 : MOK (7, yX7_greatest, cX7_greatest, 4, (some .int), 2, true) := ⟨gw_at 608 rfl rfl, gw_at 115 (by decide +kernel) (by decide +kernel), ⟨by decide +kernel, by decide +kernel⟩, by decide +kernel, rfl, by decide, Or.inl ⟨rfl, gw_at 607 (by decide +kernel) (by decide +kernel), (by decide +kernel)⟩⟩
set_option maxRecDepth 20000 in
theorem mo_106 : MOK (8, yX8_in, cX8_in, 6, (some .boolean), 3, true) := ⟨gw_at 986 rfl rfl, gw_at 123 (by decide +kernel) (by decide +kernel), ⟨by decide +kernel, by decide +kernel⟩, by decide +kernel, rfl, by decide, Or.inl ⟨rfl, gw_at 985 (by decide +kernel) (by decide +kernel), (by decide +kernel)⟩⟩
set_option maxRecDepth 20000 in
theorem mo_107 : MOK (8, yX8_flag, cX8_flag, 1, (some .int), 1, true) := ⟨gw_at 1103 rfl rfl, gw_at 123 (by decide +kernel) (by decide +kernel), ⟨by decide +kernel, by decide +kernel⟩, by decide +kernel, rfl, by decide, Or.inl ⟨rfl, gw_at 1102 (by decide +kernel) (by decide +kernel), (by decide +kernel)⟩⟩
set_option maxRecDepth 20000 in
theorem mo_108 : MOK (8, yX8_firstDraft, cX8_firstDraft, 2, none, 1, false) := ⟨gw_at 899 rfl rfl, gw_at 123 (by decide +kernel) (by decide +kernel), ⟨by decide +kernel, by decide +kernel⟩, by decide +kernel, rfl, by decide, Or.inr ⟨rfl, gw_at 898 (by decide +kernel) (by decide +kernel), gw_at 61 (by decide +kernel) (by decide +kernel), 0, rfl, (by decide +kernel)⟩⟩
set_option maxRecDepth 20000 in
theorem mo_109 : MOK (8, yX8_feed, cX8_feed, 2, (some .int), 2, false) := ⟨gw_at 982 rfl rfl, gw_at 123 (by decide +kernel) (by decide +kernel), ⟨by decide +kernel, by decide +kernel⟩, by decide +kernel, rfl, by decide, Or.inr ⟨rfl, gw_at 980 (by decide +kernel) (by decide +kernel), gw_at 981 (by decide +kernel) (by decide +kernel), 1, rfl, (by decide +kernel)⟩⟩
set_option maxRecDepth 20000 in
theorem mo_110 : MOK (8, yX8_end, cX8_end, 3, (some .int), 2, false) := ⟨gw_at 990 rfl rfl, gw_at 123 (by decide +kernel) (by decide +kernel), ⟨by decide +kernel, by decide +kernel⟩, by decide +kernel, rfl, by decide, Or.inr ⟨rfl, gw_at 988 (by decide +kernel) (by decide +kernel), gw_at 989 (by decide +kernel) (by decide +kernel), 1, rfl, (by decide +kernel)⟩⟩
set_option maxRecDepth 20000 in
theorem mo_111 : MOK (8, yX8_requires, cX8_requires, 3, none, 3, false) := ⟨gw_at 1010 rfl rfl, gw_at 123 (by decide +kernel) (by decide +kernel), ⟨by decide +kernel, by decide +kernel⟩, by decide +kernel, rfl, by decide, Or.inr ⟨rfl, gw_at 1009 (by decide +kernel) (by decide +kernel), gw_at 64 (by decide +kernel) (by decide +kernel), 2, rfl, (by decide +kernel)⟩⟩
set_option maxRecDepth 20000 in
theorem mo_112 : MOK (8, yX8_byteAt, cX8_byteAt, 2, (some .int), 2, false) := ⟨gw_at 1002 rfl rfl, gw_at 123 (by decide +kernel) (by decide +kernel), ⟨by decide +kernel, by decide +kernel⟩, by decide +kernel, rfl, by decide, Or.inr ⟨rfl, gw_at 1001 (by decide +kernel) (by decide +kernel), gw_at 63 (by decide +kernel) (by decide +kernel), 1, rfl, (by decide +kernel)⟩⟩
set_option maxRecDepth 20000 in
theorem mo_113 : MOK (8, yX8_is, cX8_is, 6, (some .boolean), 6, false) := ⟨gw_at 1022 rfl rfl, gw_at 123 (by decide +kernel) (by decide +kernel), ⟨by decide +kernel, by decide +kernel⟩, by decide +kernel, rfl, by decide, Or.inr ⟨rfl, gw_at 1021 (by decide +kernel) (by decide +kernel), gw_at 67 (by decide +kernel) (by decide +kernel), 5, rfl, (by decide +kernel)⟩⟩
set_option maxRecDepth 20000 in
theorem mo_114 : MOK (8, yX8_lineNow, cX8_lineNow, 1, (some .int), 1, false) := ⟨gw_at 1018 rfl rfl, gw_at 123 (by decide +kernel) (by decide +kernel), ⟨by decide +kernel, by decide +kernel⟩, by decide +kernel, rfl, by decide, Or.inr ⟨rfl, gw_at 1017 (by decide +kernel) (by decide +kernel), gw_at 66 (by decide +kernel) (by decide +kernel), 0, rfl, (by decide +kernel)⟩⟩
set_option maxRecDepth 20000 in
theorem mo_115 : MOK (8, yX8_reads, cX8_reads, 2, none, 1, false) := ⟨gw_at 998 rfl rfl, gw_at 123 (by decide +kernel) (by decide +kernel), ⟨by decide +kernel, by decide +kernel⟩, by decide +kernel, rfl, by decide, Or.inr ⟨rfl, gw_at 997 (by decide +kernel) (by decide +kernel), gw_at 62 (by decide +kernel) (by decide +kernel), 0, rfl, (by decide +kernel)⟩⟩
set_option maxRecDepth 20000 in
theorem mo_116 : MOK (8, yX8_leastOf, cX8_leastOf, 1, (some .int), 1, true) := ⟨gw_at 1033 rfl rfl, gw_at 123 (by decide +kernel) (by decide +kernel), ⟨by decide +kernel, by decide +kernel⟩, by decide +kernel, rfl, by decide, Or.inl ⟨rfl, gw_at 1032 (by decide +kernel) (by decide +kernel), (by decide +kernel)⟩⟩
set_option maxRecDepth 20000 in
theorem mo_117 : MOK (8, yX8_mostOf, cX8_mostOf, 1, (some .int), 1, true) := ⟨gw_at 1036 rfl rfl, gw_at 123 (by decide +kernel) (by decide +kernel), ⟨by decide +kernel, by decide +kernel⟩, by decide +kernel, rfl, by decide, Or.inl ⟨rfl, gw_at 1035 (by decide +kernel) (by decide +kernel), (by decide +kernel)⟩⟩
set_option maxRecDepth 20000 in
theorem mo_118 : MOK (8, yX8_readNumber, cX8_readNumber, 4, (some .int), 3, false) := ⟨gw_at 1030 rfl rfl, gw_at 123 (by decide +kernel) (by decide +kernel), ⟨by decide +kernel, by decide +kernel⟩, by decide +kernel, rfl, by decide, Or.inr ⟨rfl, gw_at 1029 (by decide +kernel) (by decide +kernel), gw_at 69 (by decide +kernel) (by decide +kernel), 2, rfl, (by decide +kernel)⟩⟩
set_option maxRecDepth 20000 in
theorem mo_119 : MOK (8, yX8_readCell, cX8_readCell, 2, none, 1, false) := ⟨gw_at 1026 rfl rfl, gw_at 123 (by decide +kernel) (by decide +kernel), ⟨by decide +kernel, by decide +kernel⟩, by decide +kernel, rfl, by decide, Or.inr ⟨rfl, gw_at 1025 (by decide +kernel) (by decide +kernel), gw_at 68 (by decide +kernel) (by decide +kernel), 0, rfl, (by decide +kernel)⟩⟩
set_option maxRecDepth 20000 in
theorem mo_120 : MOK (8, yX8_readLine, cX8_readLine, 2, none, 1, false) := ⟨gw_at 1014 rfl rfl, gw_at 123 (by decide +kernel) (by decide +kernel), ⟨by decide +kernel, by decide +kernel⟩, by decide +kernel, rfl, by decide, Or.inr ⟨rfl, gw_at 1013 (by decide +kernel) (by decide +kernel), gw_at 65 (by decide +kernel) (by decide +kernel), 0, rfl, (by decide +kernel)⟩⟩
set_option maxRecDepth 20000 in
theorem mo_121 : MOK (8, yX8_text, cX8_text, 2, (some .int), 1, false) := ⟨gw_at 994 rfl rfl, gw_at 123 (by decide +kernel) (by decide +kernel), ⟨by decide +kernel, by decide +kernel⟩, by decide +kernel, rfl, by decide, Or.inr ⟨rfl, gw_at 992 (by decide +kernel) (by decide +kernel), gw_at 993 (by decide +kernel) (by decide +kernel), 0, rfl, (by decide +kernel)⟩⟩
set_option maxRecDepth 20000 in
theorem mo_122 : MOK (8, yX8_fault, cX8_fault, 1, (some .int), 1, false) := ⟨gw_at 1052 rfl rfl, gw_at 123 (by decide +kernel) (by decide +kernel), ⟨by decide +kernel, by decide +kernel⟩, by decide +kernel, rfl, by decide, Or.inr ⟨rfl, gw_at 1050 (by decide +kernel) (by decide +kernel), gw_at 1051 (by decide +kernel) (by decide +kernel), 0, rfl, (by decide +kernel)⟩⟩
set_option maxRecDepth 20000 in
theorem mo_123 : MOK (8, yX8_isCell, cX8_isCell, 2, (some .boolean), 2, false) := ⟨gw_at 1096 rfl rfl, gw_at 123 (by decide +kernel) (by decide +kernel), ⟨by decide +kernel, by decide +kernel⟩, by decide +kernel, rfl, by decide, Or.inr ⟨rfl, gw_at 1095 (by decide +kernel) (by decide +kernel), gw_at 81 (by decide +kernel) (by decide +kernel), 1, rfl, (by decide +kernel)⟩⟩
set_option maxRecDepth 20000 in
theorem mo_124 : MOK (8, yX8_isGroup, cX8_isGroup, 2, (some .boolean), 2, false) := ⟨gw_at 1111 rfl rfl, gw_at 123 (by decide +kernel) (by decide +kernel), ⟨by decide +kernel, by decide +kernel⟩, by decide +kernel, rfl, by decide, Or.inr ⟨rfl, gw_at 1110 (by decide +kernel) (by decide +kernel), gw_at 83 (by decide +kernel) (by decide +kernel), 1, rfl, (by decide +kernel)⟩⟩
set_option maxRecDepth 20000 in
theorem mo_125 : MOK (8, yX8_sumNow, cX8_sumNow, 3, none, 2, false) := ⟨gw_at 1064 rfl rfl, gw_at 123 (by decide +kernel) (by decide +kernel), ⟨by decide +kernel, by decide +kernel⟩, by decide +kernel, rfl, by decide, Or.inr ⟨rfl, gw_at 1063 (by decide +kernel) (by decide +kernel), gw_at 74 (by decide +kernel) (by decide +kernel), 1, rfl, (by decide +kernel)⟩⟩
set_option maxRecDepth 20000 in
theorem mo_126 : MOK (8, yX8_sumFound, cX8_sumFound, 2, none, 1, false) := ⟨gw_at 1184 rfl rfl, gw_at 123 (by decide +kernel) (by decide +kernel), ⟨by decide +kernel, by decide +kernel⟩, by decide +kernel, rfl, by decide, Or.inr ⟨rfl, gw_at 1183 (by decide +kernel) (by decide +kernel), gw_at 100 (by decide +kernel) (by decide +kernel), 0, rfl, (by decide +kernel)⟩⟩
set_option maxRecDepth 20000 in
theorem mo_127 : MOK (8, yX8_weakest, cX8_weakest, 3, (some .int), 1, false) := ⟨gw_at 1068 rfl rfl, gw_at 123 (by decide +kernel) (by decide +kernel), ⟨by decide +kernel, by decide +kernel⟩, by decide +kernel, rfl, by decide, Or.inr ⟨rfl, gw_at 1067 (by decide +kernel) (by decide +kernel), gw_at 75 (by decide +kernel) (by decide +kernel), 0, rfl, (by decide +kernel)⟩⟩
set_option maxRecDepth 20000 in
theorem mo_128 : MOK (8, yX8_least, cX8_least, 1, (some .int), 1, false) := ⟨gw_at 1076 rfl rfl, gw_at 123 (by decide +kernel) (by decide +kernel), ⟨by decide +kernel, by decide +kernel⟩, by decide +kernel, rfl, by decide, Or.inr ⟨rfl, gw_at 1075 (by decide +kernel) (by decide +kernel), gw_at 77 (by decide +kernel) (by decide +kernel), 0, rfl, (by decide +kernel)⟩⟩
set_option maxRecDepth 20000 in
theorem mo_129 : MOK (8, yX8_greatest, cX8_greatest, 3, (some .int), 1, false) := ⟨gw_at 1084 rfl rfl, gw_at 123 (by decide +kernel) (by decide +kernel), ⟨by decide +kernel, by decide +kernel⟩, by decide +kernel, rfl, by decide, Or.inr ⟨rfl, gw_at 1083 (by decide +kernel) (by decide +kernel), gw_at 79 (by decide +kernel) (by decide +kernel), 0, rfl, (by decide +kernel)⟩⟩
set_option maxRecDepth 20000 in
theorem mo_130 : MOK (8, yX8_spreadNow, cX8_spreadNow, 1, (some .int), 1, false) := ⟨gw_at 1080 rfl rfl, gw_at 123 (by decide +kernel) (by decide +kernel), ⟨by decide +kernel, by decide +kernel⟩, by decide +kernel, rfl, by decide, Or.inr ⟨rfl, gw_at 1079 (by decide +kernel) (by decide +kernel), gw_at 78 (by decide +kernel) (by decide +kernel), 0, rfl, (by decide +kernel)⟩⟩
set_option maxRecDepth 20000 in
theorem mo_131 : MOK (8, yX8_all, cX8_all, 4, (some .int), 2, false) := ⟨gw_at 1088 rfl rfl, gw_at 123 (by decide +kernel) (by decide +kernel), ⟨by decide +kernel, by decide +kernel⟩, by decide +kernel, rfl, by decide, Or.inr ⟨rfl, gw_at 1087 (by decide +kernel) (by decide +kernel), gw_at 80 (by decide +kernel) (by decide +kernel), 1, rfl, (by decide +kernel)⟩⟩
set_option maxRecDepth 20000 in
theorem mo_132 : MOK (8, yX8_weakestNow, cX8_weakestNow, 1, (some .int), 1, false) := ⟨gw_at 1060 rfl rfl, gw_at 123 (by decide +kernel) (by decide +kernel), ⟨by decide +kernel, by decide +kernel⟩, by decide +kernel, rfl, by decide, Or.inr ⟨rfl, gw_at 1059 (by decide +kernel) (by decide +kernel), gw_at 73 (by decide +kernel) (by decide +kernel), 0, rfl, (by decide +kernel)⟩⟩
set_option maxRecDepth 20000 in
theorem mo_133 : MOK (8, yX8_leastNow, cX8_leastNow, 2, (some .int), 2, false) := ⟨gw_at 1072 rfl rfl, gw_at 123 (by decide +kernel) (by decide +kernel), ⟨by decide +kernel, by decide +kernel⟩, by decide +kernel, rfl, by decide, Or.inr ⟨rfl, gw_at 1071 (by decide +kernel) (by decide +kernel), gw_at 76 (by decide +kernel) (by decide +kernel), 1, rfl, (by decide +kernel)⟩⟩
set_option maxRecDepth 20000 in
theorem mo_134 : MOK (8, yX8_rule, cX8_rule, 2, (some .int), 2, false) := ⟨gw_at 1056 rfl rfl, gw_at 123 (by decide +kernel) (by decide +kernel), ⟨by decide +kernel, by decide +kernel⟩, by decide +kernel, rfl, by decide, Or.inr ⟨rfl, gw_at 1054 (by decide +kernel) (by decide +kernel), gw_at 1055 (by decide +kernel) (by decide +kernel), 1, rfl, (by decide +kernel)⟩⟩
set_option maxRecDepth 20000 in
theorem mo_135 : MOK (8, yX8_rankOf, cX8_rankOf, 4, (some .int), 2, false) := ⟨gw_at 1100 rfl rfl, gw_at 123 (by decide +kernel) (by decide +kernel), ⟨by decide +kernel, by decide +kernel⟩, by decide +kernel, rfl, by decide, Or.inr ⟨rfl, gw_at 1099 (by decide +kernel) (by decide +kernel), gw_at 82 (by decide +kernel) (by decide +kernel), 1, rfl, (by decide +kernel)⟩⟩
set_option maxRecDepth 20000 in
theorem mo_136 : MOK (8, yX8_cell, cX8_cell, 3, (some .int), 3, false) := ⟨gw_at 1092 rfl rfl, gw_at 123 (by decide +kernel) (by decide +kernel), ⟨by decide +kernel, by decide +kernel⟩, by decide +kernel, rfl, by decide, Or.inr ⟨rfl, gw_at 1090 (by decide +kernel) (by decide +kernel), gw_at 1091 (by decide +kernel) (by decide +kernel), 2, rfl, (by decide +kernel)⟩⟩
set_option maxRecDepth 20000 in
theorem mo_137 : MOK (8, yX8_strongest, cX8_strongest, 4, (some .int), 2, false) := ⟨gw_at 1123 rfl rfl, gw_at 123 (by decide +kernel) (by decide +kernel), ⟨by decide +kernel, by decide +kernel⟩, by decide +kernel, rfl, by decide, Or.inr ⟨rfl, gw_at 1122 (by decide +kernel) (by decide +kernel), gw_at 86 (by decide +kernel) (by decide +kernel), 1, rfl, (by decide +kernel)⟩⟩
set_option maxRecDepth 20000 in
theorem mo_138 : MOK (8, yX8_cellsOf, cX8_cellsOf, 5, (some .int), 3, false) := ⟨gw_at 1119 rfl rfl, gw_at 123 (by decide +kernel) (by decide +kernel), ⟨by decide +kernel, by decide +kernel⟩, by decide +kernel, rfl, by decide, Or.inr ⟨rfl, gw_at 1118 (by decide +kernel) (by decide +kernel), gw_at 85 (by decide +kernel) (by decide +kernel), 2, rfl, (by decide +kernel)⟩⟩
set_option maxRecDepth 20000 in
theorem mo_139 : MOK (8, yX8_aboveFloor, cX8_aboveFloor, 4, (some .int), 2, false) := ⟨gw_at 1127 rfl rfl, gw_at 123 (by decide +kernel) (by decide +kernel), ⟨by decide +kernel, by decide +kernel⟩, by decide +kernel, rfl, by decide, Or.inr ⟨rfl, gw_at 1126 (by decide +kernel) (by decide +kernel), gw_at 87 (by decide +kernel) (by decide +kernel), 1, rfl, (by decide +kernel)⟩⟩
set_option maxRecDepth 20000 in
theorem mo_140 : MOK (8, yX8_sumOf, cX8_sumOf, 2, (some .int), 2, false) := ⟨gw_at 1115 rfl rfl, gw_at 123 (by decide +kernel) (by decide +kernel), ⟨by decide +kernel, by decide +kernel⟩, by decide +kernel, rfl, by decide, Or.inr ⟨rfl, gw_at 1114 (by decide +kernel) (by decide +kernel), gw_at 84 (by decide +kernel) (by decide +kernel), 1, rfl, (by decide +kernel)⟩⟩
set_option maxRecDepth 20000 in
theorem mo_141 : MOK (8, yX8_group, cX8_group, 3, (some .int), 3, false) := ⟨gw_at 1107 rfl rfl, gw_at 123 (by decide +kernel) (by decide +kernel), ⟨by decide +kernel, by decide +kernel⟩, by decide +kernel, rfl, by decide, Or.inr ⟨rfl, gw_at 1105 (by decide +kernel) (by decide +kernel), gw_at 1106 (by decide +kernel) (by decide +kernel), 2, rfl, (by decide +kernel)⟩⟩
set_option maxRecDepth 20000 in
theorem mo_142 : MOK (8, yX8_findTurns, cX8_findTurns, 2, none, 1, false) := ⟨gw_at 1044 rfl rfl, gw_at 123 (by decide +kernel) (by decide +kernel), ⟨by decide +kernel, by decide +kernel⟩, by decide +kernel, rfl, by decide, Or.inr ⟨rfl, gw_at 1043 (by decide +kernel) (by decide +kernel), gw_at 71 (by decide +kernel) (by decide +kernel), 0, rfl, (by decide +kernel)⟩⟩
set_option maxRecDepth 20000 in
theorem mo_143 : MOK (8, yX8_findWeakest, cX8_findWeakest, 4, none, 1, false) := ⟨gw_at 1148 rfl rfl, gw_at 123 (by decide +kernel) (by decide +kernel), ⟨by decide +kernel, by decide +kernel⟩, by decide +kernel, rfl, by decide, Or.inr ⟨rfl, gw_at 1147 (by decide +kernel) (by decide +kernel), gw_at 91 (by decide +kernel) (by decide +kernel), 0, rfl, (by decide +kernel)⟩⟩
set_option maxRecDepth 20000 in
theorem mo_144 : MOK (8, yX8_holds, cX8_holds, 4, (some .int), 2, false) := ⟨gw_at 1164 rfl rfl, gw_at 123 (by decide +kernel) (by decide +kernel), ⟨by decide +kernel, by decide +kernel⟩, by decide +kernel, rfl, by decide, Or.inr ⟨rfl, gw_at 1163 (by decide +kernel) (by decide +kernel), gw_at 95 (by decide +kernel) (by decide +kernel), 1, rfl, (by decide +kernel)⟩⟩
set_option maxRecDepth 20000 in
theorem mo_145 : MOK (8, yX8_isAhead, cX8_isAhead, 5, (some .boolean), 3, false) := ⟨gw_at 1176 rfl rfl, gw_at 123 (by decide +kernel) (by decide +kernel), ⟨by decide +kernel, by decide +kernel⟩, by decide +kernel, rfl, by decide, Or.inr ⟨rfl, gw_at 1175 (by decide +kernel) (by decide +kernel), gw_at 98 (by decide +kernel) (by decide +kernel), 2, rfl, (by decide +kernel)⟩⟩
set_option maxRecDepth 20000 in
theorem mo_146 : MOK (8, yX8_differenceOf, cX8_differenceOf, 2, (some .int), 2, false) := ⟨gw_at 1160 rfl rfl, gw_at 123 (by decide +kernel) (by decide +kernel), ⟨by decide +kernel, by decide +kernel⟩, by decide +kernel, rfl, by decide, Or.inr ⟨rfl, gw_at 1159 (by decide +kernel) (by decide +kernel), gw_at 94 (by decide +kernel) (by decide +kernel), 1, rfl, (by decide +kernel)⟩⟩
set_option maxRecDepth 20000 in
theorem mo_147 : MOK (8, yX8_widest, cX8_widest, 4, (some .int), 2, false) := ⟨gw_at 1156 rfl rfl, gw_at 123 (by decide +kernel) (by decide +kernel), ⟨by decide +kernel, by decide +kernel⟩, by decide +kernel, rfl, by decide, Or.inr ⟨rfl, gw_at 1155 (by decide +kernel) (by decide +kernel), gw_at 93 (by decide +kernel) (by decide +kernel), 1, rfl, (by decide +kernel)⟩⟩
set_option maxRecDepth 20000 in
theorem mo_148 : MOK (8, yX8_order, cX8_order, 6, none, 2, false) := ⟨gw_at 1172 rfl rfl, gw_at 123 (by decide +kernel) (by decide +kernel), ⟨by decide +kernel, by decide +kernel⟩, by decide +kernel, rfl, by decide, Or.inr ⟨rfl, gw_at 1171 (by decide +kernel) (by decide +kernel), gw_at 97 (by decide +kernel) (by decide +kernel), 1, rfl, (by decide +kernel)⟩⟩
set_option maxRecDepth 20000 in
theorem mo_149 : MOK (8, yX8_join, cX8_join, 6, none, 3, false) := ⟨gw_at 1168 rfl rfl, gw_at 123 (by decide +kernel) (by decide +kernel), ⟨by decide +kernel, by decide +kernel⟩, by decide +kernel, rfl, by decide, Or.inr ⟨rfl, gw_at 1167 (by decide +kernel) (by decide +kernel), gw_at 96 (by decide +kernel) (by decide +kernel), 2, rfl, (by decide +kernel)⟩⟩
set_option maxRecDepth 20000 in
theorem mo_150 : MOK (8, yX8_findDifferences, cX8_findDifferences, 4, none, 1, false) := ⟨gw_at 1152 rfl rfl, gw_at 123 (by decide +kernel) (by decide +kernel), ⟨by decide +kernel, by decide +kernel⟩, by decide +kernel, rfl, by decide, Or.inr ⟨rfl, gw_at 1151 (by decide +kernel) (by decide +kernel), gw_at 92 (by decide +kernel) (by decide +kernel), 0, rfl, (by decide +kernel)⟩⟩
set_option maxRecDepth 20000 in
theorem mo_151 : MOK (8, yX8_steps, cX8_steps, 4, (some .boolean), 1, false) := ⟨gw_at 1188 rfl rfl, gw_at 123 (by decide +kernel) (by decide +kernel), ⟨by decide +kernel, by decide +kernel⟩, by decide +kernel, rfl, by decide, Or.inr ⟨rfl, gw_at 1187 (by decide +kernel) (by decide +kernel), gw_at 101 (by decide +kernel) (by decide +kernel), 0, rfl, (by decide +kernel)⟩⟩
set_option maxRecDepth 20000 in
theorem mo_152 : MOK (8, yX8_findBest, cX8_findBest, 5, none, 1, false) := ⟨gw_at 1180 rfl rfl, gw_at 123 (by decide +kernel) (by decide +kernel), ⟨by decide +kernel, by decide +kernel⟩, by decide +kernel, rfl, by decide, Or.inr ⟨rfl, gw_at 1179 (by decide +kernel) (by decide +kernel), gw_at 99 (by decide +kernel) (by decide +kernel), 0, rfl, (by decide +kernel)⟩⟩
set_option maxRecDepth 20000 in
theorem mo_153 : MOK (8, yX8_find, cX8_find, 2, none, 2, false) := ⟨gw_at 1144 rfl rfl, gw_at 123 (by decide +kernel) (by decide +kernel), ⟨by decide +kernel, by decide +kernel⟩, by decide +kernel, rfl, by decide, Or.inr ⟨rfl, gw_at 1143 (by decide +kernel) (by decide +kernel), gw_at 90 (by decide +kernel) (by decide +kernel), 1, rfl, (by decide +kernel)⟩⟩
set_option maxRecDepth 20000 in
theorem mo_154 : MOK (8, yX8_takeFound, cX8_takeFound, 2, none, 1, false) := ⟨gw_at 1048 rfl rfl, gw_at 123 (by decide +kernel) (by decide +kernel), ⟨by decide +kernel, by decide +kernel⟩, by decide +kernel, rfl, by decide, Or.inr ⟨rfl, gw_at 1047 (by decide +kernel) (by decide +kernel), gw_at 72 (by decide +kernel) (by decide +kernel), 0, rfl, (by decide +kernel)⟩⟩
set_option maxRecDepth 20000 in
theorem mo_155 : MOK (8, yX8_byTurns, cX8_byTurns, 1, none, 1, false) := ⟨gw_at 1040 rfl rfl, gw_at 123 (by decide +kernel) (by decide +kernel), ⟨by decide +kernel, by decide +kernel⟩, by decide +kernel, rfl, by decide, Or.inr ⟨rfl, gw_at 1039 (by decide +kernel) (by decide +kernel), gw_at 70 (by decide +kernel) (by decide +kernel), 0, rfl, (by decide +kernel)⟩⟩
set_option maxRecDepth 20000 in
theorem mo_156 : MOK (8, yX8_isWay, cX8_isWay, 2, (some .boolean), 2, false) := ⟨gw_at 1135 rfl rfl, gw_at 123 (by decide +kernel) (by decide +kernel), ⟨by decide +kernel, by decide +kernel⟩, by decide +kernel, rfl, by decide, Or.inr ⟨rfl, gw_at 1134 (by decide +kernel) (by decide +kernel), gw_at 88 (by decide +kernel) (by decide +kernel), 1, rfl, (by decide +kernel)⟩⟩
set_option maxRecDepth 20000 in
theorem mo_157 : MOK (8, yX8_isTooMuch, cX8_isTooMuch, 2, (some .boolean), 2, false) := ⟨gw_at 1140 rfl rfl, gw_at 123 (by decide +kernel) (by decide +kernel), ⟨by decide +kernel, by decide +kernel⟩, by decide +kernel, rfl, by decide, Or.inr ⟨rfl, gw_at 1139 (by decide +kernel) (by decide +kernel), gw_at 89 (by decide +kernel) (by decide +kernel), 1, rfl, (by decide +kernel)⟩⟩
set_option maxRecDepth 20000 in
theorem mo_158 : MOK (8, yX8_take, cX8_take, 2, (some .int), 2, false) := ⟨gw_at 1131 rfl rfl, gw_at 123 (by decide +kernel) (by decide +kernel), ⟨by decide +kernel, by decide +kernel⟩, by decide +kernel, rfl, by decide, Or.inr ⟨rfl, gw_at 1129 (by decide +kernel) (by decide +kernel), gw_at 1130 (by decide +kernel) (by decide +kernel), 1, rfl, (by decide +kernel)⟩⟩
set_option maxRecDepth 20000 in
theorem mo_159 : MOK (8, yX8_moved, cX8_moved, 3, (some .int), 1, false) := ⟨gw_at 1197 rfl rfl, gw_at 123 (by decide +kernel) (by decide +kernel), ⟨by decide +kernel, by decide +kernel⟩, by decide +kernel, rfl, by decide, Or.inr ⟨rfl, gw_at 1196 (by decide +kernel) (by decide +kernel), gw_at 102 (by decide +kernel) (by decide +kernel), 0, rfl, (by decide +kernel)⟩⟩
set_option maxRecDepth 20000 in
theorem mo_160 : MOK (8, yX8_would, cX8_would, 3, (some .int), 3, false) := ⟨gw_at 1192 rfl rfl, gw_at 123 (by decide +kernel) (by decide +kernel), ⟨by decide +kernel, by decide +kernel⟩, by decide +kernel, rfl, by decide, Or.inr ⟨rfl, gw_at 1190 (by decide +kernel) (by decide +kernel), gw_at 1191 (by decide +kernel) (by decide +kernel), 2, rfl, (by decide +kernel)⟩⟩
set_option maxRecDepth 20000 in
theorem mo_161 : MOK (8, yX8_where, cX8_where, 3, (some .int), 3, false) := ⟨gw_at 1201 rfl rfl, gw_at 123 (by decide +kernel) (by decide +kernel), ⟨by decide +kernel, by decide +kernel⟩, by decide +kernel, rfl, by decide, Or.inr ⟨rfl, gw_at 1199 (by decide +kernel) (by decide +kernel), gw_at 1200 (by decide +kernel) (by decide +kernel), 2, rfl, (by decide +kernel)⟩⟩
set_option maxRecDepth 20000 in
theorem mo_162 : MOK (8, yX8_boundNow, cX8_boundNow, 1, (some .int), 1, false) := ⟨gw_at 1209 rfl rfl, gw_at 123 (by decide +kernel) (by decide +kernel), ⟨by decide +kernel, by decide +kernel⟩, by decide +kernel, rfl, by decide, Or.inr ⟨rfl, gw_at 1208 (by decide +kernel) (by decide +kernel), gw_at 103 (by decide +kernel) (by decide +kernel), 0, rfl, (by decide +kernel)⟩⟩
set_option maxRecDepth 20000 in
theorem mo_163 : MOK (8, yX8_reaching, cX8_reaching, 3, (some .int), 1, false) := ⟨gw_at 1213 rfl rfl, gw_at 123 (by decide +kernel) (by decide +kernel), ⟨by decide +kernel, by decide +kernel⟩, by decide +kernel, rfl, by decide, Or.inr ⟨rfl, gw_at 1212 (by decide +kernel) (by decide +kernel), gw_at 104 (by decide +kernel) (by decide +kernel), 0, rfl, (by decide +kernel)⟩⟩
set_option maxRecDepth 20000 in
theorem mo_164 : MOK (8, yX8_bound, cX8_bound, 2, (some .int), 2, false) := ⟨gw_at 1205 rfl rfl, gw_at 123 (by decide +kernel) (by decide +kernel), ⟨by decide +kernel, by decide +kernel⟩, by decide +kernel, rfl, by decide, Or.inr ⟨rfl, gw_at 1203 (by decide +kernel) (by decide +kernel), gw_at 1204 (by decide +kernel) (by decide +kernel), 1, rfl, (by decide +kernel)⟩⟩
set_option maxRecDepth 20000 in
theorem mo_165 : MOK (8, yX8_joined, cX8_joined, 2, (some .int), 2, false) := ⟨gw_at 1217 rfl rfl, gw_at 123 (by decide +kernel) (by decide +kernel), ⟨by decide +kernel, by decide +kernel⟩, by decide +kernel, rfl, by decide, Or.inr ⟨rfl, gw_at 1215 (by decide +kernel) (by decide +kernel), gw_at 1216 (by decide +kernel) (by decide +kernel), 1, rfl, (by decide +kernel)⟩⟩
set_option maxRecDepth 20000 in
theorem mo_166 : MOK (8, yX8_move, cX8_move, 4, (some .int), 3, false) := ⟨gw_at 1221 rfl rfl, gw_at 123 (by decide +kernel) (by decide +kernel), ⟨by decide +kernel, by decide +kernel⟩, by decide +kernel, rfl, by decide, Or.inr ⟨rfl, gw_at 1219 (by decide +kernel) (by decide +kernel), gw_at 1220 (by decide +kernel) (by decide +kernel), 2, rfl, (by decide +kernel)⟩⟩
set_option maxRecDepth 20000 in
theorem mo_167 : MOK (8, yX8_exchange, cX8_exchange, 4, none, 3, false) := ⟨gw_at 1229 rfl rfl, gw_at 123 (by decide +kernel) (by decide +kernel), ⟨by decide +kernel, by decide +kernel⟩, by decide +kernel, rfl, by decide, Or.inr ⟨rfl, gw_at 1228 (by decide +kernel) (by decide +kernel), gw_at 105 (by decide +kernel) (by decide +kernel), 2, rfl, (by decide +kernel)⟩⟩
set_option maxRecDepth 20000 in
theorem mo_168 : MOK (8, yX8_swap, cX8_swap, 3, (some .int), 3, false) := ⟨gw_at 1225 rfl rfl, gw_at 123 (by decide +kernel) (by decide +kernel), ⟨by decide +kernel, by decide +kernel⟩, by decide +kernel, rfl, by decide, Or.inr ⟨rfl, gw_at 1223 (by decide +kernel) (by decide +kernel), gw_at 1224 (by decide +kernel) (by decide +kernel), 2, rfl, (by decide +kernel)⟩⟩
set_option maxRecDepth 20000 in
theorem mo_169 : MOK (8, yX8_better, cX8_better, 5, (some .int), 1, false) := ⟨gw_at 1233 rfl rfl, gw_at 123 (by decide +kernel) (by decide +kernel), ⟨by decide +kernel, by decide +kernel⟩, by decide +kernel, rfl, by decide, Or.inr ⟨rfl, gw_at 1231 (by decide +kernel) (by decide +kernel), gw_at 1232 (by decide +kernel) (by decide +kernel), 0, rfl, (by decide +kernel)⟩⟩
set_option maxRecDepth 20000 in
theorem mo_170 : MOK (8, yX8_comes, cX8_comes, 4, none, 2, false) := ⟨gw_at 1242 rfl rfl, gw_at 123 (by decide +kernel) (by decide +kernel), ⟨by decide +kernel, by decide +kernel⟩, by decide +kernel, rfl, by decide, Or.inr ⟨rfl, gw_at 1241 (by decide +kernel) (by decide +kernel), gw_at 106 (by decide +kernel) (by decide +kernel), 1, rfl, (by decide +kernel)⟩⟩
set_option maxRecDepth 20000 in
theorem mo_171 : MOK (8, yX8_add, cX8_add, 2, (some .int), 2, false) := ⟨gw_at 1237 rfl rfl, gw_at 123 (by decide +kernel) (by decide +kernel), ⟨by decide +kernel, by decide +kernel⟩, by decide +kernel, rfl, by decide, Or.inr ⟨rfl, gw_at 1235 (by decide +kernel) (by decide +kernel), gw_at 1236 (by decide +kernel) (by decide +kernel), 1, rfl, (by decide +kernel)⟩⟩
set_option maxRecDepth 20000 in
theorem mo_172 : MOK (8, yX8_drop, cX8_drop, 3, (some .int), 2, false) := ⟨gw_at 1246 rfl rfl, gw_at 123 (by decide +kernel) (by decide +kernel), ⟨by decide +kernel, by decide +kernel⟩, by decide +kernel, rfl, by decide, Or.inr ⟨rfl, gw_at 1244 (by decide +kernel) (by decide +kernel), gw_at 1245 (by decide +kernel) (by decide +kernel), 1, rfl, (by decide +kernel)⟩⟩
set_option maxRecDepth 20000 in
theorem mo_173 : MOK (8, yX8_set, cX8_set, 4, (some .int), 3, false) := ⟨gw_at 1250 rfl rfl, gw_at 123 (by decide +kernel) (by decide +kernel), ⟨by decide +kernel, by decide +kernel⟩, by decide +kernel, rfl, by decide, Or.inr ⟨rfl, gw_at 1248 (by decide +kernel) (by decide +kernel), gw_at 1249 (by decide +kernel) (by decide +kernel), 2, rfl, (by decide +kernel)⟩⟩
set_option maxRecDepth 20000 in
theorem mo_174 : MOK (8, yX8_rate, cX8_rate, 4, (some .int), 3, false) := ⟨gw_at 1254 rfl rfl, gw_at 123 (by decide +kernel) (by decide +kernel), ⟨by decide +kernel, by decide +kernel⟩, by decide +kernel, rfl, by decide, Or.inr ⟨rfl, gw_at 1252 (by decide +kernel) (by decide +kernel), gw_at 1253 (by decide +kernel) (by decide +kernel), 2, rfl, (by decide +kernel)⟩⟩
set_option maxRecDepth 20000 in
theorem mo_175 : MOK (8, yX8_groups, cX8_groups, 3, (some .int), 2, false) := ⟨gw_at 1258 rfl rfl, gw_at 123 (by decide +kernel) (by decide +kernel), ⟨by decide +kernel, by decide +kernel⟩, by decide +kernel, rfl, by decide, Or.inr ⟨rfl, gw_at 1256 (by decide +kernel) (by decide +kernel), gw_at 1257 (by decide +kernel) (by decide +kernel), 1, rfl, (by decide +kernel)⟩⟩
set_option maxRecDepth 20000 in
theorem mo_176 : MOK (8, yX8_ticks, cX8_ticks, 6, (some .boolean), 1, false) := ⟨gw_at 1272 rfl rfl, gw_at 123 (by decide +kernel) (by decide +kernel), ⟨by decide +kernel, by decide +kernel⟩, by decide +kernel, rfl, by decide, Or.inr ⟨rfl, gw_at 1271 (by decide +kernel) (by decide +kernel), gw_at 108 (by decide +kernel) (by decide +kernel), 0, rfl, (by decide +kernel)⟩⟩
set_option maxRecDepth 20000 in
theorem mo_177 : MOK (8, yX8_ticksOn, cX8_ticksOn, 3, (some .int), 2, false) := ⟨gw_at 1268 rfl rfl, gw_at 123 (by decide +kernel) (by decide +kernel), ⟨by decide +kernel, by decide +kernel⟩, by decide +kernel, rfl, by decide, Or.inr ⟨rfl, gw_at 1267 (by decide +kernel) (by decide +kernel), gw_at 107 (by decide +kernel) (by decide +kernel), 1, rfl, (by decide +kernel)⟩⟩
set_option maxRecDepth 20000 in
theorem mo_178 : MOK (8, yX8_bleed, cX8_bleed, 2, (some .int), 2, false) := ⟨gw_at 1263 rfl rfl, gw_at 123 (by decide +kernel) (by decide +kernel), ⟨by decide +kernel, by decide +kernel⟩, by decide +kernel, rfl, by decide, Or.inr ⟨rfl, gw_at 1261 (by decide +kernel) (by decide +kernel), gw_at 1262 (by decide +kernel) (by decide +kernel), 1, rfl, (by decide +kernel)⟩⟩
set_option maxRecDepth 20000 in
theorem mo_179 : MOK (8, yX8_plan, cX8_plan, 6, (some .int), 2, false) := ⟨gw_at 1276 rfl rfl, gw_at 123 (by decide +kernel) (by decide +kernel), ⟨by decide +kernel, by decide +kernel⟩, by decide +kernel, rfl, by decide, Or.inr ⟨rfl, gw_at 1274 (by decide +kernel) (by decide +kernel), gw_at 1275 (by decide +kernel) (by decide +kernel), 1, rfl, (by decide +kernel)⟩⟩
set_option maxRecDepth 20000 in
theorem mo_180 : MOK (8, yX8_fill, cX8_fill, 3, (some .int), 1, false) := ⟨gw_at 1288 rfl rfl, gw_at 123 (by decide +kernel) (by decide +kernel), ⟨by decide +kernel, by decide +kernel⟩, by decide +kernel, rfl, by decide, Or.inr ⟨rfl, gw_at 1286 (by decide +kernel) (by decide +kernel), gw_at 1287 (by decide +kernel) (by decide +kernel), 0, rfl, (by decide +kernel)⟩⟩
set_option maxRecDepth 20000 in
theorem mo_181 : MOK (8, yX8_draw, cX8_draw, 5, (some .int), 3, false) := ⟨gw_at 1292 rfl rfl, gw_at 123 (by decide +kernel) (by decide +kernel), ⟨by decide +kernel, by decide +kernel⟩, by decide +kernel, rfl, by decide, Or.inr ⟨rfl, gw_at 1290 (by decide +kernel) (by decide +kernel), gw_at 1291 (by decide +kernel) (by decide +kernel), 2, rfl, (by decide +kernel)⟩⟩
set_option maxRecDepth 20000 in
theorem mo_182 : MOK (8, yX8_keepBefore, cX8_keepBefore, 2, none, 1, false) := ⟨gw_at 1280 rfl rfl, gw_at 123 (by decide +kernel) (by decide +kernel), ⟨by decide +kernel, by decide +kernel⟩, by decide +kernel, rfl, by decide, Or.inr ⟨rfl, gw_at 1279 (by decide +kernel) (by decide +kernel), gw_at 109 (by decide +kernel) (by decide +kernel), 0, rfl, (by decide +kernel)⟩⟩
set_option maxRecDepth 20000 in
theorem mo_183 : MOK (8, yX8_backBefore, cX8_backBefore, 2, none, 1, false) := ⟨gw_at 1284 rfl rfl, gw_at 123 (by decide +kernel) (by decide +kernel), ⟨by decide +kernel, by decide +kernel⟩, by decide +kernel, rfl, by decide, Or.inr ⟨rfl, gw_at 1283 (by decide +kernel) (by decide +kernel), gw_at 110 (by decide +kernel) (by decide +kernel), 0, rfl, (by decide +kernel)⟩⟩
set_option maxRecDepth 20000 in
theorem mo_184 : MOK (8, yX8_keep, cX8_keep, 4, (some .int), 2, false) := ⟨gw_at 1298 rfl rfl, gw_at 123 (by decide +kernel) (by decide +kernel), ⟨by decide +kernel, by decide +kernel⟩, by decide +kernel, rfl, by decide, Or.inr ⟨rfl, gw_at 1296 (by decide +kernel) (by decide +kernel), gw_at 1297 (by decide +kernel) (by decide +kernel), 1, rfl, (by decide +kernel)⟩⟩
set_option maxRecDepth 20000 in
theorem mo_185 : MOK (8, yX8_back, cX8_back, 3, (some .int), 2, false) := ⟨gw_at 1302 rfl rfl, gw_at 123 (by decide +kernel) (by decide +kernel), ⟨by decide +kernel, by decide +kernel⟩, by decide +kernel, rfl, by decide, Or.inr ⟨rfl, gw_at 1300 (by decide +kernel) (by decide +kernel), gw_at 1301 (by decide +kernel) (by decide +kernel), 1, rfl, (by decide +kernel)⟩⟩
set_option maxRecDepth 20000 in
theorem mo_186 : MOK (8, yX8_isSheet, cX8_isSheet, 2, (some .boolean), 2, true) := ⟨gw_at 1309 rfl rfl, gw_at 123 (by decide +kernel) (by decide +kernel), ⟨by decide +kernel, by decide +kernel⟩, by decide +kernel, rfl, by decide, Or.inl ⟨rfl, gw_at 1308 (by decide +kernel) (by decide +kernel), (by decide +kernel)⟩⟩
set_option maxRecDepth 20000 in
theorem mo_187 : MOK (8, yX8_sheet, cX8_sheet, 5, (some .int), 4, false) := ⟨gw_at 1306 rfl rfl, gw_at 123 (by decide +kernel) (by decide +kernel), ⟨by decide +kernel, by decide +kernel⟩, by decide +kernel, rfl, by decide, Or.inr ⟨rfl, gw_at 1304 (by decide +kernel) (by decide +kernel), gw_at 1305 (by decide +kernel) (by decide +kernel), 3, rfl, (by decide +kernel)⟩⟩
set_option maxRecDepth 20000 in
theorem mo_188 : MOK (8, yX8_lay, cX8_lay, 4, (some .int), 4, false) := ⟨gw_at 1313 rfl rfl, gw_at 123 (by decide +kernel) (by decide +kernel), ⟨by decide +kernel, by decide +kernel⟩, by decide +kernel, rfl, by decide, Or.inr ⟨rfl, gw_at 1311 (by decide +kernel) (by decide +kernel), gw_at 1312 (by decide +kernel) (by decide +kernel), 3, rfl, (by decide +kernel)⟩⟩
set_option maxRecDepth 20000 in
theorem mo_189 : MOK (8, yX8_read, cX8_read, 11, (some .int), 5, false) := ⟨gw_at 1317 rfl rfl, gw_at 123 (by decide +kernel) (by decide +kernel), ⟨by decide +kernel, by decide +kernel⟩, by decide +kernel, rfl, by decide, Or.inr ⟨rfl, gw_at 1315 (by decide +kernel) (by decide +kernel), gw_at 1316 (by decide +kernel) (by decide +kernel), 4, rfl, (by decide +kernel)⟩⟩
set_option maxRecDepth 20000 in
theorem mo_190 : MOK (8, yX8_torn, cX8_torn, 1, (some .int), 1, false) := ⟨gw_at 1323 rfl rfl, gw_at 123 (by decide +kernel) (by decide +kernel), ⟨by decide +kernel, by decide +kernel⟩, by decide +kernel, rfl, by decide, Or.inr ⟨rfl, gw_at 1321 (by decide +kernel) (by decide +kernel), gw_at 1322 (by decide +kernel) (by decide +kernel), 0, rfl, (by decide +kernel)⟩⟩
set_option maxRecDepth 20000 in
theorem mo_191 : MOK (8, yX8_emptyGroups, cX8_emptyGroups, 3, (some .int), 1, false) := ⟨gw_at 1331 rfl rfl, gw_at 123 (by decide +kernel) (by decide +kernel), ⟨by decide +kernel, by decide +kernel⟩, by decide +kernel, rfl, by decide, Or.inr ⟨rfl, gw_at 1330 (by decide +kernel) (by decide +kernel), gw_at 111 (by decide +kernel) (by decide +kernel), 0, rfl, (by decide +kernel)⟩⟩
set_option maxRecDepth 20000 in
theorem mo_192 : MOK (8, yX8_bledCells, cX8_bledCells, 3, (some .int), 1, false) := ⟨gw_at 1335 rfl rfl, gw_at 123 (by decide +kernel) (by decide +kernel), ⟨by decide +kernel, by decide +kernel⟩, by decide +kernel, rfl, by decide, Or.inr ⟨rfl, gw_at 1334 (by decide +kernel) (by decide +kernel), gw_at 112 (by decide +kernel) (by decide +kernel), 0, rfl, (by decide +kernel)⟩⟩
set_option maxRecDepth 20000 in
theorem mo_193 : MOK (8, yX8_greatestCharge, cX8_greatestCharge, 3, (some .int), 1, false) := ⟨gw_at 1339 rfl rfl, gw_at 123 (by decide +kernel) (by decide +kernel), ⟨by decide +kernel, by decide +kernel⟩, by decide +kernel, rfl, by decide, Or.inr ⟨rfl, gw_at 1338 (by decide +kernel) (by decide +kernel), gw_at 113 (by decide +kernel) (by decide +kernel), 0, rfl, (by decide +kernel)⟩⟩
set_option maxRecDepth 20000 in
theorem mo_194 : MOK (8, yX8_count, cX8_count, 2, (some .int), 2, false) := ⟨gw_at 1327 rfl rfl, gw_at 123 (by decide +kernel) (by decide +kernel), ⟨by decide +kernel, by decide +kernel⟩, by decide +kernel, rfl, by decide, Or.inr ⟨rfl, gw_at 1325 (by decide +kernel) (by decide +kernel), gw_at 1326 (by decide +kernel) (by decide +kernel), 1, rfl, (by decide +kernel)⟩⟩
set_option maxRecDepth 20000 in
theorem mo_195 : MOK (10, yJ6_bitCount_0f7a4, cJ6_bitCount_0f7a4, 1, (some .int), 1, true) := ⟨gw_at 682 rfl rfl, gw_at 131 (by decide +kernel) (by decide +kernel), ⟨by decide +kernel, by decide +kernel⟩, by decide +kernel, rfl, by decide, Or.inl ⟨rfl, gw_at 681 (by decide +kernel) (by decide +kernel), (by decide +kernel)⟩⟩
set_option maxRecDepth 20000 in
theorem mo_196 : MOK (9, yJ7_fill_53178, cJ7_fill_53178, 4, none, 2, true) := ⟨gw_at 543 rfl rfl, gw_at 129 (by decide +kernel) (by decide +kernel), ⟨by decide +kernel, by decide +kernel⟩, by decide +kernel, rfl, by decide, Or.inl ⟨rfl, gw_at 542 (by decide +kernel) (by decide +kernel), (by decide +kernel)⟩⟩
theorem lo_0 : LOK ((0, 33, 196, 0) : Nat × Nat × Nat × Int) := ⟨RX0, rfl, Or.inl ⟨(9, yJ7_fill_53178, cJ7_fill_53178, 4, none, 2, true), rfl, mo_196, Or.inl (gw_at 593 (by decide +kernel) (by decide +kernel))⟩⟩
theorem lo_1 : LOK ((0, 42, 101, 1) : Nat × Nat × Nat × Int) := ⟨RX0, rfl, Or.inl ⟨(7, yX7_total, cX7_total, 4, (some .int), 2, true), rfl, mo_101, Or.inr ⟨_, nw_at (w := .methodLinkNest RX0 42 yX7_total "CellPacks") 594 (by decide +kernel) rfl⟩⟩⟩
theorem lo_2 : LOK ((0, 46, 1, 0) : Nat × Nat × Nat × Int) := ⟨RX0, rfl, Or.inl ⟨(0, yX0_tryCell, cX0_tryCell, 7, none, 5, false), rfl, mo_1, Or.inl (gw_at 597 (by decide +kernel) (by decide +kernel))⟩⟩
theorem lo_3 : LOK ((0, 50, 1002, 0) : Nat × Nat × Nat × Int) := ⟨RX0, rfl, Or.inr ⟨by decide, _, rfl, gw_at 610 (by decide +kernel) (by decide +kernel)⟩⟩
theorem lo_4 : LOK ((0, 56, 3, 0) : Nat × Nat × Nat × Int) := ⟨RX0, rfl, Or.inl ⟨(0, yX0_judge, cX0_judge, 4, none, 2, false), rfl, mo_3, Or.inl (gw_at 601 (by decide +kernel) (by decide +kernel))⟩⟩
theorem lo_5 : LOK ((0, 63, 2, 0) : Nat × Nat × Nat × Int) := ⟨RX0, rfl, Or.inl ⟨(0, yX0_lacking, cX0_lacking, 4, (some .int), 2, false), rfl, mo_2, Or.inl (gw_at 611 (by decide +kernel) (by decide +kernel))⟩⟩
theorem lo_6 : LOK ((0, 67, 1001, 0) : Nat × Nat × Nat × Int) := ⟨RX0, rfl, Or.inr ⟨by decide, _, rfl, gw_at 616 (by decide +kernel) (by decide +kernel)⟩⟩
theorem lo_7 : LOK ((0, 73, 1000, 0) : Nat × Nat × Nat × Int) := ⟨RX0, rfl, Or.inr ⟨by decide, _, rfl, gw_at 615 (by decide +kernel) (by decide +kernel)⟩⟩
theorem lo_8 : LOK ((0, 76, 103, 1) : Nat × Nat × Nat × Int) := ⟨RX0, rfl, Or.inl ⟨(7, yX7_firstLeast, cX7_firstLeast, 4, (some .int), 2, true), rfl, mo_103, Or.inr ⟨_, nw_at (w := .methodLinkNest RX0 76 yX7_firstLeast "CellPacks") 605 (by decide +kernel) rfl⟩⟩⟩
theorem lo_9 : LOK ((0, 79, 104, 1) : Nat × Nat × Nat × Int) := ⟨RX0, rfl, Or.inl ⟨(7, yX7_greatest, cX7_greatest, 4, (some .int), 2, true), rfl, mo_104, Or.inr ⟨_, nw_at (w := .methodLinkNest RX0 79 yX7_greatest "CellPacks") 606 (by decide +kernel) rfl⟩⟩⟩
theorem lo_10 : LOK ((1, 37, 5, 0) : Nat × Nat × Nat × Int) := ⟨RX1, rfl, Or.inl ⟨(1, yX1_begin, cX1_begin, 3, none, 2, false), rfl, mo_5, Or.inl (gw_at 551 (by decide +kernel) (by decide +kernel))⟩⟩
theorem lo_11 : LOK ((1, 41, 6, 0) : Nat × Nat × Nat × Int) := ⟨RX1, rfl, Or.inl ⟨(1, yX1_joinTwo, cX1_joinTwo, 3, none, 1, false), rfl, mo_6, Or.inl (gw_at 556 (by decide +kernel) (by decide +kernel))⟩⟩
theorem lo_12 : LOK ((1, 44, 12, 0) : Nat × Nat × Nat × Int) := ⟨RX1, rfl, Or.inl ⟨(1, yX1_bundleOf, cX1_bundleOf, 3, (some .int), 2, false), rfl, mo_12, Or.inl (gw_at 585 (by decide +kernel) (by decide +kernel))⟩⟩
theorem lo_13 : LOK ((1, 52, 196, 0) : Nat × Nat × Nat × Int) := ⟨RX1, rfl, Or.inl ⟨(9, yJ7_fill_53178, cJ7_fill_53178, 4, none, 2, true), rfl, mo_196, Or.inl (gw_at 555 (by decide +kernel) (by decide +kernel))⟩⟩
theorem lo_14 : LOK ((1, 61, 7, 0) : Nat × Nat × Nat × Int) := ⟨RX1, rfl, Or.inl ⟨(1, yX1_widestBut, cX1_widestBut, 4, (some .int), 2, false), rfl, mo_7, Or.inl (gw_at 560 (by decide +kernel) (by decide +kernel))⟩⟩
theorem lo_15 : LOK ((1, 64, 1001, 0) : Nat × Nat × Nat × Int) := ⟨RX1, rfl, Or.inr ⟨by decide, _, rfl, gw_at 568 (by decide +kernel) (by decide +kernel)⟩⟩
theorem lo_16 : LOK ((1, 70, 1000, 0) : Nat × Nat × Nat × Int) := ⟨RX1, rfl, Or.inr ⟨by decide, _, rfl, gw_at 571 (by decide +kernel) (by decide +kernel)⟩⟩
theorem lo_17 : LOK ((1, 73, 9, 0) : Nat × Nat × Nat × Int) := ⟨RX1, rfl, Or.inl ⟨(1, yX1_merge, cX1_merge, 5, none, 3, false), rfl, mo_9, Or.inl (gw_at 574 (by decide +kernel) (by decide +kernel))⟩⟩
theorem lo_18 : LOK ((1, 77, 8, 0) : Nat × Nat × Nat × Int) := ⟨RX1, rfl, Or.inl ⟨(1, yX1_width, cX1_width, 2, (some .int), 2, false), rfl, mo_8, Or.inl (gw_at 564 (by decide +kernel) (by decide +kernel))⟩⟩
theorem lo_19 : LOK ((1, 80, 10, 0) : Nat × Nat × Nat × Int) := ⟨RX1, rfl, Or.inl ⟨(1, yX1_isAhead, cX1_isAhead, 6, (some .boolean), 4, false), rfl, mo_10, Or.inl (gw_at 578 (by decide +kernel) (by decide +kernel))⟩⟩
theorem lo_20 : LOK ((1, 84, 11, 0) : Nat × Nat × Nat × Int) := ⟨RX1, rfl, Or.inl ⟨(1, yX1_exchange, cX1_exchange, 3, none, 2, true), rfl, mo_11, Or.inl (gw_at 582 (by decide +kernel) (by decide +kernel))⟩⟩
theorem lo_21 : LOK ((2, 43, 1002, 0) : Nat × Nat × Nat × Int) := ⟨RX2, rfl, Or.inr ⟨by decide, _, rfl, gw_at 522 (by decide +kernel) (by decide +kernel)⟩⟩
theorem lo_22 : LOK ((2, 49, 102, 1) : Nat × Nat × Nat × Int) := ⟨RX2, rfl, Or.inl ⟨(7, yX7_sumUp, cX7_sumUp, 5, none, 4, true), rfl, mo_102, Or.inr ⟨_, nw_at (w := .methodLinkNest RX2 49 yX7_sumUp "CellPacks") 638 (by decide +kernel) rfl⟩⟩⟩
theorem lo_23 : LOK ((2, 53, 103, 1) : Nat × Nat × Nat × Int) := ⟨RX2, rfl, Or.inl ⟨(7, yX7_firstLeast, cX7_firstLeast, 4, (some .int), 2, true), rfl, mo_103, Or.inr ⟨_, nw_at (w := .methodLinkNest RX2 53 yX7_firstLeast "CellPacks") 642 (by decide +kernel) rfl⟩⟩⟩
theorem lo_24 : LOK ((2, 57, 18, 0) : Nat × Nat × Nat × Int) := ⟨RX2, rfl, Or.inl ⟨(2, yX2_weakest, cX2_weakest, 1, (some .int), 1, false), rfl, mo_18, Or.inl (gw_at 647 (by decide +kernel) (by decide +kernel))⟩⟩
theorem lo_25 : LOK ((2, 61, 19, 0) : Nat × Nat × Nat × Int) := ⟨RX2, rfl, Or.inl ⟨(2, yX2_leastSum, cX2_leastSum, 1, (some .int), 1, false), rfl, mo_19, Or.inl (gw_at 652 (by decide +kernel) (by decide +kernel))⟩⟩
theorem lo_26 : LOK ((2, 64, 104, 1) : Nat × Nat × Nat × Int) := ⟨RX2, rfl, Or.inl ⟨(7, yX7_greatest, cX7_greatest, 4, (some .int), 2, true), rfl, mo_104, Or.inr ⟨_, nw_at (w := .methodLinkNest RX2 64 yX7_greatest "CellPacks") 653 (by decide +kernel) rfl⟩⟩⟩
theorem lo_27 : LOK ((2, 67, 1000, 0) : Nat × Nat × Nat × Int) := ⟨RX2, rfl, Or.inr ⟨by decide, _, rfl, gw_at 694 (by decide +kernel) (by decide +kernel)⟩⟩
theorem lo_28 : LOK ((2, 73, 24, 0) : Nat × Nat × Nat × Int) := ⟨RX2, rfl, Or.inl ⟨(2, yX2_bitsOf, cX2_bitsOf, 4, (some .int), 2, false), rfl, mo_24, Or.inl (gw_at 881 (by decide +kernel) (by decide +kernel))⟩⟩
theorem lo_29 : LOK ((2, 77, 31, 0) : Nat × Nat × Nat × Int) := ⟨RX2, rfl, Or.inl ⟨(2, yX2_tickLoses, cX2_tickLoses, 4, (some .boolean), 1, false), rfl, mo_31, Or.inl (gw_at 794 (by decide +kernel) (by decide +kernel))⟩⟩
theorem lo_30 : LOK ((2, 81, 32, 0) : Nat × Nat × Nat × Int) := ⟨RX2, rfl, Or.inl ⟨(2, yX2_strongestLoses, cX2_strongestLoses, 3, (some .boolean), 2, false), rfl, mo_32, Or.inl (gw_at 798 (by decide +kernel) (by decide +kernel))⟩⟩
theorem lo_31 : LOK ((2, 85, 25, 0) : Nat × Nat × Nat × Int) := ⟨RX2, rfl, Or.inl ⟨(2, yX2_strongestOf, cX2_strongestOf, 4, (some .int), 2, false), rfl, mo_25, Or.inl (gw_at 802 (by decide +kernel) (by decide +kernel))⟩⟩
theorem lo_32 : LOK ((3, 22, 196, 0) : Nat × Nat × Nat × Int) := ⟨RX3, rfl, Or.inl ⟨(9, yJ7_fill_53178, cJ7_fill_53178, 4, none, 2, true), rfl, mo_196, Or.inl (gw_at 842 (by decide +kernel) (by decide +kernel))⟩⟩
theorem lo_33 : LOK ((3, 28, 89, 1) : Nat × Nat × Nat × Int) := ⟨RX3, rfl, Or.inl ⟨(7, yX7_within, cX7_within, 3, (some .boolean), 3, true), rfl, mo_89, Or.inr ⟨_, nw_at (w := .methodLinkNest RX3 28 yX7_within "CellPacks") 851 (by decide +kernel) rfl⟩⟩⟩
theorem lo_34 : LOK ((3, 32, 1001, 0) : Nat × Nat × Nat × Int) := ⟨RX3, rfl, Or.inr ⟨by decide, _, rfl, gw_at 860 (by decide +kernel) (by decide +kernel)⟩⟩
theorem lo_35 : LOK ((4, 17, 1003, 0) : Nat × Nat × Nat × Int) := ⟨RX4, rfl, Or.inr ⟨by decide, _, rfl, gw_at 447 (by decide +kernel) (by decide +kernel)⟩⟩
theorem lo_36 : LOK ((4, 22, 37, 0) : Nat × Nat × Nat × Int) := ⟨RX4, rfl, Or.inl ⟨(4, yX4_byteAt, cX4_byteAt, 2, (some .int), 2, false), rfl, mo_37, Or.inl (gw_at 457 (by decide +kernel) (by decide +kernel))⟩⟩
theorem lo_37 : LOK ((4, 26, 1004, 0) : Nat × Nat × Nat × Int) := ⟨RX4, rfl, Or.inr ⟨by decide, _, rfl, gw_at 458 (by decide +kernel) (by decide +kernel)⟩⟩
theorem lo_38 : LOK ((5, 41, 13, 1) : Nat × Nat × Nat × Int) := ⟨RX5, rfl, Or.inl ⟨(2, yX2_reset, cX2_reset, 1, none, 1, false), rfl, mo_13, Or.inr ⟨_, nw_at (w := .methodLinkNest RX5 41 yX2_reset "CellPacks") 405 (by decide +kernel) rfl⟩⟩⟩
theorem lo_39 : LOK ((5, 48, 40, 0) : Nat × Nat × Nat × Int) := ⟨RX5, rfl, Or.inl ⟨(5, yX5_readLine, cX5_readLine, 2, (some .boolean), 1, false), rfl, mo_40, Or.inl (gw_at 406 (by decide +kernel) (by decide +kernel))⟩⟩
theorem lo_40 : LOK ((5, 52, 48, 0) : Nat × Nat × Nat × Int) := ⟨RX5, rfl, Or.inl ⟨(5, yX5_nextToken, cX5_nextToken, 2, (some .boolean), 1, false), rfl, mo_48, Or.inl (gw_at 410 (by decide +kernel) (by decide +kernel))⟩⟩
theorem lo_41 : LOK ((5, 55, 41, 0) : Nat × Nat × Nat × Int) := ⟨RX5, rfl, Or.inl ⟨(5, yX5_lineNamed, cX5_lineNamed, 2, (some .int), 1, false), rfl, mo_41, Or.inl (gw_at 431 (by decide +kernel) (by decide +kernel))⟩⟩
theorem lo_42 : LOK ((5, 59, 51, 0) : Nat × Nat × Nat × Int) := ⟨RX5, rfl, Or.inl ⟨(5, yX5_fail, cX5_fail, 2, (some .boolean), 2, false), rfl, mo_51, Or.inl (gw_at 427 (by decide +kernel) (by decide +kernel))⟩⟩
theorem lo_43 : LOK ((5, 63, 47, 0) : Nat × Nat × Nat × Int) := ⟨RX5, rfl, Or.inl ⟨(5, yX5_readCells, cX5_readCells, 2, (some .boolean), 1, false), rfl, mo_47, Or.inl (gw_at 496 (by decide +kernel) (by decide +kernel))⟩⟩
theorem lo_44 : LOK ((5, 66, 43, 0) : Nat × Nat × Nat × Int) := ⟨RX5, rfl, Or.inl ⟨(5, yX5_readSetting, cX5_readSetting, 2, (some .boolean), 2, false), rfl, mo_43, Or.inl (gw_at 504 (by decide +kernel) (by decide +kernel))⟩⟩
theorem lo_45 : LOK ((5, 69, 42, 0) : Nat × Nat × Nat × Int) := ⟨RX5, rfl, Or.inl ⟨(5, yX5_nameOf, cX5_nameOf, 1, (some (.object "java/lang/String")), 1, true), rfl, mo_42, Or.inl (gw_at 435 (by decide +kernel) (by decide +kernel))⟩⟩
theorem lo_46 : LOK ((5, 73, 38, 1) : Nat × Nat × Nat × Int) := ⟨RX5, rfl, Or.inl ⟨(4, yX4_spells, cX4_spells, 5, (some .boolean), 4, false), rfl, mo_38, Or.inr ⟨_, nw_at (w := .methodLinkNest RX5 73 yX4_spells "CellPacks") 443 (by decide +kernel) rfl⟩⟩⟩
theorem lo_47 : LOK ((5, 87, 44, 0) : Nat × Nat × Nat × Int) := ⟨RX5, rfl, Or.inl ⟨(5, yX5_lowestOf, cX5_lowestOf, 1, (some .int), 1, true), rfl, mo_44, Or.inl (gw_at 508 (by decide +kernel) (by decide +kernel))⟩⟩
theorem lo_48 : LOK ((5, 91, 45, 0) : Nat × Nat × Nat × Int) := ⟨RX5, rfl, Or.inl ⟨(5, yX5_highestOf, cX5_highestOf, 1, (some .int), 1, true), rfl, mo_45, Or.inl (gw_at 511 (by decide +kernel) (by decide +kernel))⟩⟩
theorem lo_49 : LOK ((5, 94, 89, 1) : Nat × Nat × Nat × Int) := ⟨RX5, rfl, Or.inl ⟨(7, yX7_within, cX7_within, 3, (some .boolean), 3, true), rfl, mo_89, Or.inr ⟨_, nw_at (w := .methodLinkNest RX5 94 yX7_within "CellPacks") 418 (by decide +kernel) rfl⟩⟩⟩
theorem lo_50 : LOK ((5, 98, 46, 0) : Nat × Nat × Nat × Int) := ⟨RX5, rfl, Or.inl ⟨(5, yX5_putSetting, cX5_putSetting, 2, none, 2, false), rfl, mo_46, Or.inl (gw_at 514 (by decide +kernel) (by decide +kernel))⟩⟩
theorem lo_51 : LOK ((5, 114, 15, 1) : Nat × Nat × Nat × Int) := ⟨RX5, rfl, Or.inl ⟨(2, yX2_append, cX2_append, 3, none, 3, false), rfl, mo_15, Or.inr ⟨_, nw_at (w := .methodLinkNest RX5 114 yX2_append "CellPacks") 500 (by decide +kernel) rfl⟩⟩⟩
theorem lo_52 : LOK ((5, 121, 37, 1) : Nat × Nat × Nat × Int) := ⟨RX5, rfl, Or.inl ⟨(4, yX4_byteAt, cX4_byteAt, 2, (some .int), 2, false), rfl, mo_37, Or.inr ⟨_, nw_at (w := .methodLinkNest RX5 121 yX4_byteAt "CellPacks") 414 (by decide +kernel) rfl⟩⟩⟩
theorem lo_53 : LOK ((5, 124, 49, 0) : Nat × Nat × Nat × Int) := ⟨RX5, rfl, Or.inl ⟨(5, yX5_passRun, cX5_passRun, 3, none, 3, false), rfl, mo_49, Or.inl (gw_at 419 (by decide +kernel) (by decide +kernel))⟩⟩
theorem lo_54 : LOK ((5, 127, 50, 0) : Nat × Nat × Nat × Int) := ⟨RX5, rfl, Or.inl ⟨(5, yX5_takeValue, cX5_takeValue, 2, (some .boolean), 1, false), rfl, mo_50, Or.inl (gw_at 423 (by decide +kernel) (by decide +kernel))⟩⟩
theorem lo_55 : LOK ((6, 35, 54, 0) : Nat × Nat × Nat × Int) := ⟨RX6, rfl, Or.inl ⟨(6, yX6_byWeakest, cX6_byWeakest, 4, none, 2, false), rfl, mo_54, Or.inl (gw_at 533 (by decide +kernel) (by decide +kernel))⟩⟩
theorem lo_56 : LOK ((6, 39, 4, 1) : Nat × Nat × Nat × Int) := ⟨RX6, rfl, Or.inl ⟨(1, yX1_chooseHomes, cX1_chooseHomes, 4, none, 3, false), rfl, mo_4, Or.inr ⟨_, nw_at (w := .methodLinkNest RX6 39 yX1_chooseHomes "CellPacks") 547 (by decide +kernel) rfl⟩⟩⟩
theorem lo_57 : LOK ((6, 43, 0, 1) : Nat × Nat × Nat × Int) := ⟨RX6, rfl, Or.inl ⟨(0, yX0_chooseHomes, cX0_chooseHomes, 3, none, 3, false), rfl, mo_0, Or.inr ⟨_, nw_at (w := .methodLinkNest RX6 43 yX0_chooseHomes "CellPacks") 589 (by decide +kernel) rfl⟩⟩⟩
theorem lo_58 : LOK ((6, 44, 53, 0) : Nat × Nat × Nat × Int) := ⟨RX6, rfl, Or.inl ⟨(6, yX6_byTurns, cX6_byTurns, 3, none, 2, false), rfl, mo_53, Or.inl (gw_at 617 (by decide +kernel) (by decide +kernel))⟩⟩
theorem lo_59 : LOK ((6, 56, 23, 1) : Nat × Nat × Nat × Int) := ⟨RX6, rfl, Or.inl ⟨(2, yX2_rankByCharge, cX2_rankByCharge, 4, (some .int), 2, false), rfl, mo_23, Or.inr ⟨_, nw_at (w := .methodLinkNest RX6 56 yX2_rankByCharge "CellPacks") 537 (by decide +kernel) rfl⟩⟩⟩
theorem lo_60 : LOK ((6, 60, 196, 0) : Nat × Nat × Nat × Int) := ⟨RX6, rfl, Or.inl ⟨(9, yJ7_fill_53178, cJ7_fill_53178, 4, none, 2, true), rfl, mo_196, Or.inl (gw_at 541 (by decide +kernel) (by decide +kernel))⟩⟩
theorem lo_61 : LOK ((6, 66, 103, 1) : Nat × Nat × Nat × Int) := ⟨RX6, rfl, Or.inl ⟨(7, yX7_firstLeast, cX7_firstLeast, 4, (some .int), 2, true), rfl, mo_103, Or.inr ⟨_, nw_at (w := .methodLinkNest RX6 66 yX7_firstLeast "CellPacks") 544 (by decide +kernel) rfl⟩⟩⟩
theorem lo_62 : LOK ((6, 73, 102, 1) : Nat × Nat × Nat × Int) := ⟨RX6, rfl, Or.inl ⟨(7, yX7_sumUp, cX7_sumUp, 5, none, 4, true), rfl, mo_102, Or.inr ⟨_, nw_at (w := .methodLinkNest RX6 73 yX7_sumUp "CellPacks") 714 (by decide +kernel) rfl⟩⟩⟩
theorem lo_63 : LOK ((6, 77, 55, 0) : Nat × Nat × Nat × Int) := ⟨RX6, rfl, Or.inl ⟨(6, yX6_leastSum, cX6_leastSum, 2, (some .int), 2, false), rfl, mo_55, Or.inl (gw_at 719 (by decide +kernel) (by decide +kernel))⟩⟩
theorem lo_64 : LOK ((6, 81, 104, 1) : Nat × Nat × Nat × Int) := ⟨RX6, rfl, Or.inl ⟨(7, yX7_greatest, cX7_greatest, 4, (some .int), 2, true), rfl, mo_104, Or.inr ⟨_, nw_at (w := .methodLinkNest RX6 81 yX7_greatest "CellPacks") 720 (by decide +kernel) rfl⟩⟩⟩
theorem lo_65 : LOK ((7, 64, 89, 0) : Nat × Nat × Nat × Int) := ⟨RX7, rfl, Or.inl ⟨(7, yX7_within, cX7_within, 3, (some .boolean), 3, true), rfl, mo_89, Or.inl (gw_at 390 (by decide +kernel) (by decide +kernel))⟩⟩
theorem lo_66 : LOK ((7, 75, 39, 1) : Nat × Nat × Nat × Int) := ⟨RX7, rfl, Or.inl ⟨(5, yX5_readAll, cX5_readAll, 3, none, 1, false), rfl, mo_39, Or.inr ⟨_, nw_at (w := .methodLinkNest RX7 75 yX5_readAll "CellPacks") 401 (by decide +kernel) rfl⟩⟩⟩
theorem lo_67 : LOK ((7, 84, 14, 1) : Nat × Nat × Nat × Int) := ⟨RX7, rfl, Or.inl ⟨(2, yX2_copyFrom, cX2_copyFrom, 2, none, 2, false), rfl, mo_14, Or.inr ⟨_, nw_at (w := .methodLinkNest RX7 84 yX2_copyFrom "CellPacks") 518 (by decide +kernel) rfl⟩⟩⟩
theorem lo_68 : LOK ((7, 88, 97, 0) : Nat × Nat × Nat × Int) := ⟨RX7, rfl, Or.inl ⟨(7, yX7_regroup, cX7_regroup, 2, none, 2, false), rfl, mo_97, Or.inl (gw_at 525 (by decide +kernel) (by decide +kernel))⟩⟩
theorem lo_69 : LOK ((7, 92, 99, 0) : Nat × Nat × Nat × Int) := ⟨RX7, rfl, Or.inl ⟨(7, yX7_forgetImages, cX7_forgetImages, 2, none, 1, false), rfl, mo_99, Or.inl (gw_at 622 (by decide +kernel) (by decide +kernel))⟩⟩
theorem lo_70 : LOK ((7, 110, 18, 1) : Nat × Nat × Nat × Int) := ⟨RX7, rfl, Or.inl ⟨(2, yX2_weakest, cX2_weakest, 1, (some .int), 1, false), rfl, mo_18, Or.inr ⟨_, nw_at (w := .methodLinkNest RX7 110 yX2_weakest "CellPacks") 634 (by decide +kernel) rfl⟩⟩⟩
theorem lo_71 : LOK ((7, 114, 19, 1) : Nat × Nat × Nat × Int) := ⟨RX7, rfl, Or.inl ⟨(2, yX2_leastSum, cX2_leastSum, 1, (some .int), 1, false), rfl, mo_19, Or.inr ⟨_, nw_at (w := .methodLinkNest RX7 114 yX2_leastSum "CellPacks") 643 (by decide +kernel) rfl⟩⟩⟩
theorem lo_72 : LOK ((7, 117, 21, 1) : Nat × Nat × Nat × Int) := ⟨RX7, rfl, Or.inl ⟨(2, yX2_spread, cX2_spread, 2, (some .int), 1, false), rfl, mo_21, Or.inr ⟨_, nw_at (w := .methodLinkNest RX7 117 yX2_spread "CellPacks") 648 (by decide +kernel) rfl⟩⟩⟩
theorem lo_73 : LOK ((7, 124, 101, 0) : Nat × Nat × Nat × Int) := ⟨RX7, rfl, Or.inl ⟨(7, yX7_total, cX7_total, 4, (some .int), 2, true), rfl, mo_101, Or.inl (gw_at 654 (by decide +kernel) (by decide +kernel))⟩⟩
theorem lo_74 : LOK ((7, 131, 90, 0) : Nat × Nat × Nat × Int) := ⟨RX7, rfl, Or.inl ⟨(7, yX7_isCell, cX7_isCell, 2, (some .boolean), 2, false), rfl, mo_90, Or.inl (gw_at 659 (by decide +kernel) (by decide +kernel))⟩⟩
theorem lo_75 : LOK ((7, 138, 23, 1) : Nat × Nat × Nat × Int) := ⟨RX7, rfl, Or.inl ⟨(2, yX2_rankByCharge, cX2_rankByCharge, 4, (some .int), 2, false), rfl, mo_23, Or.inr ⟨_, nw_at (w := .methodLinkNest RX7 138 yX2_rankByCharge "CellPacks") 663 (by decide +kernel) rfl⟩⟩⟩
theorem lo_76 : LOK ((7, 142, 91, 0) : Nat × Nat × Nat × Int) := ⟨RX7, rfl, Or.inl ⟨(7, yX7_isGroup, cX7_isGroup, 2, (some .boolean), 2, false), rfl, mo_91, Or.inl (gw_at 668 (by decide +kernel) (by decide +kernel))⟩⟩
theorem lo_77 : LOK ((7, 145, 17, 1) : Nat × Nat × Nat × Int) := ⟨RX7, rfl, Or.inl ⟨(2, yX2_sumOf, cX2_sumOf, 2, (some .int), 2, false), rfl, mo_17, Or.inr ⟨_, nw_at (w := .methodLinkNest RX7 145 yX2_sumOf "CellPacks") 672 (by decide +kernel) rfl⟩⟩⟩
theorem lo_78 : LOK ((7, 148, 24, 1) : Nat × Nat × Nat × Int) := ⟨RX7, rfl, Or.inl ⟨(2, yX2_bitsOf, cX2_bitsOf, 4, (some .int), 2, false), rfl, mo_24, Or.inr ⟨_, nw_at (w := .methodLinkNest RX7 148 yX2_bitsOf "CellPacks") 676 (by decide +kernel) rfl⟩⟩⟩
theorem lo_79 : LOK ((7, 151, 195, 0) : Nat × Nat × Nat × Int) := ⟨RX7, rfl, Or.inl ⟨(10, yJ6_bitCount_0f7a4, cJ6_bitCount_0f7a4, 1, (some .int), 1, true), rfl, mo_195, Or.inl (gw_at 680 (by decide +kernel) (by decide +kernel))⟩⟩
theorem lo_80 : LOK ((7, 156, 25, 1) : Nat × Nat × Nat × Int) := ⟨RX7, rfl, Or.inl ⟨(2, yX2_strongestOf, cX2_strongestOf, 4, (some .int), 2, false), rfl, mo_25, Or.inr ⟨_, nw_at (w := .methodLinkNest RX7 156 yX2_strongestOf "CellPacks") 686 (by decide +kernel) rfl⟩⟩⟩
theorem lo_81 : LOK ((7, 159, 26, 1) : Nat × Nat × Nat × Int) := ⟨RX7, rfl, Or.inl ⟨(2, yX2_aboveFloor, cX2_aboveFloor, 4, (some .int), 2, false), rfl, mo_26, Or.inr ⟨_, nw_at (w := .methodLinkNest RX7 159 yX2_aboveFloor "CellPacks") 690 (by decide +kernel) rfl⟩⟩⟩
theorem lo_82 : LOK ((7, 162, 92, 0) : Nat × Nat × Nat × Int) := ⟨RX7, rfl, Or.inl ⟨(7, yX7_isWay, cX7_isWay, 1, (some .boolean), 1, true), rfl, mo_92, Or.inl (gw_at 699 (by decide +kernel) (by decide +kernel))⟩⟩
theorem lo_83 : LOK ((7, 165, 93, 0) : Nat × Nat × Nat × Int) := ⟨RX7, rfl, Or.inl ⟨(7, yX7_wayIsOpen, cX7_wayIsOpen, 2, (some .boolean), 2, false), rfl, mo_93, Or.inl (gw_at 702 (by decide +kernel) (by decide +kernel))⟩⟩
theorem lo_84 : LOK ((7, 168, 52, 1) : Nat × Nat × Nat × Int) := ⟨RX7, rfl, Or.inl ⟨(6, yX6_choose, cX6_choose, 3, none, 3, false), rfl, mo_52, Or.inr ⟨_, nw_at (w := .methodLinkNest RX7 168 yX6_choose "CellPacks") 529 (by decide +kernel) rfl⟩⟩⟩
theorem lo_85 : LOK ((7, 172, 55, 1) : Nat × Nat × Nat × Int) := ⟨RX7, rfl, Or.inl ⟨(6, yX6_leastSum, cX6_leastSum, 2, (some .int), 2, false), rfl, mo_55, Or.inr ⟨_, nw_at (w := .methodLinkNest RX7 172 yX6_leastSum "CellPacks") 710 (by decide +kernel) rfl⟩⟩⟩
theorem lo_86 : LOK ((7, 175, 56, 1) : Nat × Nat × Nat × Int) := ⟨RX7, rfl, Or.inl ⟨(6, yX6_spread, cX6_spread, 3, (some .int), 2, false), rfl, mo_56, Or.inr ⟨_, nw_at (w := .methodLinkNest RX7 175 yX6_spread "CellPacks") 715 (by decide +kernel) rfl⟩⟩⟩
theorem lo_87 : LOK ((7, 177, 57, 1) : Nat × Nat × Nat × Int) := ⟨RX7, rfl, Or.inl ⟨(6, yX6_strangers, cX6_strangers, 4, (some .int), 2, false), rfl, mo_57, Or.inr ⟨_, nw_at (w := .methodLinkNest RX7 177 yX6_strangers "CellPacks") 721 (by decide +kernel) rfl⟩⟩⟩
theorem lo_88 : LOK ((7, 183, 20, 1) : Nat × Nat × Nat × Int) := ⟨RX7, rfl, Or.inl ⟨(2, yX2_leastSumOfCharges, cX2_leastSumOfCharges, 1, (some .int), 1, false), rfl, mo_20, Or.inr ⟨_, nw_at (w := .methodLinkNest RX7 183 yX2_leastSumOfCharges "CellPacks") 733 (by decide +kernel) rfl⟩⟩⟩
theorem lo_89 : LOK ((7, 186, 98, 0) : Nat × Nat × Nat × Int) := ⟨RX7, rfl, Or.inl ⟨(7, yX7_waysThatReach, cX7_waysThatReach, 4, (some .int), 2, false), rfl, mo_98, Or.inl (gw_at 737 (by decide +kernel) (by decide +kernel))⟩⟩
theorem lo_90 : LOK ((7, 201, 22, 1) : Nat × Nat × Nat × Int) := ⟨RX7, rfl, Or.inl ⟨(2, yX2_leastSumExchanged, cX2_leastSumExchanged, 3, (some .int), 3, false), rfl, mo_22, Or.inr ⟨_, nw_at (w := .methodLinkNest RX7 201 yX2_leastSumExchanged "CellPacks") 757 (by decide +kernel) rfl⟩⟩⟩
theorem lo_91 : LOK ((7, 205, 15, 1) : Nat × Nat × Nat × Int) := ⟨RX7, rfl, Or.inl ⟨(2, yX2_append, cX2_append, 3, none, 3, false), rfl, mo_15, Or.inr ⟨_, nw_at (w := .methodLinkNest RX7 205 yX2_append "CellPacks") 765 (by decide +kernel) rfl⟩⟩⟩
theorem lo_92 : LOK ((7, 209, 16, 1) : Nat × Nat × Nat × Int) := ⟨RX7, rfl, Or.inl ⟨(2, yX2_removeAt, cX2_removeAt, 3, none, 2, false), rfl, mo_16, Or.inr ⟨_, nw_at (w := .methodLinkNest RX7 209 yX2_removeAt "CellPacks") 770 (by decide +kernel) rfl⟩⟩⟩
theorem lo_93 : LOK ((7, 212, 30, 1) : Nat × Nat × Nat × Int) := ⟨RX7, rfl, Or.inl ⟨(2, yX2_runTicks, cX2_runTicks, 3, (some .int), 2, false), rfl, mo_30, Or.inr ⟨_, nw_at (w := .methodLinkNest RX7 212 yX2_runTicks "CellPacks") 790 (by decide +kernel) rfl⟩⟩⟩
theorem lo_94 : LOK ((7, 215, 1002, 0) : Nat × Nat × Nat × Int) := ⟨RX7, rfl, Or.inr ⟨by decide, _, rfl, gw_at 621 (by decide +kernel) (by decide +kernel)⟩⟩
theorem lo_95 : LOK ((7, 221, 1001, 0) : Nat × Nat × Nat × Int) := ⟨RX7, rfl, Or.inr ⟨by decide, _, rfl, gw_at 815 (by decide +kernel) (by decide +kernel)⟩⟩
theorem lo_96 : LOK ((7, 227, 94, 0) : Nat × Nat × Nat × Int) := ⟨RX7, rfl, Or.inl ⟨(7, yX7_isImage, cX7_isImage, 1, (some .boolean), 1, true), rfl, mo_94, Or.inl (gw_at 821 (by decide +kernel) (by decide +kernel))⟩⟩
theorem lo_97 : LOK ((7, 230, 95, 0) : Nat × Nat × Nat × Int) := ⟨RX7, rfl, Or.inl ⟨(7, yX7_isSheet, cX7_isSheet, 1, (some .boolean), 1, true), rfl, mo_95, Or.inl (gw_at 832 (by decide +kernel) (by decide +kernel))⟩⟩
theorem lo_98 : LOK ((7, 233, 96, 0) : Nat × Nat × Nat × Int) := ⟨RX7, rfl, Or.inl ⟨(7, yX7_isLane, cX7_isLane, 1, (some .boolean), 1, true), rfl, mo_96, Or.inl (gw_at 835 (by decide +kernel) (by decide +kernel))⟩⟩
theorem lo_99 : LOK ((7, 236, 33, 1) : Nat × Nat × Nat × Int) := ⟨RX7, rfl, Or.inl ⟨(3, yX3_renew, cX3_renew, 3, none, 3, false), rfl, mo_33, Or.inr ⟨_, nw_at (w := .methodLinkNest RX7 236 yX3_renew "CellPacks") 838 (by decide +kernel) rfl⟩⟩⟩
theorem lo_100 : LOK ((7, 239, 34, 1) : Nat × Nat × Nat × Int) := ⟨RX7, rfl, Or.inl ⟨(3, yX3_putAt, cX3_putAt, 3, (some .int), 3, false), rfl, mo_34, Or.inr ⟨_, nw_at (w := .methodLinkNest RX7 239 yX3_putAt "CellPacks") 847 (by decide +kernel) rfl⟩⟩⟩
theorem lo_101 : LOK ((7, 242, 35, 1) : Nat × Nat × Nat × Int) := ⟨RX7, rfl, Or.inl ⟨(3, yX3_wholePairs, cX3_wholePairs, 4, (some .int), 4, false), rfl, mo_35, Or.inr ⟨_, nw_at (w := .methodLinkNest RX7 242 yX3_wholePairs "CellPacks") 856 (by decide +kernel) rfl⟩⟩⟩
theorem lo_102 : LOK ((7, 249, 36, 1) : Nat × Nat × Nat × Int) := ⟨RX7, rfl, Or.inl ⟨(3, yX3_faultAs, cX3_faultAs, 2, (some .int), 2, false), rfl, mo_36, Or.inr ⟨_, nw_at (w := .methodLinkNest RX7 249 yX3_faultAs "CellPacks") 861 (by decide +kernel) rfl⟩⟩⟩
theorem lo_103 : LOK ((7, 252, 100, 0) : Nat × Nat × Nat × Int) := ⟨RX7, rfl, Or.inl ⟨(7, yX7_keptImages, cX7_keptImages, 3, (some .int), 1, false), rfl, mo_100, Or.inl (gw_at 873 (by decide +kernel) (by decide +kernel))⟩⟩
theorem lo_104 : LOK ((7, 255, 27, 1) : Nat × Nat × Nat × Int) := ⟨RX7, rfl, Or.inl ⟨(2, yX2_emptyGroups, cX2_emptyGroups, 3, (some .int), 1, false), rfl, mo_27, Or.inr ⟨_, nw_at (w := .methodLinkNest RX7 255 yX2_emptyGroups "CellPacks") 877 (by decide +kernel) rfl⟩⟩⟩
theorem lo_105 : LOK ((7, 262, 28, 1) : Nat × Nat × Nat × Int) := ⟨RX7, rfl, Or.inl ⟨(2, yX2_bledCells, cX2_bledCells, 3, (some .int), 1, false), rfl, mo_28, Or.inr ⟨_, nw_at (w := .methodLinkNest RX7 262 yX2_bledCells "CellPacks") 882 (by decide +kernel) rfl⟩⟩⟩
theorem lo_106 : LOK ((7, 265, 29, 1) : Nat × Nat × Nat × Int) := ⟨RX7, rfl, Or.inl ⟨(2, yX2_greatestCharge, cX2_greatestCharge, 3, (some .int), 1, false), rfl, mo_29, Or.inr ⟨_, nw_at (w := .methodLinkNest RX7 265 yX2_greatestCharge "CellPacks") 886 (by decide +kernel) rfl⟩⟩⟩
theorem lo_107 : LOK ((7, 268, 196, 0) : Nat × Nat × Nat × Int) := ⟨RX7, rfl, Or.inl ⟨(9, yJ7_fill_53178, cJ7_fill_53178, 4, none, 2, true), rfl, mo_196, Or.inl (gw_at 641 (by decide +kernel) (by decide +kernel))⟩⟩
theorem lo_108 : LOK ((7, 274, 1000, 0) : Nat × Nat × Nat × Int) := ⟨RX7, rfl, Or.inr ⟨by decide, _, rfl, gw_at 609 (by decide +kernel) (by decide +kernel)⟩⟩
theorem lo_109 : LOK ((8, 62, 108, 0) : Nat × Nat × Nat × Int) := ⟨RX8, rfl, Or.inl ⟨(8, yX8_firstDraft, cX8_firstDraft, 2, none, 1, false), rfl, mo_108, Or.inl (gw_at 896 (by decide +kernel) (by decide +kernel))⟩⟩
theorem lo_110 : LOK ((8, 67, 106, 0) : Nat × Nat × Nat × Int) := ⟨RX8, rfl, Or.inl ⟨(8, yX8_in, cX8_in, 6, (some .boolean), 3, true), rfl, mo_106, Or.inl (gw_at 984 (by decide +kernel) (by decide +kernel))⟩⟩
theorem lo_111 : LOK ((8, 90, 112, 0) : Nat × Nat × Nat × Int) := ⟨RX8, rfl, Or.inl ⟨(8, yX8_byteAt, cX8_byteAt, 2, (some .int), 2, false), rfl, mo_112, Or.inl (gw_at 999 (by decide +kernel) (by decide +kernel))⟩⟩
theorem lo_112 : LOK ((8, 94, 113, 0) : Nat × Nat × Nat × Int) := ⟨RX8, rfl, Or.inl ⟨(8, yX8_is, cX8_is, 6, (some .boolean), 6, false), rfl, mo_113, Or.inl (gw_at 1019 (by decide +kernel) (by decide +kernel))⟩⟩
theorem lo_113 : LOK ((8, 109, 111, 0) : Nat × Nat × Nat × Int) := ⟨RX8, rfl, Or.inl ⟨(8, yX8_requires, cX8_requires, 3, none, 3, false), rfl, mo_111, Or.inl (gw_at 1007 (by decide +kernel) (by decide +kernel))⟩⟩
theorem lo_114 : LOK ((8, 113, 115, 0) : Nat × Nat × Nat × Int) := ⟨RX8, rfl, Or.inl ⟨(8, yX8_reads, cX8_reads, 2, none, 1, false), rfl, mo_115, Or.inl (gw_at 995 (by decide +kernel) (by decide +kernel))⟩⟩
theorem lo_115 : LOK ((8, 116, 118, 0) : Nat × Nat × Nat × Int) := ⟨RX8, rfl, Or.inl ⟨(8, yX8_readNumber, cX8_readNumber, 4, (some .int), 3, false), rfl, mo_118, Or.inl (gw_at 1027 (by decide +kernel) (by decide +kernel))⟩⟩
theorem lo_116 : LOK ((8, 120, 114, 0) : Nat × Nat × Nat × Int) := ⟨RX8, rfl, Or.inl ⟨(8, yX8_lineNow, cX8_lineNow, 1, (some .int), 1, false), rfl, mo_114, Or.inl (gw_at 1015 (by decide +kernel) (by decide +kernel))⟩⟩
theorem lo_117 : LOK ((8, 124, 119, 0) : Nat × Nat × Nat × Int) := ⟨RX8, rfl, Or.inl ⟨(8, yX8_readCell, cX8_readCell, 2, none, 1, false), rfl, mo_119, Or.inl (gw_at 1023 (by decide +kernel) (by decide +kernel))⟩⟩
theorem lo_118 : LOK ((8, 127, 116, 0) : Nat × Nat × Nat × Int) := ⟨RX8, rfl, Or.inl ⟨(8, yX8_leastOf, cX8_leastOf, 1, (some .int), 1, true), rfl, mo_116, Or.inl (gw_at 1031 (by decide +kernel) (by decide +kernel))⟩⟩
theorem lo_119 : LOK ((8, 130, 117, 0) : Nat × Nat × Nat × Int) := ⟨RX8, rfl, Or.inl ⟨(8, yX8_mostOf, cX8_mostOf, 1, (some .int), 1, true), rfl, mo_117, Or.inl (gw_at 1034 (by decide +kernel) (by decide +kernel))⟩⟩
theorem lo_120 : LOK ((8, 133, 120, 0) : Nat × Nat × Nat × Int) := ⟨RX8, rfl, Or.inl ⟨(8, yX8_readLine, cX8_readLine, 2, none, 1, false), rfl, mo_120, Or.inl (gw_at 1011 (by decide +kernel) (by decide +kernel))⟩⟩
theorem lo_121 : LOK ((8, 136, 155, 0) : Nat × Nat × Nat × Int) := ⟨RX8, rfl, Or.inl ⟨(8, yX8_byTurns, cX8_byTurns, 1, none, 1, false), rfl, mo_155, Or.inl (gw_at 1037 (by decide +kernel) (by decide +kernel))⟩⟩
theorem lo_122 : LOK ((8, 139, 127, 0) : Nat × Nat × Nat × Int) := ⟨RX8, rfl, Or.inl ⟨(8, yX8_weakest, cX8_weakest, 3, (some .int), 1, false), rfl, mo_127, Or.inl (gw_at 1065 (by decide +kernel) (by decide +kernel))⟩⟩
theorem lo_123 : LOK ((8, 142, 125, 0) : Nat × Nat × Nat × Int) := ⟨RX8, rfl, Or.inl ⟨(8, yX8_sumNow, cX8_sumNow, 3, none, 2, false), rfl, mo_125, Or.inl (gw_at 1061 (by decide +kernel) (by decide +kernel))⟩⟩
theorem lo_124 : LOK ((8, 146, 129, 0) : Nat × Nat × Nat × Int) := ⟨RX8, rfl, Or.inl ⟨(8, yX8_greatest, cX8_greatest, 3, (some .int), 1, false), rfl, mo_129, Or.inl (gw_at 1081 (by decide +kernel) (by decide +kernel))⟩⟩
theorem lo_125 : LOK ((8, 149, 128, 0) : Nat × Nat × Nat × Int) := ⟨RX8, rfl, Or.inl ⟨(8, yX8_least, cX8_least, 1, (some .int), 1, false), rfl, mo_128, Or.inl (gw_at 1073 (by decide +kernel) (by decide +kernel))⟩⟩
theorem lo_126 : LOK ((8, 152, 132, 0) : Nat × Nat × Nat × Int) := ⟨RX8, rfl, Or.inl ⟨(8, yX8_weakestNow, cX8_weakestNow, 1, (some .int), 1, false), rfl, mo_132, Or.inl (gw_at 1057 (by decide +kernel) (by decide +kernel))⟩⟩
theorem lo_127 : LOK ((8, 155, 133, 0) : Nat × Nat × Nat × Int) := ⟨RX8, rfl, Or.inl ⟨(8, yX8_leastNow, cX8_leastNow, 2, (some .int), 2, false), rfl, mo_133, Or.inl (gw_at 1069 (by decide +kernel) (by decide +kernel))⟩⟩
theorem lo_128 : LOK ((8, 158, 130, 0) : Nat × Nat × Nat × Int) := ⟨RX8, rfl, Or.inl ⟨(8, yX8_spreadNow, cX8_spreadNow, 1, (some .int), 1, false), rfl, mo_130, Or.inl (gw_at 1077 (by decide +kernel) (by decide +kernel))⟩⟩
theorem lo_129 : LOK ((8, 161, 131, 0) : Nat × Nat × Nat × Int) := ⟨RX8, rfl, Or.inl ⟨(8, yX8_all, cX8_all, 4, (some .int), 2, false), rfl, mo_131, Or.inl (gw_at 1085 (by decide +kernel) (by decide +kernel))⟩⟩
theorem lo_130 : LOK ((8, 164, 107, 0) : Nat × Nat × Nat × Int) := ⟨RX8, rfl, Or.inl ⟨(8, yX8_flag, cX8_flag, 1, (some .int), 1, true), rfl, mo_107, Or.inl (gw_at 1101 (by decide +kernel) (by decide +kernel))⟩⟩
theorem lo_131 : LOK ((8, 168, 123, 0) : Nat × Nat × Nat × Int) := ⟨RX8, rfl, Or.inl ⟨(8, yX8_isCell, cX8_isCell, 2, (some .boolean), 2, false), rfl, mo_123, Or.inl (gw_at 1093 (by decide +kernel) (by decide +kernel))⟩⟩
theorem lo_132 : LOK ((8, 172, 135, 0) : Nat × Nat × Nat × Int) := ⟨RX8, rfl, Or.inl ⟨(8, yX8_rankOf, cX8_rankOf, 4, (some .int), 2, false), rfl, mo_135, Or.inl (gw_at 1097 (by decide +kernel) (by decide +kernel))⟩⟩
theorem lo_133 : LOK ((8, 175, 124, 0) : Nat × Nat × Nat × Int) := ⟨RX8, rfl, Or.inl ⟨(8, yX8_isGroup, cX8_isGroup, 2, (some .boolean), 2, false), rfl, mo_124, Or.inl (gw_at 1108 (by decide +kernel) (by decide +kernel))⟩⟩
theorem lo_134 : LOK ((8, 178, 140, 0) : Nat × Nat × Nat × Int) := ⟨RX8, rfl, Or.inl ⟨(8, yX8_sumOf, cX8_sumOf, 2, (some .int), 2, false), rfl, mo_140, Or.inl (gw_at 1112 (by decide +kernel) (by decide +kernel))⟩⟩
theorem lo_135 : LOK ((8, 181, 138, 0) : Nat × Nat × Nat × Int) := ⟨RX8, rfl, Or.inl ⟨(8, yX8_cellsOf, cX8_cellsOf, 5, (some .int), 3, false), rfl, mo_138, Or.inl (gw_at 1116 (by decide +kernel) (by decide +kernel))⟩⟩
theorem lo_136 : LOK ((8, 185, 137, 0) : Nat × Nat × Nat × Int) := ⟨RX8, rfl, Or.inl ⟨(8, yX8_strongest, cX8_strongest, 4, (some .int), 2, false), rfl, mo_137, Or.inl (gw_at 1120 (by decide +kernel) (by decide +kernel))⟩⟩
theorem lo_137 : LOK ((8, 188, 139, 0) : Nat × Nat × Nat × Int) := ⟨RX8, rfl, Or.inl ⟨(8, yX8_aboveFloor, cX8_aboveFloor, 4, (some .int), 2, false), rfl, mo_139, Or.inl (gw_at 1124 (by decide +kernel) (by decide +kernel))⟩⟩
theorem lo_138 : LOK ((8, 191, 144, 0) : Nat × Nat × Nat × Int) := ⟨RX8, rfl, Or.inl ⟨(8, yX8_holds, cX8_holds, 4, (some .int), 2, false), rfl, mo_144, Or.inl (gw_at 1161 (by decide +kernel) (by decide +kernel))⟩⟩
theorem lo_139 : LOK ((8, 194, 146, 0) : Nat × Nat × Nat × Int) := ⟨RX8, rfl, Or.inl ⟨(8, yX8_differenceOf, cX8_differenceOf, 2, (some .int), 2, false), rfl, mo_146, Or.inl (gw_at 1157 (by decide +kernel) (by decide +kernel))⟩⟩
theorem lo_140 : LOK ((8, 197, 145, 0) : Nat × Nat × Nat × Int) := ⟨RX8, rfl, Or.inl ⟨(8, yX8_isAhead, cX8_isAhead, 5, (some .boolean), 3, false), rfl, mo_145, Or.inl (gw_at 1173 (by decide +kernel) (by decide +kernel))⟩⟩
theorem lo_141 : LOK ((8, 201, 148, 0) : Nat × Nat × Nat × Int) := ⟨RX8, rfl, Or.inl ⟨(8, yX8_order, cX8_order, 6, none, 2, false), rfl, mo_148, Or.inl (gw_at 1169 (by decide +kernel) (by decide +kernel))⟩⟩
theorem lo_142 : LOK ((8, 207, 147, 0) : Nat × Nat × Nat × Int) := ⟨RX8, rfl, Or.inl ⟨(8, yX8_widest, cX8_widest, 4, (some .int), 2, false), rfl, mo_147, Or.inl (gw_at 1153 (by decide +kernel) (by decide +kernel))⟩⟩
theorem lo_143 : LOK ((8, 210, 149, 0) : Nat × Nat × Nat × Int) := ⟨RX8, rfl, Or.inl ⟨(8, yX8_join, cX8_join, 6, none, 3, false), rfl, mo_149, Or.inl (gw_at 1165 (by decide +kernel) (by decide +kernel))⟩⟩
theorem lo_144 : LOK ((8, 214, 126, 0) : Nat × Nat × Nat × Int) := ⟨RX8, rfl, Or.inl ⟨(8, yX8_sumFound, cX8_sumFound, 2, none, 1, false), rfl, mo_126, Or.inl (gw_at 1181 (by decide +kernel) (by decide +kernel))⟩⟩
theorem lo_145 : LOK ((8, 217, 151, 0) : Nat × Nat × Nat × Int) := ⟨RX8, rfl, Or.inl ⟨(8, yX8_steps, cX8_steps, 4, (some .boolean), 1, false), rfl, mo_151, Or.inl (gw_at 1185 (by decide +kernel) (by decide +kernel))⟩⟩
theorem lo_146 : LOK ((8, 221, 142, 0) : Nat × Nat × Nat × Int) := ⟨RX8, rfl, Or.inl ⟨(8, yX8_findTurns, cX8_findTurns, 2, none, 1, false), rfl, mo_142, Or.inl (gw_at 1041 (by decide +kernel) (by decide +kernel))⟩⟩
theorem lo_147 : LOK ((8, 224, 143, 0) : Nat × Nat × Nat × Int) := ⟨RX8, rfl, Or.inl ⟨(8, yX8_findWeakest, cX8_findWeakest, 4, none, 1, false), rfl, mo_143, Or.inl (gw_at 1145 (by decide +kernel) (by decide +kernel))⟩⟩
theorem lo_148 : LOK ((8, 227, 150, 0) : Nat × Nat × Nat × Int) := ⟨RX8, rfl, Or.inl ⟨(8, yX8_findDifferences, cX8_findDifferences, 4, none, 1, false), rfl, mo_150, Or.inl (gw_at 1149 (by decide +kernel) (by decide +kernel))⟩⟩
theorem lo_149 : LOK ((8, 230, 152, 0) : Nat × Nat × Nat × Int) := ⟨RX8, rfl, Or.inl ⟨(8, yX8_findBest, cX8_findBest, 5, none, 1, false), rfl, mo_152, Or.inl (gw_at 1177 (by decide +kernel) (by decide +kernel))⟩⟩
theorem lo_150 : LOK ((8, 233, 154, 0) : Nat × Nat × Nat × Int) := ⟨RX8, rfl, Or.inl ⟨(8, yX8_takeFound, cX8_takeFound, 2, none, 1, false), rfl, mo_154, Or.inl (gw_at 1045 (by decide +kernel) (by decide +kernel))⟩⟩
theorem lo_151 : LOK ((8, 238, 156, 0) : Nat × Nat × Nat × Int) := ⟨RX8, rfl, Or.inl ⟨(8, yX8_isWay, cX8_isWay, 2, (some .boolean), 2, false), rfl, mo_156, Or.inl (gw_at 1132 (by decide +kernel) (by decide +kernel))⟩⟩
theorem lo_152 : LOK ((8, 241, 157, 0) : Nat × Nat × Nat × Int) := ⟨RX8, rfl, Or.inl ⟨(8, yX8_isTooMuch, cX8_isTooMuch, 2, (some .boolean), 2, false), rfl, mo_157, Or.inl (gw_at 1137 (by decide +kernel) (by decide +kernel))⟩⟩
theorem lo_153 : LOK ((8, 244, 153, 0) : Nat × Nat × Nat × Int) := ⟨RX8, rfl, Or.inl ⟨(8, yX8_find, cX8_find, 2, none, 2, false), rfl, mo_153, Or.inl (gw_at 1141 (by decide +kernel) (by decide +kernel))⟩⟩
theorem lo_154 : LOK ((8, 249, 159, 0) : Nat × Nat × Nat × Int) := ⟨RX8, rfl, Or.inl ⟨(8, yX8_moved, cX8_moved, 3, (some .int), 1, false), rfl, mo_159, Or.inl (gw_at 1194 (by decide +kernel) (by decide +kernel))⟩⟩
theorem lo_155 : LOK ((8, 252, 162, 0) : Nat × Nat × Nat × Int) := ⟨RX8, rfl, Or.inl ⟨(8, yX8_boundNow, cX8_boundNow, 1, (some .int), 1, false), rfl, mo_162, Or.inl (gw_at 1206 (by decide +kernel) (by decide +kernel))⟩⟩
theorem lo_156 : LOK ((8, 255, 163, 0) : Nat × Nat × Nat × Int) := ⟨RX8, rfl, Or.inl ⟨(8, yX8_reaching, cX8_reaching, 3, (some .int), 1, false), rfl, mo_163, Or.inl (gw_at 1210 (by decide +kernel) (by decide +kernel))⟩⟩
theorem lo_157 : LOK ((8, 258, 167, 0) : Nat × Nat × Nat × Int) := ⟨RX8, rfl, Or.inl ⟨(8, yX8_exchange, cX8_exchange, 4, none, 3, false), rfl, mo_167, Or.inl (gw_at 1226 (by decide +kernel) (by decide +kernel))⟩⟩
theorem lo_158 : LOK ((8, 263, 170, 0) : Nat × Nat × Nat × Int) := ⟨RX8, rfl, Or.inl ⟨(8, yX8_comes, cX8_comes, 4, none, 2, false), rfl, mo_170, Or.inl (gw_at 1239 (by decide +kernel) (by decide +kernel))⟩⟩
theorem lo_159 : LOK ((8, 268, 176, 0) : Nat × Nat × Nat × Int) := ⟨RX8, rfl, Or.inl ⟨(8, yX8_ticks, cX8_ticks, 6, (some .boolean), 1, false), rfl, mo_176, Or.inl (gw_at 1269 (by decide +kernel) (by decide +kernel))⟩⟩
theorem lo_160 : LOK ((8, 273, 177, 0) : Nat × Nat × Nat × Int) := ⟨RX8, rfl, Or.inl ⟨(8, yX8_ticksOn, cX8_ticksOn, 3, (some .int), 2, false), rfl, mo_177, Or.inl (gw_at 1265 (by decide +kernel) (by decide +kernel))⟩⟩
theorem lo_161 : LOK ((8, 276, 182, 0) : Nat × Nat × Nat × Int) := ⟨RX8, rfl, Or.inl ⟨(8, yX8_keepBefore, cX8_keepBefore, 2, none, 1, false), rfl, mo_182, Or.inl (gw_at 1277 (by decide +kernel) (by decide +kernel))⟩⟩
theorem lo_162 : LOK ((8, 279, 183, 0) : Nat × Nat × Nat × Int) := ⟨RX8, rfl, Or.inl ⟨(8, yX8_backBefore, cX8_backBefore, 2, none, 1, false), rfl, mo_183, Or.inl (gw_at 1281 (by decide +kernel) (by decide +kernel))⟩⟩
theorem lo_163 : LOK ((8, 285, 186, 0) : Nat × Nat × Nat × Int) := ⟨RX8, rfl, Or.inl ⟨(8, yX8_isSheet, cX8_isSheet, 2, (some .boolean), 2, true), rfl, mo_186, Or.inl (gw_at 1307 (by decide +kernel) (by decide +kernel))⟩⟩
theorem lo_164 : LOK ((8, 290, 166, 0) : Nat × Nat × Nat × Int) := ⟨RX8, rfl, Or.inl ⟨(8, yX8_move, cX8_move, 4, (some .int), 3, false), rfl, mo_166, Or.inl (gw_at 1319 (by decide +kernel) (by decide +kernel))⟩⟩
theorem lo_165 : LOK ((8, 296, 191, 0) : Nat × Nat × Nat × Int) := ⟨RX8, rfl, Or.inl ⟨(8, yX8_emptyGroups, cX8_emptyGroups, 3, (some .int), 1, false), rfl, mo_191, Or.inl (gw_at 1328 (by decide +kernel) (by decide +kernel))⟩⟩
theorem lo_166 : LOK ((8, 299, 192, 0) : Nat × Nat × Nat × Int) := ⟨RX8, rfl, Or.inl ⟨(8, yX8_bledCells, cX8_bledCells, 3, (some .int), 1, false), rfl, mo_192, Or.inl (gw_at 1332 (by decide +kernel) (by decide +kernel))⟩⟩
theorem lo_167 : LOK ((8, 302, 193, 0) : Nat × Nat × Nat × Int) := ⟨RX8, rfl, Or.inl ⟨(8, yX8_greatestCharge, cX8_greatestCharge, 3, (some .int), 1, false), rfl, mo_193, Or.inl (gw_at 1336 (by decide +kernel) (by decide +kernel))⟩⟩
theorem ml_c_0 : ∀ e ∈ [((0, 33, 196, 0) : Nat × Nat × Nat × Int), ((0, 42, 101, 1) : Nat × Nat × Nat × Int), ((0, 46, 1, 0) : Nat × Nat × Nat × Int), ((0, 50, 1002, 0) : Nat × Nat × Nat × Int), ((0, 56, 3, 0) : Nat × Nat × Nat × Int), ((0, 63, 2, 0) : Nat × Nat × Nat × Int), ((0, 67, 1001, 0) : Nat × Nat × Nat × Int), ((0, 73, 1000, 0) : Nat × Nat × Nat × Int), ((0, 76, 103, 1) : Nat × Nat × Nat × Int), ((0, 79, 104, 1) : Nat × Nat × Nat × Int), ((1, 37, 5, 0) : Nat × Nat × Nat × Int), ((1, 41, 6, 0) : Nat × Nat × Nat × Int), ((1, 44, 12, 0) : Nat × Nat × Nat × Int), ((1, 52, 196, 0) : Nat × Nat × Nat × Int), ((1, 61, 7, 0) : Nat × Nat × Nat × Int), ((1, 64, 1001, 0) : Nat × Nat × Nat × Int), ((1, 70, 1000, 0) : Nat × Nat × Nat × Int), ((1, 73, 9, 0) : Nat × Nat × Nat × Int), ((1, 77, 8, 0) : Nat × Nat × Nat × Int), ((1, 80, 10, 0) : Nat × Nat × Nat × Int), ((1, 84, 11, 0) : Nat × Nat × Nat × Int), ((2, 43, 1002, 0) : Nat × Nat × Nat × Int), ((2, 49, 102, 1) : Nat × Nat × Nat × Int), ((2, 53, 103, 1) : Nat × Nat × Nat × Int), ((2, 57, 18, 0) : Nat × Nat × Nat × Int)], LOK e := List.forall_mem_cons.mpr ⟨lo_0, List.forall_mem_cons.mpr ⟨lo_1, List.forall_mem_cons.mpr ⟨lo_2, List.forall_mem_cons.mpr ⟨lo_3, List.forall_mem_cons.mpr ⟨lo_4, List.forall_mem_cons.mpr ⟨lo_5, List.forall_mem_cons.mpr ⟨lo_6, List.forall_mem_cons.mpr ⟨lo_7, List.forall_mem_cons.mpr ⟨lo_8, List.forall_mem_cons.mpr ⟨lo_9, List.forall_mem_cons.mpr ⟨lo_10, List.forall_mem_cons.mpr ⟨lo_11, List.forall_mem_cons.mpr ⟨lo_12, List.forall_mem_cons.mpr ⟨lo_13, List.forall_mem_cons.mpr ⟨lo_14, List.forall_mem_cons.mpr ⟨lo_15, List.forall_mem_cons.mpr ⟨lo_16, List.forall_mem_cons.mpr ⟨lo_17, List.forall_mem_cons.mpr ⟨lo_18, List.forall_mem_cons.mpr ⟨lo_19, List.forall_mem_cons.mpr ⟨lo_20, List.forall_mem_cons.mpr ⟨lo_21, List.forall_mem_cons.mpr ⟨lo_22, List.forall_mem_cons.mpr ⟨lo_23, List.forall_mem_cons.mpr ⟨lo_24, List.forall_mem_nil _⟩⟩⟩⟩⟩⟩⟩⟩⟩⟩⟩⟩⟩⟩⟩⟩⟩⟩⟩⟩⟩⟩⟩⟩⟩
theorem ml_c_1 : ∀ e ∈ [((2, 61, 19, 0) : Nat × Nat × Nat × Int), ((2, 64, 104, 1) : Nat × Nat × Nat × Int), ((2, 67, 1000, 0) : Nat × Nat × Nat × Int), ((2, 73, 24, 0) : Nat × Nat × Nat × Int), ((2, 77, 31, 0) : Nat × Nat × Nat × Int), ((2, 81, 32, 0) : Nat × Nat × Nat × Int), ((2, 85, 25, 0) : Nat × Nat × Nat × Int), ((3, 22, 196, 0) : Nat × Nat × Nat × Int), ((3, 28, 89, 1) : Nat × Nat × Nat × Int), ((3, 32, 1001, 0) : Nat × Nat × Nat × Int), ((4, 17, 1003, 0) : Nat × Nat × Nat × Int), ((4, 22, 37, 0) : Nat × Nat × Nat × Int), ((4, 26, 1004, 0) : Nat × Nat × Nat × Int), ((5, 41, 13, 1) : Nat × Nat × Nat × Int), ((5, 48, 40, 0) : Nat × Nat × Nat × Int), ((5, 52, 48, 0) : Nat × Nat × Nat × Int), ((5, 55, 41, 0) : Nat × Nat × Nat × Int), ((5, 59, 51, 0) : Nat × Nat × Nat × Int), ((5, 63, 47, 0) : Nat × Nat × Nat × Int), ((5, 66, 43, 0) : Nat × Nat × Nat × Int), ((5, 69, 42, 0) : Nat × Nat × Nat × Int), ((5, 73, 38, 1) : Nat × Nat × Nat × Int), ((5, 87, 44, 0) : Nat × Nat × Nat × Int), ((5, 91, 45, 0) : Nat × Nat × Nat × Int), ((5, 94, 89, 1) : Nat × Nat × Nat × Int)], LOK e := List.forall_mem_cons.mpr ⟨lo_25, List.forall_mem_cons.mpr ⟨lo_26, List.forall_mem_cons.mpr ⟨lo_27, List.forall_mem_cons.mpr ⟨lo_28, List.forall_mem_cons.mpr ⟨lo_29, List.forall_mem_cons.mpr ⟨lo_30, List.forall_mem_cons.mpr ⟨lo_31, List.forall_mem_cons.mpr ⟨lo_32, List.forall_mem_cons.mpr ⟨lo_33, List.forall_mem_cons.mpr ⟨lo_34, List.forall_mem_cons.mpr ⟨lo_35, List.forall_mem_cons.mpr ⟨lo_36, List.forall_mem_cons.mpr ⟨lo_37, List.forall_mem_cons.mpr ⟨lo_38, List.forall_mem_cons.mpr ⟨lo_39, List.forall_mem_cons.mpr ⟨lo_40, List.forall_mem_cons.mpr ⟨lo_41, List.forall_mem_cons.mpr ⟨lo_42, List.forall_mem_cons.mpr ⟨lo_43, List.forall_mem_cons.mpr ⟨lo_44, List.forall_mem_cons.mpr ⟨lo_45, List.forall_mem_cons.mpr ⟨lo_46, List.forall_mem_cons.mpr ⟨lo_47, List.forall_mem_cons.mpr ⟨lo_48, List.forall_mem_cons.mpr ⟨lo_49, List.forall_mem_nil _⟩⟩⟩⟩⟩⟩⟩⟩⟩⟩⟩⟩⟩⟩⟩⟩⟩⟩⟩⟩⟩⟩⟩⟩⟩
theorem ml_c_2 : ∀ e ∈ [((5, 98, 46, 0) : Nat × Nat × Nat × Int), ((5, 114, 15, 1) : Nat × Nat × Nat × Int), ((5, 121, 37, 1) : Nat × Nat × Nat × Int), ((5, 124, 49, 0) : Nat × Nat × Nat × Int), ((5, 127, 50, 0) : Nat × Nat × Nat × Int), ((6, 35, 54, 0) : Nat × Nat × Nat × Int), ((6, 39, 4, 1) : Nat × Nat × Nat × Int), ((6, 43, 0, 1) : Nat × Nat × Nat × Int), ((6, 44, 53, 0) : Nat × Nat × Nat × Int), ((6, 56, 23, 1) : Nat × Nat × Nat × Int), ((6, 60, 196, 0) : Nat × Nat × Nat × Int), ((6, 66, 103, 1) : Nat × Nat × Nat × Int), ((6, 73, 102, 1) : Nat × Nat × Nat × Int), ((6, 77, 55, 0) : Nat × Nat × Nat × Int), ((6, 81, 104, 1) : Nat × Nat × Nat × Int), ((7, 64, 89, 0) : Nat × Nat × Nat × Int), ((7, 75, 39, 1) : Nat × Nat × Nat × Int), ((7, 84, 14, 1) : Nat × Nat × Nat × Int), ((7, 88, 97, 0) : Nat × Nat × Nat × Int), ((7, 92, 99, 0) : Nat × Nat × Nat × Int), ((7, 110, 18, 1) : Nat × Nat × Nat × Int), ((7, 114, 19, 1) : Nat × Nat × Nat × Int), ((7, 117, 21, 1) : Nat × Nat × Nat × Int), ((7, 124, 101, 0) : Nat × Nat × Nat × Int), ((7, 131, 90, 0) : Nat × Nat × Nat × Int)], LOK e := List.forall_mem_cons.mpr ⟨lo_50, List.forall_mem_cons.mpr ⟨lo_51, List.forall_mem_cons.mpr ⟨lo_52, List.forall_mem_cons.mpr ⟨lo_53, List.forall_mem_cons.mpr ⟨lo_54, List.forall_mem_cons.mpr ⟨lo_55, List.forall_mem_cons.mpr ⟨lo_56, List.forall_mem_cons.mpr ⟨lo_57, List.forall_mem_cons.mpr ⟨lo_58, List.forall_mem_cons.mpr ⟨lo_59, List.forall_mem_cons.mpr ⟨lo_60, List.forall_mem_cons.mpr ⟨lo_61, List.forall_mem_cons.mpr ⟨lo_62, List.forall_mem_cons.mpr ⟨lo_63, List.forall_mem_cons.mpr ⟨lo_64, List.forall_mem_cons.mpr ⟨lo_65, List.forall_mem_cons.mpr ⟨lo_66, List.forall_mem_cons.mpr ⟨lo_67, List.forall_mem_cons.mpr ⟨lo_68, List.forall_mem_cons.mpr ⟨lo_69, List.forall_mem_cons.mpr ⟨lo_70, List.forall_mem_cons.mpr ⟨lo_71, List.forall_mem_cons.mpr ⟨lo_72, List.forall_mem_cons.mpr ⟨lo_73, List.forall_mem_cons.mpr ⟨lo_74, List.forall_mem_nil _⟩⟩⟩⟩⟩⟩⟩⟩⟩⟩⟩⟩⟩⟩⟩⟩⟩⟩⟩⟩⟩⟩⟩⟩⟩
theorem ml_c_3 : ∀ e ∈ [((7, 138, 23, 1) : Nat × Nat × Nat × Int), ((7, 142, 91, 0) : Nat × Nat × Nat × Int), ((7, 145, 17, 1) : Nat × Nat × Nat × Int), ((7, 148, 24, 1) : Nat × Nat × Nat × Int), ((7, 151, 195, 0) : Nat × Nat × Nat × Int), ((7, 156, 25, 1) : Nat × Nat × Nat × Int), ((7, 159, 26, 1) : Nat × Nat × Nat × Int), ((7, 162, 92, 0) : Nat × Nat × Nat × Int), ((7, 165, 93, 0) : Nat × Nat × Nat × Int), ((7, 168, 52, 1) : Nat × Nat × Nat × Int), ((7, 172, 55, 1) : Nat × Nat × Nat × Int), ((7, 175, 56, 1) : Nat × Nat × Nat × Int), ((7, 177, 57, 1) : Nat × Nat × Nat × Int), ((7, 183, 20, 1) : Nat × Nat × Nat × Int), ((7, 186, 98, 0) : Nat × Nat × Nat × Int), ((7, 201, 22, 1) : Nat × Nat × Nat × Int), ((7, 205, 15, 1) : Nat × Nat × Nat × Int), ((7, 209, 16, 1) : Nat × Nat × Nat × Int), ((7, 212, 30, 1) : Nat × Nat × Nat × Int), ((7, 215, 1002, 0) : Nat × Nat × Nat × Int), ((7, 221, 1001, 0) : Nat × Nat × Nat × Int), ((7, 227, 94, 0) : Nat × Nat × Nat × Int), ((7, 230, 95, 0) : Nat × Nat × Nat × Int), ((7, 233, 96, 0) : Nat × Nat × Nat × Int), ((7, 236, 33, 1) : Nat × Nat × Nat × Int)], LOK e := List.forall_mem_cons.mpr ⟨lo_75, List.forall_mem_cons.mpr ⟨lo_76, List.forall_mem_cons.mpr ⟨lo_77, List.forall_mem_cons.mpr ⟨lo_78, List.forall_mem_cons.mpr ⟨lo_79, List.forall_mem_cons.mpr ⟨lo_80, List.forall_mem_cons.mpr ⟨lo_81, List.forall_mem_cons.mpr ⟨lo_82, List.forall_mem_cons.mpr ⟨lo_83, List.forall_mem_cons.mpr ⟨lo_84, List.forall_mem_cons.mpr ⟨lo_85, List.forall_mem_cons.mpr ⟨lo_86, List.forall_mem_cons.mpr ⟨lo_87, List.forall_mem_cons.mpr ⟨lo_88, List.forall_mem_cons.mpr ⟨lo_89, List.forall_mem_cons.mpr ⟨lo_90, List.forall_mem_cons.mpr ⟨lo_91, List.forall_mem_cons.mpr ⟨lo_92, List.forall_mem_cons.mpr ⟨lo_93, List.forall_mem_cons.mpr ⟨lo_94, List.forall_mem_cons.mpr ⟨lo_95, List.forall_mem_cons.mpr ⟨lo_96, List.forall_mem_cons.mpr ⟨lo_97, List.forall_mem_cons.mpr ⟨lo_98, List.forall_mem_cons.mpr ⟨lo_99, List.forall_mem_nil _⟩⟩⟩⟩⟩⟩⟩⟩⟩⟩⟩⟩⟩⟩⟩⟩⟩⟩⟩⟩⟩⟩⟩⟩⟩
theorem ml_c_4 : ∀ e ∈ [((7, 239, 34, 1) : Nat × Nat × Nat × Int), ((7, 242, 35, 1) : Nat × Nat × Nat × Int), ((7, 249, 36, 1) : Nat × Nat × Nat × Int), ((7, 252, 100, 0) : Nat × Nat × Nat × Int), ((7, 255, 27, 1) : Nat × Nat × Nat × Int), ((7, 262, 28, 1) : Nat × Nat × Nat × Int), ((7, 265, 29, 1) : Nat × Nat × Nat × Int), ((7, 268, 196, 0) : Nat × Nat × Nat × Int), ((7, 274, 1000, 0) : Nat × Nat × Nat × Int), ((8, 62, 108, 0) : Nat × Nat × Nat × Int), ((8, 67, 106, 0) : Nat × Nat × Nat × Int), ((8, 90, 112, 0) : Nat × Nat × Nat × Int), ((8, 94, 113, 0) : Nat × Nat × Nat × Int), ((8, 109, 111, 0) : Nat × Nat × Nat × Int), ((8, 113, 115, 0) : Nat × Nat × Nat × Int), ((8, 116, 118, 0) : Nat × Nat × Nat × Int), ((8, 120, 114, 0) : Nat × Nat × Nat × Int), ((8, 124, 119, 0) : Nat × Nat × Nat × Int), ((8, 127, 116, 0) : Nat × Nat × Nat × Int), ((8, 130, 117, 0) : Nat × Nat × Nat × Int), ((8, 133, 120, 0) : Nat × Nat × Nat × Int), ((8, 136, 155, 0) : Nat × Nat × Nat × Int), ((8, 139, 127, 0) : Nat × Nat × Nat × Int), ((8, 142, 125, 0) : Nat × Nat × Nat × Int), ((8, 146, 129, 0) : Nat × Nat × Nat × Int)], LOK e := List.forall_mem_cons.mpr ⟨lo_100, List.forall_mem_cons.mpr ⟨lo_101, List.forall_mem_cons.mpr ⟨lo_102, List.forall_mem_cons.mpr ⟨lo_103, List.forall_mem_cons.mpr ⟨lo_104, List.forall_mem_cons.mpr ⟨lo_105, List.forall_mem_cons.mpr ⟨lo_106, List.forall_mem_cons.mpr ⟨lo_107, List.forall_mem_cons.mpr ⟨lo_108, List.forall_mem_cons.mpr ⟨lo_109, List.forall_mem_cons.mpr ⟨lo_110, List.forall_mem_cons.mpr ⟨lo_111, List.forall_mem_cons.mpr ⟨lo_112, List.forall_mem_cons.mpr ⟨lo_113, List.forall_mem_cons.mpr ⟨lo_114, List.forall_mem_cons.mpr ⟨lo_115, List.forall_mem_cons.mpr ⟨lo_116, List.forall_mem_cons.mpr ⟨lo_117, List.forall_mem_cons.mpr ⟨lo_118, List.forall_mem_cons.mpr ⟨lo_119, List.forall_mem_cons.mpr ⟨lo_120, List.forall_mem_cons.mpr ⟨lo_121, List.forall_mem_cons.mpr ⟨lo_122, List.forall_mem_cons.mpr ⟨lo_123, List.forall_mem_cons.mpr ⟨lo_124, List.forall_mem_nil _⟩⟩⟩⟩⟩⟩⟩⟩⟩⟩⟩⟩⟩⟩⟩⟩⟩⟩⟩⟩⟩⟩⟩⟩⟩
theorem ml_c_5 : ∀ e ∈ [((8, 149, 128, 0) : Nat × Nat × Nat × Int), ((8, 152, 132, 0) : Nat × Nat × Nat × Int), ((8, 155, 133, 0) : Nat × Nat × Nat × Int), ((8, 158, 130, 0) : Nat × Nat × Nat × Int), ((8, 161, 131, 0) : Nat × Nat × Nat × Int), ((8, 164, 107, 0) : Nat × Nat × Nat × Int), ((8, 168, 123, 0) : Nat × Nat × Nat × Int), ((8, 172, 135, 0) : Nat × Nat × Nat × Int), ((8, 175, 124, 0) : Nat × Nat × Nat × Int), ((8, 178, 140, 0) : Nat × Nat × Nat × Int), ((8, 181, 138, 0) : Nat × Nat × Nat × Int), ((8, 185, 137, 0) : Nat × Nat × Nat × Int), ((8, 188, 139, 0) : Nat × Nat × Nat × Int), ((8, 191, 144, 0) : Nat × Nat × Nat × Int), ((8, 194, 146, 0) : Nat × Nat × Nat × Int), ((8, 197, 145, 0) : Nat × Nat × Nat × Int), ((8, 201, 148, 0) : Nat × Nat × Nat × Int), ((8, 207, 147, 0) : Nat × Nat × Nat × Int), ((8, 210, 149, 0) : Nat × Nat × Nat × Int), ((8, 214, 126, 0) : Nat × Nat × Nat × Int), ((8, 217, 151, 0) : Nat × Nat × Nat × Int), ((8, 221, 142, 0) : Nat × Nat × Nat × Int), ((8, 224, 143, 0) : Nat × Nat × Nat × Int), ((8, 227, 150, 0) : Nat × Nat × Nat × Int), ((8, 230, 152, 0) : Nat × Nat × Nat × Int)], LOK e := List.forall_mem_cons.mpr ⟨lo_125, List.forall_mem_cons.mpr ⟨lo_126, List.forall_mem_cons.mpr ⟨lo_127, List.forall_mem_cons.mpr ⟨lo_128, List.forall_mem_cons.mpr ⟨lo_129, List.forall_mem_cons.mpr ⟨lo_130, List.forall_mem_cons.mpr ⟨lo_131, List.forall_mem_cons.mpr ⟨lo_132, List.forall_mem_cons.mpr ⟨lo_133, List.forall_mem_cons.mpr ⟨lo_134, List.forall_mem_cons.mpr ⟨lo_135, List.forall_mem_cons.mpr ⟨lo_136, List.forall_mem_cons.mpr ⟨lo_137, List.forall_mem_cons.mpr ⟨lo_138, List.forall_mem_cons.mpr ⟨lo_139, List.forall_mem_cons.mpr ⟨lo_140, List.forall_mem_cons.mpr ⟨lo_141, List.forall_mem_cons.mpr ⟨lo_142, List.forall_mem_cons.mpr ⟨lo_143, List.forall_mem_cons.mpr ⟨lo_144, List.forall_mem_cons.mpr ⟨lo_145, List.forall_mem_cons.mpr ⟨lo_146, List.forall_mem_cons.mpr ⟨lo_147, List.forall_mem_cons.mpr ⟨lo_148, List.forall_mem_cons.mpr ⟨lo_149, List.forall_mem_nil _⟩⟩⟩⟩⟩⟩⟩⟩⟩⟩⟩⟩⟩⟩⟩⟩⟩⟩⟩⟩⟩⟩⟩⟩⟩
theorem ml_c_6 : ∀ e ∈ [((8, 233, 154, 0) : Nat × Nat × Nat × Int), ((8, 238, 156, 0) : Nat × Nat × Nat × Int), ((8, 241, 157, 0) : Nat × Nat × Nat × Int), ((8, 244, 153, 0) : Nat × Nat × Nat × Int), ((8, 249, 159, 0) : Nat × Nat × Nat × Int), ((8, 252, 162, 0) : Nat × Nat × Nat × Int), ((8, 255, 163, 0) : Nat × Nat × Nat × Int), ((8, 258, 167, 0) : Nat × Nat × Nat × Int), ((8, 263, 170, 0) : Nat × Nat × Nat × Int), ((8, 268, 176, 0) : Nat × Nat × Nat × Int), ((8, 273, 177, 0) : Nat × Nat × Nat × Int), ((8, 276, 182, 0) : Nat × Nat × Nat × Int), ((8, 279, 183, 0) : Nat × Nat × Nat × Int), ((8, 285, 186, 0) : Nat × Nat × Nat × Int), ((8, 290, 166, 0) : Nat × Nat × Nat × Int), ((8, 296, 191, 0) : Nat × Nat × Nat × Int), ((8, 299, 192, 0) : Nat × Nat × Nat × Int), ((8, 302, 193, 0) : Nat × Nat × Nat × Int)], LOK e := List.forall_mem_cons.mpr ⟨lo_150, List.forall_mem_cons.mpr ⟨lo_151, List.forall_mem_cons.mpr ⟨lo_152, List.forall_mem_cons.mpr ⟨lo_153, List.forall_mem_cons.mpr ⟨lo_154, List.forall_mem_cons.mpr ⟨lo_155, List.forall_mem_cons.mpr ⟨lo_156, List.forall_mem_cons.mpr ⟨lo_157, List.forall_mem_cons.mpr ⟨lo_158, List.forall_mem_cons.mpr ⟨lo_159, List.forall_mem_cons.mpr ⟨lo_160, List.forall_mem_cons.mpr ⟨lo_161, List.forall_mem_cons.mpr ⟨lo_162, List.forall_mem_cons.mpr ⟨lo_163, List.forall_mem_cons.mpr ⟨lo_164, List.forall_mem_cons.mpr ⟨lo_165, List.forall_mem_cons.mpr ⟨lo_166, List.forall_mem_cons.mpr ⟨lo_167, List.forall_mem_nil _⟩⟩⟩⟩⟩⟩⟩⟩⟩⟩⟩⟩⟩⟩⟩⟩⟩⟩
theorem ml_ok : ∀ e ∈ MLT, LOK e := by
  intro e he
  rw [show MLT = [((0, 33, 196, 0) : Nat × Nat × Nat × Int), ((0, 42, 101, 1) : Nat × Nat × Nat × Int), ((0, 46, 1, 0) : Nat × Nat × Nat × Int), ((0, 50, 1002, 0) : Nat × Nat × Nat × Int), ((0, 56, 3, 0) : Nat × Nat × Nat × Int), ((0, 63, 2, 0) : Nat × Nat × Nat × Int), ((0, 67, 1001, 0) : Nat × Nat × Nat × Int), ((0, 73, 1000, 0) : Nat × Nat × Nat × Int), ((0, 76, 103, 1) : Nat × Nat × Nat × Int), ((0, 79, 104, 1) : Nat × Nat × Nat × Int), ((1, 37, 5, 0) : Nat × Nat × Nat × Int), ((1, 41, 6, 0) : Nat × Nat × Nat × Int), ((1, 44, 12, 0) : Nat × Nat × Nat × Int), ((1, 52, 196, 0) : Nat × Nat × Nat × Int), ((1, 61, 7, 0) : Nat × Nat × Nat × Int), ((1, 64, 1001, 0) : Nat × Nat × Nat × Int), ((1, 70, 1000, 0) : Nat × Nat × Nat × Int), ((1, 73, 9, 0) : Nat × Nat × Nat × Int), ((1, 77, 8, 0) : Nat × Nat × Nat × Int), ((1, 80, 10, 0) : Nat × Nat × Nat × Int), ((1, 84, 11, 0) : Nat × Nat × Nat × Int), ((2, 43, 1002, 0) : Nat × Nat × Nat × Int), ((2, 49, 102, 1) : Nat × Nat × Nat × Int), ((2, 53, 103, 1) : Nat × Nat × Nat × Int), ((2, 57, 18, 0) : Nat × Nat × Nat × Int)] ++ [((2, 61, 19, 0) : Nat × Nat × Nat × Int), ((2, 64, 104, 1) : Nat × Nat × Nat × Int), ((2, 67, 1000, 0) : Nat × Nat × Nat × Int), ((2, 73, 24, 0) : Nat × Nat × Nat × Int), ((2, 77, 31, 0) : Nat × Nat × Nat × Int), ((2, 81, 32, 0) : Nat × Nat × Nat × Int), ((2, 85, 25, 0) : Nat × Nat × Nat × Int), ((3, 22, 196, 0) : Nat × Nat × Nat × Int), ((3, 28, 89, 1) : Nat × Nat × Nat × Int), ((3, 32, 1001, 0) : Nat × Nat × Nat × Int), ((4, 17, 1003, 0) : Nat × Nat × Nat × Int), ((4, 22, 37, 0) : Nat × Nat × Nat × Int), ((4, 26, 1004, 0) : Nat × Nat × Nat × Int), ((5, 41, 13, 1) : Nat × Nat × Nat × Int), ((5, 48, 40, 0) : Nat × Nat × Nat × Int), ((5, 52, 48, 0) : Nat × Nat × Nat × Int), ((5, 55, 41, 0) : Nat × Nat × Nat × Int), ((5, 59, 51, 0) : Nat × Nat × Nat × Int), ((5, 63, 47, 0) : Nat × Nat × Nat × Int), ((5, 66, 43, 0) : Nat × Nat × Nat × Int), ((5, 69, 42, 0) : Nat × Nat × Nat × Int), ((5, 73, 38, 1) : Nat × Nat × Nat × Int), ((5, 87, 44, 0) : Nat × Nat × Nat × Int), ((5, 91, 45, 0) : Nat × Nat × Nat × Int), ((5, 94, 89, 1) : Nat × Nat × Nat × Int)] ++ [((5, 98, 46, 0) : Nat × Nat × Nat × Int), ((5, 114, 15, 1) : Nat × Nat × Nat × Int), ((5, 121, 37, 1) : Nat × Nat × Nat × Int), ((5, 124, 49, 0) : Nat × Nat × Nat × Int), ((5, 127, 50, 0) : Nat × Nat × Nat × Int), ((6, 35, 54, 0) : Nat × Nat × Nat × Int), ((6, 39, 4, 1) : Nat × Nat × Nat × Int), ((6, 43, 0, 1) : Nat × Nat × Nat × Int), ((6, 44, 53, 0) : Nat × Nat × Nat × Int), ((6, 56, 23, 1) : Nat × Nat × Nat × Int), ((6, 60, 196, 0) : Nat × Nat × Nat × Int), ((6, 66, 103, 1) : Nat × Nat × Nat × Int), ((6, 73, 102, 1) : Nat × Nat × Nat × Int), ((6, 77, 55, 0) : Nat × Nat × Nat × Int), ((6, 81, 104, 1) : Nat × Nat × Nat × Int), ((7, 64, 89, 0) : Nat × Nat × Nat × Int), ((7, 75, 39, 1) : Nat × Nat × Nat × Int), ((7, 84, 14, 1) : Nat × Nat × Nat × Int), ((7, 88, 97, 0) : Nat × Nat × Nat × Int), ((7, 92, 99, 0) : Nat × Nat × Nat × Int), ((7, 110, 18, 1) : Nat × Nat × Nat × Int), ((7, 114, 19, 1) : Nat × Nat × Nat × Int), ((7, 117, 21, 1) : Nat × Nat × Nat × Int), ((7, 124, 101, 0) : Nat × Nat × Nat × Int), ((7, 131, 90, 0) : Nat × Nat × Nat × Int)] ++ [((7, 138, 23, 1) : Nat × Nat × Nat × Int), ((7, 142, 91, 0) : Nat × Nat × Nat × Int), ((7, 145, 17, 1) : Nat × Nat × Nat × Int), ((7, 148, 24, 1) : Nat × Nat × Nat × Int), ((7, 151, 195, 0) : Nat × Nat × Nat × Int), ((7, 156, 25, 1) : Nat × Nat × Nat × Int), ((7, 159, 26, 1) : Nat × Nat × Nat × Int), ((7, 162, 92, 0) : Nat × Nat × Nat × Int), ((7, 165, 93, 0) : Nat × Nat × Nat × Int), ((7, 168, 52, 1) : Nat × Nat × Nat × Int), ((7, 172, 55, 1) : Nat × Nat × Nat × Int), ((7, 175, 56, 1) : Nat × Nat × Nat × Int), ((7, 177, 57, 1) : Nat × Nat × Nat × Int), ((7, 183, 20, 1) : Nat × Nat × Nat × Int), ((7, 186, 98, 0) : Nat × Nat × Nat × Int), ((7, 201, 22, 1) : Nat × Nat × Nat × Int), ((7, 205, 15, 1) : Nat × Nat × Nat × Int), ((7, 209, 16, 1) : Nat × Nat × Nat × Int), ((7, 212, 30, 1) : Nat × Nat × Nat × Int), ((7, 215, 1002, 0) : Nat × Nat × Nat × Int), ((7, 221, 1001, 0) : Nat × Nat × Nat × Int), ((7, 227, 94, 0) : Nat × Nat × Nat × Int), ((7, 230, 95, 0) : Nat × Nat × Nat × Int), ((7, 233, 96, 0) : Nat × Nat × Nat × Int), ((7, 236, 33, 1) : Nat × Nat × Nat × Int)] ++ [((7, 239, 34, 1) : Nat × Nat × Nat × Int), ((7, 242, 35, 1) : Nat × Nat × Nat × Int), ((7, 249, 36, 1) : Nat × Nat × Nat × Int), ((7, 252, 100, 0) : Nat × Nat × Nat × Int), ((7, 255, 27, 1) : Nat × Nat × Nat × Int), ((7, 262, 28, 1) : Nat × Nat × Nat × Int), ((7, 265, 29, 1) : Nat × Nat × Nat × Int), ((7, 268, 196, 0) : Nat × Nat × Nat × Int), ((7, 274, 1000, 0) : Nat × Nat × Nat × Int), ((8, 62, 108, 0) : Nat × Nat × Nat × Int), ((8, 67, 106, 0) : Nat × Nat × Nat × Int), ((8, 90, 112, 0) : Nat × Nat × Nat × Int), ((8, 94, 113, 0) : Nat × Nat × Nat × Int), ((8, 109, 111, 0) : Nat × Nat × Nat × Int), ((8, 113, 115, 0) : Nat × Nat × Nat × Int), ((8, 116, 118, 0) : Nat × Nat × Nat × Int), ((8, 120, 114, 0) : Nat × Nat × Nat × Int), ((8, 124, 119, 0) : Nat × Nat × Nat × Int), ((8, 127, 116, 0) : Nat × Nat × Nat × Int), ((8, 130, 117, 0) : Nat × Nat × Nat × Int), ((8, 133, 120, 0) : Nat × Nat × Nat × Int), ((8, 136, 155, 0) : Nat × Nat × Nat × Int), ((8, 139, 127, 0) : Nat × Nat × Nat × Int), ((8, 142, 125, 0) : Nat × Nat × Nat × Int), ((8, 146, 129, 0) : Nat × Nat × Nat × Int)] ++ [((8, 149, 128, 0) : Nat × Nat × Nat × Int), ((8, 152, 132, 0) : Nat × Nat × Nat × Int), ((8, 155, 133, 0) : Nat × Nat × Nat × Int), ((8, 158, 130, 0) : Nat × Nat × Nat × Int), ((8, 161, 131, 0) : Nat × Nat × Nat × Int), ((8, 164, 107, 0) : Nat × Nat × Nat × Int), ((8, 168, 123, 0) : Nat × Nat × Nat × Int), ((8, 172, 135, 0) : Nat × Nat × Nat × Int), ((8, 175, 124, 0) : Nat × Nat × Nat × Int), ((8, 178, 140, 0) : Nat × Nat × Nat × Int), ((8, 181, 138, 0) : Nat × Nat × Nat × Int), ((8, 185, 137, 0) : Nat × Nat × Nat × Int), ((8, 188, 139, 0) : Nat × Nat × Nat × Int), ((8, 191, 144, 0) : Nat × Nat × Nat × Int), ((8, 194, 146, 0) : Nat × Nat × Nat × Int), ((8, 197, 145, 0) : Nat × Nat × Nat × Int), ((8, 201, 148, 0) : Nat × Nat × Nat × Int), ((8, 207, 147, 0) : Nat × Nat × Nat × Int), ((8, 210, 149, 0) : Nat × Nat × Nat × Int), ((8, 214, 126, 0) : Nat × Nat × Nat × Int), ((8, 217, 151, 0) : Nat × Nat × Nat × Int), ((8, 221, 142, 0) : Nat × Nat × Nat × Int), ((8, 224, 143, 0) : Nat × Nat × Nat × Int), ((8, 227, 150, 0) : Nat × Nat × Nat × Int), ((8, 230, 152, 0) : Nat × Nat × Nat × Int)] ++ [((8, 233, 154, 0) : Nat × Nat × Nat × Int), ((8, 238, 156, 0) : Nat × Nat × Nat × Int), ((8, 241, 157, 0) : Nat × Nat × Nat × Int), ((8, 244, 153, 0) : Nat × Nat × Nat × Int), ((8, 249, 159, 0) : Nat × Nat × Nat × Int), ((8, 252, 162, 0) : Nat × Nat × Nat × Int), ((8, 255, 163, 0) : Nat × Nat × Nat × Int), ((8, 258, 167, 0) : Nat × Nat × Nat × Int), ((8, 263, 170, 0) : Nat × Nat × Nat × Int), ((8, 268, 176, 0) : Nat × Nat × Nat × Int), ((8, 273, 177, 0) : Nat × Nat × Nat × Int), ((8, 276, 182, 0) : Nat × Nat × Nat × Int), ((8, 279, 183, 0) : Nat × Nat × Nat × Int), ((8, 285, 186, 0) : Nat × Nat × Nat × Int), ((8, 290, 166, 0) : Nat × Nat × Nat × Int), ((8, 296, 191, 0) : Nat × Nat × Nat × Int), ((8, 299, 192, 0) : Nat × Nat × Nat × Int), ((8, 302, 193, 0) : Nat × Nat × Nat × Int)] from rfl] at he
  simp only [List.mem_append] at he
  rcases he with (((((h0 | h1) | h2) | h3) | h4) | h5) | h6
  · exact ml_c_0 e h0
  · exact ml_c_1 e h1
  · exact ml_c_2 e h2
  · exact ml_c_3 e h3
  · exact ml_c_4 e h4
  · exact ml_c_5 e h5
  · exact ml_c_6 e h6
theorem ci_c_0 : ∀ e ∈ [((7, 226, 1103515245) : Nat × Nat × Int), ((8, 284, 1103515245) : Nat × Nat × Int), ((10, 265, 1431655765) : Nat × Nat × Int), ((10, 266, 858993459) : Nat × Nat × Int), ((10, 267, 252645135) : Nat × Nat × Int)], CIK e := List.forall_mem_cons.mpr ⟨⟨RX7, rfl, gw_at 816 (by decide +kernel) (by decide +kernel)⟩, List.forall_mem_cons.mpr ⟨⟨RX8, rfl, gw_at 1294 (by decide +kernel) (by decide +kernel)⟩, List.forall_mem_cons.mpr ⟨⟨RJ6, rfl, gw_at 683 (by decide +kernel) (by decide +kernel)⟩, List.forall_mem_cons.mpr ⟨⟨RJ6, rfl, gw_at 684 (by decide +kernel) (by decide +kernel)⟩, List.forall_mem_cons.mpr ⟨⟨RJ6, rfl, gw_at 685 (by decide +kernel) (by decide +kernel)⟩, List.forall_mem_nil _⟩⟩⟩⟩⟩
theorem ci_ok : ∀ e ∈ CIT, CIK e := by
  intro e he
  rw [show CIT = [((7, 226, 1103515245) : Nat × Nat × Int), ((8, 284, 1103515245) : Nat × Nat × Int), ((10, 265, 1431655765) : Nat × Nat × Int), ((10, 266, 858993459) : Nat × Nat × Int), ((10, 267, 252645135) : Nat × Nat × Int)] from rfl] at he
  exact ci_c_0 e he
theorem cl_c_0 : ∀ e ∈ [((8, 65, 127) : Nat × Nat × Int), ((8, 98, 97) : Nat × Nat × Int), ((8, 100, 122) : Nat × Nat × Int), ((8, 102, 48) : Nat × Nat × Int), ((8, 104, 57) : Nat × Nat × Int), ((8, 236, 3) : Nat × Nat × Int), ((8, 247, 2) : Nat × Nat × Int), ((8, 261, 999) : Nat × Nat × Int), ((8, 266, 5) : Nat × Nat × Int), ((8, 271, 200) : Nat × Nat × Int), ((8, 282, 16) : Nat × Nat × Int), ((8, 288, 20) : Nat × Nat × Int)], CLK e := List.forall_mem_cons.mpr ⟨⟨RX8, rfl, gw_at 983 (by decide +kernel) (by decide +kernel)⟩, List.forall_mem_cons.mpr ⟨⟨RX8, rfl, gw_at 1003 (by decide +kernel) (by decide +kernel)⟩, List.forall_mem_cons.mpr ⟨⟨RX8, rfl, gw_at 1004 (by decide +kernel) (by decide +kernel)⟩, List.forall_mem_cons.mpr ⟨⟨RX8, rfl, gw_at 1005 (by decide +kernel) (by decide +kernel)⟩, List.forall_mem_cons.mpr ⟨⟨RX8, rfl, gw_at 1006 (by decide +kernel) (by decide +kernel)⟩, List.forall_mem_cons.mpr ⟨⟨RX8, rfl, gw_at 1136 (by decide +kernel) (by decide +kernel)⟩, List.forall_mem_cons.mpr ⟨⟨RX8, rfl, gw_at 1193 (by decide +kernel) (by decide +kernel)⟩, List.forall_mem_cons.mpr ⟨⟨RX8, rfl, gw_at 1238 (by decide +kernel) (by decide +kernel)⟩, List.forall_mem_cons.mpr ⟨⟨RX8, rfl, gw_at 1259 (by decide +kernel) (by decide +kernel)⟩, List.forall_mem_cons.mpr ⟨⟨RX8, rfl, gw_at 1264 (by decide +kernel) (by decide +kernel)⟩, List.forall_mem_cons.mpr ⟨⟨RX8, rfl, gw_at 1293 (by decide +kernel) (by decide +kernel)⟩, List.forall_mem_cons.mpr ⟨⟨RX8, rfl, gw_at 1318 (by decide +kernel) (by decide +kernel)⟩, List.forall_mem_nil _⟩⟩⟩⟩⟩⟩⟩⟩⟩⟩⟩⟩
theorem clo_ok : ∀ e ∈ CLT, CLK e := by
  intro e he
  rw [show CLT = [((8, 65, 127) : Nat × Nat × Int), ((8, 98, 97) : Nat × Nat × Int), ((8, 100, 122) : Nat × Nat × Int), ((8, 102, 48) : Nat × Nat × Int), ((8, 104, 57) : Nat × Nat × Int), ((8, 236, 3) : Nat × Nat × Int), ((8, 247, 2) : Nat × Nat × Int), ((8, 261, 999) : Nat × Nat × Int), ((8, 266, 5) : Nat × Nat × Int), ((8, 271, 200) : Nat × Nat × Int), ((8, 282, 16) : Nat × Nat × Int), ((8, 288, 20) : Nat × Nat × Int)] from rfl] at he
  exact cl_c_0 e he
end
section
/-! every table says what the bytes say -/
def chkX (own : Nat) (ret : Option FieldType) (e : EN) : Bool := match e with
  | (pc, ins, _, a, b, z) => match ins with
    | .goto off => decide ((pc : Int) + off = (a : Int))
    | .ifCond _ off => decide ((pc : Int) + off = (a : Int))
    | .if_icmp _ off => decide ((pc : Int) + off = (a : Int))
    | .iconst n => decide (z = n)
    | .bipush n => decide (z = n ∧ -128 ≤ n ∧ n < 128)
    | .sipush n => decide (z = n ∧ -32768 ≤ n ∧ n < 32768)
    | .lconst n => decide (z = (n.val : Int))
    | .getfield i => FLT.contains (own, i, a, b, z)
    | .putfield i => FLT.contains (own, i, a, b, z) && FPT.contains (own, i, a, b, z)
    | .invokevirtual i => MLT.contains (own, i, a, z)
    | .invokestatic i => MLT.contains (own, i, a, z)
    | .ldc i => match b with
      | 0 => CIT.contains (own, i, z)
      | _ => SRT.contains (own, i, a)
    | .ldc_w i => CIT.contains (own, i, z)
    | .ldc2_w i => CLT.contains (own, i, z)
    | .tableswitch d _ _ os => decide (0 ≤ (pc : Int) + d) && os.toList.all fun o => decide (0 ≤ (pc : Int) + o)
    | .lookupswitch d ps => decide (0 ≤ (pc : Int) + d) && (ps.toList.all fun o => decide (0 ≤ (pc : Int) + o.2)) && ((ps.toList.zip (ps.toList.drop 1)).all fun (a, next) => a.1 < next.1)
    | .ireturn => match a, ret with
      | 0, some .int => true
      | 1, some .boolean => true
      | _, _ => false
    | .areturn => match ret with
      | some (.object _) => true
      | _ => false
    | .return_ => match ret with
      | none => true
      | _ => false
    | _ => true
def insN (i : Instr) (n : Nat) : Nat := match i with
  | .bipush _ => 2
  | .sipush _ => 3
  | .ldc _ => 2
  | .ldc_w _ => 3
  | .ldc2_w _ => 3
  | .iload _ => 2
  | .lload _ => 2
  | .aload _ => 2
  | .istore _ => 2
  | .lstore _ => 2
  | .astore _ => 2
  | .iinc _ _ => 3
  | .goto _ => 3
  | .ifCond _ _ => 3
  | .if_icmp _ _ => 3
  | .getfield _ => 3
  | .putfield _ => 3
  | .invokevirtual _ => 3
  | .invokestatic _ => 3
  | .tableswitch _ _ _ _ => n
  | .lookupswitch _ _ => n
  | _ => 1
def insLen (e : EN) (r : Except DecodeError (Instr × Nat)) : Bool := match r with
  | .ok (i, n) => decide (i = e.2.1) && Nat.beq (e.1 + n) e.2.2.1 && Nat.beq n (insN e.2.1 n)
  | .error _ => false
def chkE (m : MI) (e : EN) : Bool := insLen e (decode m.2.2.1 e.1) && chkX m.1 m.2.2.2.2.1 e
theorem ck_0 : tb_0.all (chkE (0, yX0_chooseHomes, cX0_chooseHomes, 3, none, 3, false)) = true := by decide +kernel
theorem ck_1 : tb_1.all (chkE (0, yX0_tryCell, cX0_tryCell, 7, none, 5, false)) = true := by decide +kernel
theorem ck_2 : tb_2.all (chkE (0, yX0_lacking, cX0_lacking, 4, (some .int), 2, false)) = true := by decide +kernel
theorem ck_3 : tb_3.all (chkE (0, yX0_judge, cX0_judge, 4, none, 2, false)) = true := by decide +kernel
theorem ck_4 : tb_4.all (chkE (1, yX1_chooseHomes, cX1_chooseHomes, 4, none, 3, false)) = true := by decide +kernel
theorem ck_5 : tb_5.all (chkE (1, yX1_begin, cX1_begin, 3, none, 2, false)) = true := by decide +kernel
theorem ck_6 : tb_6.all (chkE (1, yX1_joinTwo, cX1_joinTwo, 3, none, 1, false)) = true := by decide +kernel
theorem ck_7 : tb_7.all (chkE (1, yX1_widestBut, cX1_widestBut, 4, (some .int), 2, false)) = true := by decide +kernel
theorem ck_8 : tb_8.all (chkE (1, yX1_width, cX1_width, 2, (some .int), 2, false)) = true := by decide +kernel
theorem ck_9 : tb_9.all (chkE (1, yX1_merge, cX1_merge, 5, none, 3, false)) = true := by decide +kernel
theorem ck_10 : tb_10.all (chkE (1, yX1_isAhead, cX1_isAhead, 6, (some .boolean), 4, false)) = true := by decide +kernel
theorem ck_11 : tb_11.all (chkE (1, yX1_exchange, cX1_exchange, 3, none, 2, true)) = true := by decide +kernel
theorem ck_12 : tb_12.all (chkE (1, yX1_bundleOf, cX1_bundleOf, 3, (some .int), 2, false)) = true := by decide +kernel
theorem ck_13 : tb_13.all (chkE (2, yX2_reset, cX2_reset, 1, none, 1, false)) = true := by decide +kernel
theorem ck_14 : tb_14.all (chkE (2, yX2_copyFrom, cX2_copyFrom, 2, none, 2, false)) = true := by decide +kernel
theorem ck_15 : tb_15.all (chkE (2, yX2_append, cX2_append, 3, none, 3, false)) = true := by decide +kernel
theorem ck_16 : tb_16.all (chkE (2, yX2_removeAt, cX2_removeAt, 3, none, 2, false)) = true := by decide +kernel
theorem ck_17 : tb_17.all (chkE (2, yX2_sumOf, cX2_sumOf, 2, (some .int), 2, false)) = true := by decide +kernel
theorem ck_18 : tb_18.all (chkE (2, yX2_weakest, cX2_weakest, 1, (some .int), 1, false)) = true := by decide +kernel
theorem ck_19 : tb_19.all (chkE (2, yX2_leastSum, cX2_leastSum, 1, (some .int), 1, false)) = true := by decide +kernel
theorem ck_20 : tb_20.all (chkE (2, yX2_leastSumOfCharges, cX2_leastSumOfCharges, 1, (some .int), 1, false)) = true := by decide +kernel
theorem ck_21 : tb_21.all (chkE (2, yX2_spread, cX2_spread, 2, (some .int), 1, false)) = true := by decide +kernel
theorem ck_22 : tb_22.all (chkE (2, yX2_leastSumExchanged, cX2_leastSumExchanged, 3, (some .int), 3, false)) = true := by decide +kernel
theorem ck_23 : tb_23.all (chkE (2, yX2_rankByCharge, cX2_rankByCharge, 4, (some .int), 2, false)) = true := by decide +kernel
theorem ck_24 : tb_24.all (chkE (2, yX2_bitsOf, cX2_bitsOf, 4, (some .int), 2, false)) = true := by decide +kernel
theorem ck_25 : tb_25.all (chkE (2, yX2_strongestOf, cX2_strongestOf, 4, (some .int), 2, false)) = true := by decide +kernel
theorem ck_26 : tb_26.all (chkE (2, yX2_aboveFloor, cX2_aboveFloor, 4, (some .int), 2, false)) = true := by decide +kernel
theorem ck_27 : tb_27.all (chkE (2, yX2_emptyGroups, cX2_emptyGroups, 3, (some .int), 1, false)) = true := by decide +kernel
theorem ck_28 : tb_28.all (chkE (2, yX2_bledCells, cX2_bledCells, 3, (some .int), 1, false)) = true := by decide +kernel
theorem ck_29 : tb_29.all (chkE (2, yX2_greatestCharge, cX2_greatestCharge, 3, (some .int), 1, false)) = true := by decide +kernel
theorem ck_30 : tb_30.all (chkE (2, yX2_runTicks, cX2_runTicks, 3, (some .int), 2, false)) = true := by decide +kernel
theorem ck_31 : tb_31.all (chkE (2, yX2_tickLoses, cX2_tickLoses, 4, (some .boolean), 1, false)) = true := by decide +kernel
theorem ck_32 : tb_32.all (chkE (2, yX2_strongestLoses, cX2_strongestLoses, 3, (some .boolean), 2, false)) = true := by decide +kernel
theorem ck_33 : tb_33.all (chkE (3, yX3_renew, cX3_renew, 3, none, 3, false)) = true := by decide +kernel
theorem ck_34 : tb_34.all (chkE (3, yX3_putAt, cX3_putAt, 3, (some .int), 3, false)) = true := by decide +kernel
theorem ck_35 : tb_35.all (chkE (3, yX3_wholePairs, cX3_wholePairs, 4, (some .int), 4, false)) = true := by decide +kernel
theorem ck_36 : tb_36.all (chkE (3, yX3_faultAs, cX3_faultAs, 2, (some .int), 2, false)) = true := by decide +kernel
theorem ck_37 : tb_37.all (chkE (4, yX4_byteAt, cX4_byteAt, 2, (some .int), 2, false)) = true := by decide +kernel
theorem ck_38 : tb_38.all (chkE (4, yX4_spells, cX4_spells, 5, (some .boolean), 4, false)) = true := by decide +kernel
theorem ck_39 : tb_39.all (chkE (5, yX5_readAll, cX5_readAll, 3, none, 1, false)) = true := by decide +kernel
theorem ck_40 : tb_40.all (chkE (5, yX5_readLine, cX5_readLine, 2, (some .boolean), 1, false)) = true := by decide +kernel
theorem ck_41 : tb_41.all (chkE (5, yX5_lineNamed, cX5_lineNamed, 2, (some .int), 1, false)) = true := by decide +kernel
theorem ck_42 : tb_42.all (chkE (5, yX5_nameOf, cX5_nameOf, 1, (some (.object "java/lang/String")), 1, true)) = true := by decide +kernel
theorem ck_43 : tb_43.all (chkE (5, yX5_readSetting, cX5_readSetting, 2, (some .boolean), 2, false)) = true := by decide +kernel
theorem ck_44 : tb_44.all (chkE (5, yX5_lowestOf, cX5_lowestOf, 1, (some .int), 1, true)) = true := by decide +kernel
theorem ck_45 : tb_45.all (chkE (5, yX5_highestOf, cX5_highestOf, 1, (some .int), 1, true)) = true := by decide +kernel
theorem ck_46 : tb_46.all (chkE (5, yX5_putSetting, cX5_putSetting, 2, none, 2, false)) = true := by decide +kernel
theorem ck_47 : tb_47.all (chkE (5, yX5_readCells, cX5_readCells, 2, (some .boolean), 1, false)) = true := by decide +kernel
theorem ck_48 : tb_48.all (chkE (5, yX5_nextToken, cX5_nextToken, 2, (some .boolean), 1, false)) = true := by decide +kernel
theorem ck_49 : tb_49.all (chkE (5, yX5_passRun, cX5_passRun, 3, none, 3, false)) = true := by decide +kernel
theorem ck_50 : tb_50.all (chkE (5, yX5_takeValue, cX5_takeValue, 2, (some .boolean), 1, false)) = true := by decide +kernel
theorem ck_51 : tb_51.all (chkE (5, yX5_fail, cX5_fail, 2, (some .boolean), 2, false)) = true := by decide +kernel
theorem ck_52 : tb_52.all (chkE (6, yX6_choose, cX6_choose, 3, none, 3, false)) = true := by decide +kernel
theorem ck_53 : tb_53.all (chkE (6, yX6_byTurns, cX6_byTurns, 3, none, 2, false)) = true := by decide +kernel
theorem ck_54 : tb_54.all (chkE (6, yX6_byWeakest, cX6_byWeakest, 4, none, 2, false)) = true := by decide +kernel
theorem ck_55 : tb_55.all (chkE (6, yX6_leastSum, cX6_leastSum, 2, (some .int), 2, false)) = true := by decide +kernel
theorem ck_56 : tb_56.all (chkE (6, yX6_spread, cX6_spread, 3, (some .int), 2, false)) = true := by decide +kernel
theorem ck_57 : tb_57.all (chkE (6, yX6_strangers, cX6_strangers, 4, (some .int), 2, false)) = true := by decide +kernel
theorem ck_58 : tb_58.all (chkE (7, yX7_feed, cX7_feed, 2, (some .int), 2, false)) = true := by decide +kernel
theorem ck_59 : tb_59.all (chkE (7, yX7_end, cX7_end, 3, (some .int), 2, false)) = true := by decide +kernel
theorem ck_60 : tb_60.all (chkE (7, yX7_text, cX7_text, 1, (some .int), 1, false)) = true := by decide +kernel
theorem ck_61 : tb_61.all (chkE (7, yX7_fault, cX7_fault, 1, (some .int), 1, false)) = true := by decide +kernel
theorem ck_62 : tb_62.all (chkE (7, yX7_rule, cX7_rule, 2, (some .int), 2, false)) = true := by decide +kernel
theorem ck_63 : tb_63.all (chkE (7, yX7_cell, cX7_cell, 3, (some .int), 3, false)) = true := by decide +kernel
theorem ck_64 : tb_64.all (chkE (7, yX7_group, cX7_group, 3, (some .int), 3, false)) = true := by decide +kernel
theorem ck_65 : tb_65.all (chkE (7, yX7_take, cX7_take, 2, (some .int), 2, false)) = true := by decide +kernel
theorem ck_66 : tb_66.all (chkE (7, yX7_would, cX7_would, 3, (some .int), 3, false)) = true := by decide +kernel
theorem ck_67 : tb_67.all (chkE (7, yX7_where, cX7_where, 3, (some .int), 3, false)) = true := by decide +kernel
theorem ck_68 : tb_68.all (chkE (7, yX7_bound, cX7_bound, 3, (some .int), 2, false)) = true := by decide +kernel
theorem ck_69 : tb_69.all (chkE (7, yX7_joined, cX7_joined, 2, (some .int), 2, false)) = true := by decide +kernel
theorem ck_70 : tb_70.all (chkE (7, yX7_move, cX7_move, 4, (some .int), 3, false)) = true := by decide +kernel
theorem ck_71 : tb_71.all (chkE (7, yX7_swap, cX7_swap, 4, (some .int), 3, false)) = true := by decide +kernel
theorem ck_72 : tb_72.all (chkE (7, yX7_better, cX7_better, 6, (some .int), 1, false)) = true := by decide +kernel
theorem ck_73 : tb_73.all (chkE (7, yX7_add, cX7_add, 2, (some .int), 2, false)) = true := by decide +kernel
theorem ck_74 : tb_74.all (chkE (7, yX7_drop, cX7_drop, 2, (some .int), 2, false)) = true := by decide +kernel
theorem ck_75 : tb_75.all (chkE (7, yX7_set, cX7_set, 4, (some .int), 3, false)) = true := by decide +kernel
theorem ck_76 : tb_76.all (chkE (7, yX7_rate, cX7_rate, 4, (some .int), 3, false)) = true := by decide +kernel
theorem ck_77 : tb_77.all (chkE (7, yX7_groups, cX7_groups, 3, (some .int), 2, false)) = true := by decide +kernel
theorem ck_78 : tb_78.all (chkE (7, yX7_bleed, cX7_bleed, 2, (some .int), 2, false)) = true := by decide +kernel
theorem ck_79 : tb_79.all (chkE (7, yX7_plan, cX7_plan, 3, (some .int), 2, false)) = true := by decide +kernel
theorem ck_80 : tb_80.all (chkE (7, yX7_fill, cX7_fill, 2, (some .int), 1, false)) = true := by decide +kernel
theorem ck_81 : tb_81.all (chkE (7, yX7_draw, cX7_draw, 7, (some .int), 3, false)) = true := by decide +kernel
theorem ck_82 : tb_82.all (chkE (7, yX7_keep, cX7_keep, 3, (some .int), 2, false)) = true := by decide +kernel
theorem ck_83 : tb_83.all (chkE (7, yX7_back, cX7_back, 2, (some .int), 2, false)) = true := by decide +kernel
theorem ck_84 : tb_84.all (chkE (7, yX7_sheet, cX7_sheet, 4, (some .int), 4, false)) = true := by decide +kernel
theorem ck_85 : tb_85.all (chkE (7, yX7_lay, cX7_lay, 5, (some .int), 4, false)) = true := by decide +kernel
theorem ck_86 : tb_86.all (chkE (7, yX7_read, cX7_read, 8, (some .int), 5, false)) = true := by decide +kernel
theorem ck_87 : tb_87.all (chkE (7, yX7_torn, cX7_torn, 1, (some .int), 1, false)) = true := by decide +kernel
theorem ck_88 : tb_88.all (chkE (7, yX7_count, cX7_count, 2, (some .int), 2, false)) = true := by decide +kernel
theorem ck_89 : tb_89.all (chkE (7, yX7_within, cX7_within, 3, (some .boolean), 3, true)) = true := by decide +kernel
theorem ck_90 : tb_90.all (chkE (7, yX7_isCell, cX7_isCell, 2, (some .boolean), 2, false)) = true := by decide +kernel
theorem ck_91 : tb_91.all (chkE (7, yX7_isGroup, cX7_isGroup, 2, (some .boolean), 2, false)) = true := by decide +kernel
theorem ck_92 : tb_92.all (chkE (7, yX7_isWay, cX7_isWay, 1, (some .boolean), 1, true)) = true := by decide +kernel
theorem ck_93 : tb_93.all (chkE (7, yX7_wayIsOpen, cX7_wayIsOpen, 2, (some .boolean), 2, false)) = true := by decide +kernel
theorem ck_94 : tb_94.all (chkE (7, yX7_isImage, cX7_isImage, 1, (some .boolean), 1, true)) = true := by decide +kernel
theorem ck_95 : tb_95.all (chkE (7, yX7_isSheet, cX7_isSheet, 1, (some .boolean), 1, true)) = true := by decide +kernel
theorem ck_96 : tb_96.all (chkE (7, yX7_isLane, cX7_isLane, 1, (some .boolean), 1, true)) = true := by decide +kernel
theorem ck_97 : tb_97.all (chkE (7, yX7_regroup, cX7_regroup, 2, none, 2, false)) = true := by decide +kernel
theorem ck_98 : tb_98.all (chkE (7, yX7_waysThatReach, cX7_waysThatReach, 4, (some .int), 2, false)) = true := by decide +kernel
theorem ck_99 : tb_99.all (chkE (7, yX7_forgetImages, cX7_forgetImages, 2, none, 1, false)) = true := by decide +kernel
theorem ck_100 : tb_100.all (chkE (7, yX7_keptImages, cX7_keptImages, 3, (some .int), 1, false)) = true := by decide +kernel
theorem ck_101 : tb_101.all (chkE (7, yX7_total, cX7_total, 4, (some .int), 2, true)) = true := by decide +kernel
theorem ck_102 : tb_102.all (chkE (7, yX7_sumUp, cX7_sumUp, 5, none, 4, true)) = true := by decide +kernel
theorem ck_103 : tb_103.all (chkE (7, yX7_firstLeast, cX7_firstLeast, 4, (some .int), 2, true)) = true := by decide +kernel
theorem ck_104 : tb_104.all (chkE (7, yX7_greatest, cX7_greatest, 4, (some .int), 2, true)) = true := by decide +kernel
theorem ck_105 : tb_105.all (chkE (8, yX8_init, cX8_init, 2, none, 1, false)) = true := by decide +kernel
theorem ck_106 : tb_106.all (chkE (8, yX8_in, cX8_in, 6, (some .boolean), 3, true)) = true := by decide +kernel
theorem ck_107 : tb_107.all (chkE (8, yX8_flag, cX8_flag, 1, (some .int), 1, true)) = true := by decide +kernel
theorem ck_108 : tb_108.all (chkE (8, yX8_firstDraft, cX8_firstDraft, 2, none, 1, false)) = true := by decide +kernel
theorem ck_109 : tb_109.all (chkE (8, yX8_feed, cX8_feed, 2, (some .int), 2, false)) = true := by decide +kernel
theorem ck_110 : tb_110.all (chkE (8, yX8_end, cX8_end, 3, (some .int), 2, false)) = true := by decide +kernel
theorem ck_111 : tb_111.all (chkE (8, yX8_requires, cX8_requires, 3, none, 3, false)) = true := by decide +kernel
theorem ck_112 : tb_112.all (chkE (8, yX8_byteAt, cX8_byteAt, 2, (some .int), 2, false)) = true := by decide +kernel
theorem ck_113 : tb_113.all (chkE (8, yX8_is, cX8_is, 6, (some .boolean), 6, false)) = true := by decide +kernel
theorem ck_114 : tb_114.all (chkE (8, yX8_lineNow, cX8_lineNow, 1, (some .int), 1, false)) = true := by decide +kernel
theorem ck_115 : tb_115.all (chkE (8, yX8_reads, cX8_reads, 2, none, 1, false)) = true := by decide +kernel
theorem ck_116 : tb_116.all (chkE (8, yX8_leastOf, cX8_leastOf, 1, (some .int), 1, true)) = true := by decide +kernel
theorem ck_117 : tb_117.all (chkE (8, yX8_mostOf, cX8_mostOf, 1, (some .int), 1, true)) = true := by decide +kernel
theorem ck_118 : tb_118.all (chkE (8, yX8_readNumber, cX8_readNumber, 4, (some .int), 3, false)) = true := by decide +kernel
theorem ck_119 : tb_119.all (chkE (8, yX8_readCell, cX8_readCell, 2, none, 1, false)) = true := by decide +kernel
theorem ck_120 : tb_120.all (chkE (8, yX8_readLine, cX8_readLine, 2, none, 1, false)) = true := by decide +kernel
theorem ck_121 : tb_121.all (chkE (8, yX8_text, cX8_text, 2, (some .int), 1, false)) = true := by decide +kernel
theorem ck_122 : tb_122.all (chkE (8, yX8_fault, cX8_fault, 1, (some .int), 1, false)) = true := by decide +kernel
theorem ck_123 : tb_123.all (chkE (8, yX8_isCell, cX8_isCell, 2, (some .boolean), 2, false)) = true := by decide +kernel
theorem ck_124 : tb_124.all (chkE (8, yX8_isGroup, cX8_isGroup, 2, (some .boolean), 2, false)) = true := by decide +kernel
theorem ck_125 : tb_125.all (chkE (8, yX8_sumNow, cX8_sumNow, 3, none, 2, false)) = true := by decide +kernel
theorem ck_126 : tb_126.all (chkE (8, yX8_sumFound, cX8_sumFound, 2, none, 1, false)) = true := by decide +kernel
theorem ck_127 : tb_127.all (chkE (8, yX8_weakest, cX8_weakest, 3, (some .int), 1, false)) = true := by decide +kernel
theorem ck_128 : tb_128.all (chkE (8, yX8_least, cX8_least, 1, (some .int), 1, false)) = true := by decide +kernel
theorem ck_129 : tb_129.all (chkE (8, yX8_greatest, cX8_greatest, 3, (some .int), 1, false)) = true := by decide +kernel
theorem ck_130 : tb_130.all (chkE (8, yX8_spreadNow, cX8_spreadNow, 1, (some .int), 1, false)) = true := by decide +kernel
theorem ck_131 : tb_131.all (chkE (8, yX8_all, cX8_all, 4, (some .int), 2, false)) = true := by decide +kernel
theorem ck_132 : tb_132.all (chkE (8, yX8_weakestNow, cX8_weakestNow, 1, (some .int), 1, false)) = true := by decide +kernel
theorem ck_133 : tb_133.all (chkE (8, yX8_leastNow, cX8_leastNow, 2, (some .int), 2, false)) = true := by decide +kernel
theorem ck_134 : tb_134.all (chkE (8, yX8_rule, cX8_rule, 2, (some .int), 2, false)) = true := by decide +kernel
theorem ck_135 : tb_135.all (chkE (8, yX8_rankOf, cX8_rankOf, 4, (some .int), 2, false)) = true := by decide +kernel
theorem ck_136 : tb_136.all (chkE (8, yX8_cell, cX8_cell, 3, (some .int), 3, false)) = true := by decide +kernel
theorem ck_137 : tb_137.all (chkE (8, yX8_strongest, cX8_strongest, 4, (some .int), 2, false)) = true := by decide +kernel
theorem ck_138 : tb_138.all (chkE (8, yX8_cellsOf, cX8_cellsOf, 5, (some .int), 3, false)) = true := by decide +kernel
theorem ck_139 : tb_139.all (chkE (8, yX8_aboveFloor, cX8_aboveFloor, 4, (some .int), 2, false)) = true := by decide +kernel
theorem ck_140 : tb_140.all (chkE (8, yX8_sumOf, cX8_sumOf, 2, (some .int), 2, false)) = true := by decide +kernel
theorem ck_141 : tb_141.all (chkE (8, yX8_group, cX8_group, 3, (some .int), 3, false)) = true := by decide +kernel
theorem ck_142 : tb_142.all (chkE (8, yX8_findTurns, cX8_findTurns, 2, none, 1, false)) = true := by decide +kernel
theorem ck_143 : tb_143.all (chkE (8, yX8_findWeakest, cX8_findWeakest, 4, none, 1, false)) = true := by decide +kernel
theorem ck_144 : tb_144.all (chkE (8, yX8_holds, cX8_holds, 4, (some .int), 2, false)) = true := by decide +kernel
theorem ck_145 : tb_145.all (chkE (8, yX8_isAhead, cX8_isAhead, 5, (some .boolean), 3, false)) = true := by decide +kernel
theorem ck_146 : tb_146.all (chkE (8, yX8_differenceOf, cX8_differenceOf, 2, (some .int), 2, false)) = true := by decide +kernel
theorem ck_147 : tb_147.all (chkE (8, yX8_widest, cX8_widest, 4, (some .int), 2, false)) = true := by decide +kernel
theorem ck_148 : tb_148.all (chkE (8, yX8_order, cX8_order, 6, none, 2, false)) = true := by decide +kernel
theorem ck_149 : tb_149.all (chkE (8, yX8_join, cX8_join, 6, none, 3, false)) = true := by decide +kernel
theorem ck_150 : tb_150.all (chkE (8, yX8_findDifferences, cX8_findDifferences, 4, none, 1, false)) = true := by decide +kernel
theorem ck_151 : tb_151.all (chkE (8, yX8_steps, cX8_steps, 4, (some .boolean), 1, false)) = true := by decide +kernel
theorem ck_152 : tb_152.all (chkE (8, yX8_findBest, cX8_findBest, 5, none, 1, false)) = true := by decide +kernel
theorem ck_153 : tb_153.all (chkE (8, yX8_find, cX8_find, 2, none, 2, false)) = true := by decide +kernel
theorem ck_154 : tb_154.all (chkE (8, yX8_takeFound, cX8_takeFound, 2, none, 1, false)) = true := by decide +kernel
theorem ck_155 : tb_155.all (chkE (8, yX8_byTurns, cX8_byTurns, 1, none, 1, false)) = true := by decide +kernel
theorem ck_156 : tb_156.all (chkE (8, yX8_isWay, cX8_isWay, 2, (some .boolean), 2, false)) = true := by decide +kernel
theorem ck_157 : tb_157.all (chkE (8, yX8_isTooMuch, cX8_isTooMuch, 2, (some .boolean), 2, false)) = true := by decide +kernel
theorem ck_158 : tb_158.all (chkE (8, yX8_take, cX8_take, 2, (some .int), 2, false)) = true := by decide +kernel
theorem ck_159 : tb_159.all (chkE (8, yX8_moved, cX8_moved, 3, (some .int), 1, false)) = true := by decide +kernel
theorem ck_160 : tb_160.all (chkE (8, yX8_would, cX8_would, 3, (some .int), 3, false)) = true := by decide +kernel
theorem ck_161 : tb_161.all (chkE (8, yX8_where, cX8_where, 3, (some .int), 3, false)) = true := by decide +kernel
theorem ck_162 : tb_162.all (chkE (8, yX8_boundNow, cX8_boundNow, 1, (some .int), 1, false)) = true := by decide +kernel
theorem ck_163 : tb_163.all (chkE (8, yX8_reaching, cX8_reaching, 3, (some .int), 1, false)) = true := by decide +kernel
theorem ck_164 : tb_164.all (chkE (8, yX8_bound, cX8_bound, 2, (some .int), 2, false)) = true := by decide +kernel
theorem ck_165 : tb_165.all (chkE (8, yX8_joined, cX8_joined, 2, (some .int), 2, false)) = true := by decide +kernel
theorem ck_166 : tb_166.all (chkE (8, yX8_move, cX8_move, 4, (some .int), 3, false)) = true := by decide +kernel
theorem ck_167 : tb_167.all (chkE (8, yX8_exchange, cX8_exchange, 4, none, 3, false)) = true := by decide +kernel
theorem ck_168 : tb_168.all (chkE (8, yX8_swap, cX8_swap, 3, (some .int), 3, false)) = true := by decide +kernel
theorem ck_169 : tb_169.all (chkE (8, yX8_better, cX8_better, 5, (some .int), 1, false)) = true := by decide +kernel
theorem ck_170 : tb_170.all (chkE (8, yX8_comes, cX8_comes, 4, none, 2, false)) = true := by decide +kernel
theorem ck_171 : tb_171.all (chkE (8, yX8_add, cX8_add, 2, (some .int), 2, false)) = true := by decide +kernel
theorem ck_172 : tb_172.all (chkE (8, yX8_drop, cX8_drop, 3, (some .int), 2, false)) = true := by decide +kernel
theorem ck_173 : tb_173.all (chkE (8, yX8_set, cX8_set, 4, (some .int), 3, false)) = true := by decide +kernel
theorem ck_174 : tb_174.all (chkE (8, yX8_rate, cX8_rate, 4, (some .int), 3, false)) = true := by decide +kernel
theorem ck_175 : tb_175.all (chkE (8, yX8_groups, cX8_groups, 3, (some .int), 2, false)) = true := by decide +kernel
theorem ck_176 : tb_176.all (chkE (8, yX8_ticks, cX8_ticks, 6, (some .boolean), 1, false)) = true := by decide +kernel
theorem ck_177 : tb_177.all (chkE (8, yX8_ticksOn, cX8_ticksOn, 3, (some .int), 2, false)) = true := by decide +kernel
theorem ck_178 : tb_178.all (chkE (8, yX8_bleed, cX8_bleed, 2, (some .int), 2, false)) = true := by decide +kernel
theorem ck_179 : tb_179.all (chkE (8, yX8_plan, cX8_plan, 6, (some .int), 2, false)) = true := by decide +kernel
theorem ck_180 : tb_180.all (chkE (8, yX8_fill, cX8_fill, 3, (some .int), 1, false)) = true := by decide +kernel
theorem ck_181 : tb_181.all (chkE (8, yX8_draw, cX8_draw, 5, (some .int), 3, false)) = true := by decide +kernel
theorem ck_182 : tb_182.all (chkE (8, yX8_keepBefore, cX8_keepBefore, 2, none, 1, false)) = true := by decide +kernel
theorem ck_183 : tb_183.all (chkE (8, yX8_backBefore, cX8_backBefore, 2, none, 1, false)) = true := by decide +kernel
theorem ck_184 : tb_184.all (chkE (8, yX8_keep, cX8_keep, 4, (some .int), 2, false)) = true := by decide +kernel
theorem ck_185 : tb_185.all (chkE (8, yX8_back, cX8_back, 3, (some .int), 2, false)) = true := by decide +kernel
theorem ck_186 : tb_186.all (chkE (8, yX8_isSheet, cX8_isSheet, 2, (some .boolean), 2, true)) = true := by decide +kernel
theorem ck_187 : tb_187.all (chkE (8, yX8_sheet, cX8_sheet, 5, (some .int), 4, false)) = true := by decide +kernel
theorem ck_188 : tb_188.all (chkE (8, yX8_lay, cX8_lay, 4, (some .int), 4, false)) = true := by decide +kernel
theorem ck_189 : tb_189.all (chkE (8, yX8_read, cX8_read, 11, (some .int), 5, false)) = true := by decide +kernel
theorem ck_190 : tb_190.all (chkE (8, yX8_torn, cX8_torn, 1, (some .int), 1, false)) = true := by decide +kernel
theorem ck_191 : tb_191.all (chkE (8, yX8_emptyGroups, cX8_emptyGroups, 3, (some .int), 1, false)) = true := by decide +kernel
theorem ck_192 : tb_192.all (chkE (8, yX8_bledCells, cX8_bledCells, 3, (some .int), 1, false)) = true := by decide +kernel
theorem ck_193 : tb_193.all (chkE (8, yX8_greatestCharge, cX8_greatestCharge, 3, (some .int), 1, false)) = true := by decide +kernel
theorem ck_194 : tb_194.all (chkE (8, yX8_count, cX8_count, 2, (some .int), 2, false)) = true := by decide +kernel
theorem ck_195 : tb_195.all (chkE (10, yJ6_bitCount_0f7a4, cJ6_bitCount_0f7a4, 1, (some .int), 1, true)) = true := by decide +kernel
theorem ck_196 : tb_196.all (chkE (9, yJ7_fill_53178, cJ7_fill_53178, 4, none, 2, true)) = true := by decide +kernel
def ckP (q : List EN × MI) : Prop := q.1.all (chkE q.2) = true
theorem ckc_0 : ∀ q ∈ [((tb_0, (0, yX0_chooseHomes, cX0_chooseHomes, 3, none, 3, false)) : List EN × MI), ((tb_1, (0, yX0_tryCell, cX0_tryCell, 7, none, 5, false)) : List EN × MI), ((tb_2, (0, yX0_lacking, cX0_lacking, 4, (some .int), 2, false)) : List EN × MI), ((tb_3, (0, yX0_judge, cX0_judge, 4, none, 2, false)) : List EN × MI), ((tb_4, (1, yX1_chooseHomes, cX1_chooseHomes, 4, none, 3, false)) : List EN × MI), ((tb_5, (1, yX1_begin, cX1_begin, 3, none, 2, false)) : List EN × MI), ((tb_6, (1, yX1_joinTwo, cX1_joinTwo, 3, none, 1, false)) : List EN × MI), ((tb_7, (1, yX1_widestBut, cX1_widestBut, 4, (some .int), 2, false)) : List EN × MI), ((tb_8, (1, yX1_width, cX1_width, 2, (some .int), 2, false)) : List EN × MI), ((tb_9, (1, yX1_merge, cX1_merge, 5, none, 3, false)) : List EN × MI), ((tb_10, (1, yX1_isAhead, cX1_isAhead, 6, (some .boolean), 4, false)) : List EN × MI), ((tb_11, (1, yX1_exchange, cX1_exchange, 3, none, 2, true)) : List EN × MI), ((tb_12, (1, yX1_bundleOf, cX1_bundleOf, 3, (some .int), 2, false)) : List EN × MI), ((tb_13, (2, yX2_reset, cX2_reset, 1, none, 1, false)) : List EN × MI), ((tb_14, (2, yX2_copyFrom, cX2_copyFrom, 2, none, 2, false)) : List EN × MI), ((tb_15, (2, yX2_append, cX2_append, 3, none, 3, false)) : List EN × MI), ((tb_16, (2, yX2_removeAt, cX2_removeAt, 3, none, 2, false)) : List EN × MI), ((tb_17, (2, yX2_sumOf, cX2_sumOf, 2, (some .int), 2, false)) : List EN × MI), ((tb_18, (2, yX2_weakest, cX2_weakest, 1, (some .int), 1, false)) : List EN × MI), ((tb_19, (2, yX2_leastSum, cX2_leastSum, 1, (some .int), 1, false)) : List EN × MI), ((tb_20, (2, yX2_leastSumOfCharges, cX2_leastSumOfCharges, 1, (some .int), 1, false)) : List EN × MI), ((tb_21, (2, yX2_spread, cX2_spread, 2, (some .int), 1, false)) : List EN × MI), ((tb_22, (2, yX2_leastSumExchanged, cX2_leastSumExchanged, 3, (some .int), 3, false)) : List EN × MI), ((tb_23, (2, yX2_rankByCharge, cX2_rankByCharge, 4, (some .int), 2, false)) : List EN × MI), ((tb_24, (2, yX2_bitsOf, cX2_bitsOf, 4, (some .int), 2, false)) : List EN × MI)], ckP q := List.forall_mem_cons.mpr ⟨ck_0, List.forall_mem_cons.mpr ⟨ck_1, List.forall_mem_cons.mpr ⟨ck_2, List.forall_mem_cons.mpr ⟨ck_3, List.forall_mem_cons.mpr ⟨ck_4, List.forall_mem_cons.mpr ⟨ck_5, List.forall_mem_cons.mpr ⟨ck_6, List.forall_mem_cons.mpr ⟨ck_7, List.forall_mem_cons.mpr ⟨ck_8, List.forall_mem_cons.mpr ⟨ck_9, List.forall_mem_cons.mpr ⟨ck_10, List.forall_mem_cons.mpr ⟨ck_11, List.forall_mem_cons.mpr ⟨ck_12, List.forall_mem_cons.mpr ⟨ck_13, List.forall_mem_cons.mpr ⟨ck_14, List.forall_mem_cons.mpr ⟨ck_15, List.forall_mem_cons.mpr ⟨ck_16, List.forall_mem_cons.mpr ⟨ck_17, List.forall_mem_cons.mpr ⟨ck_18, List.forall_mem_cons.mpr ⟨ck_19, List.forall_mem_cons.mpr ⟨ck_20, List.forall_mem_cons.mpr ⟨ck_21, List.forall_mem_cons.mpr ⟨ck_22, List.forall_mem_cons.mpr ⟨ck_23, List.forall_mem_cons.mpr ⟨ck_24, List.forall_mem_nil _⟩⟩⟩⟩⟩⟩⟩⟩⟩⟩⟩⟩⟩⟩⟩⟩⟩⟩⟩⟩⟩⟩⟩⟩⟩
theorem ckc_1 : ∀ q ∈ [((tb_25, (2, yX2_strongestOf, cX2_strongestOf, 4, (some .int), 2, false)) : List EN × MI), ((tb_26, (2, yX2_aboveFloor, cX2_aboveFloor, 4, (some .int), 2, false)) : List EN × MI), ((tb_27, (2, yX2_emptyGroups, cX2_emptyGroups, 3, (some .int), 1, false)) : List EN × MI), ((tb_28, (2, yX2_bledCells, cX2_bledCells, 3, (some .int), 1, false)) : List EN × MI), ((tb_29, (2, yX2_greatestCharge, cX2_greatestCharge, 3, (some .int), 1, false)) : List EN × MI), ((tb_30, (2, yX2_runTicks, cX2_runTicks, 3, (some .int), 2, false)) : List EN × MI), ((tb_31, (2, yX2_tickLoses, cX2_tickLoses, 4, (some .boolean), 1, false)) : List EN × MI), ((tb_32, (2, yX2_strongestLoses, cX2_strongestLoses, 3, (some .boolean), 2, false)) : List EN × MI), ((tb_33, (3, yX3_renew, cX3_renew, 3, none, 3, false)) : List EN × MI), ((tb_34, (3, yX3_putAt, cX3_putAt, 3, (some .int), 3, false)) : List EN × MI), ((tb_35, (3, yX3_wholePairs, cX3_wholePairs, 4, (some .int), 4, false)) : List EN × MI), ((tb_36, (3, yX3_faultAs, cX3_faultAs, 2, (some .int), 2, false)) : List EN × MI), ((tb_37, (4, yX4_byteAt, cX4_byteAt, 2, (some .int), 2, false)) : List EN × MI), ((tb_38, (4, yX4_spells, cX4_spells, 5, (some .boolean), 4, false)) : List EN × MI), ((tb_39, (5, yX5_readAll, cX5_readAll, 3, none, 1, false)) : List EN × MI), ((tb_40, (5, yX5_readLine, cX5_readLine, 2, (some .boolean), 1, false)) : List EN × MI), ((tb_41, (5, yX5_lineNamed, cX5_lineNamed, 2, (some .int), 1, false)) : List EN × MI), ((tb_42, (5, yX5_nameOf, cX5_nameOf, 1, (some (.object "java/lang/String")), 1, true)) : List EN × MI), ((tb_43, (5, yX5_readSetting, cX5_readSetting, 2, (some .boolean), 2, false)) : List EN × MI), ((tb_44, (5, yX5_lowestOf, cX5_lowestOf, 1, (some .int), 1, true)) : List EN × MI), ((tb_45, (5, yX5_highestOf, cX5_highestOf, 1, (some .int), 1, true)) : List EN × MI), ((tb_46, (5, yX5_putSetting, cX5_putSetting, 2, none, 2, false)) : List EN × MI), ((tb_47, (5, yX5_readCells, cX5_readCells, 2, (some .boolean), 1, false)) : List EN × MI), ((tb_48, (5, yX5_nextToken, cX5_nextToken, 2, (some .boolean), 1, false)) : List EN × MI), ((tb_49, (5, yX5_passRun, cX5_passRun, 3, none, 3, false)) : List EN × MI)], ckP q := List.forall_mem_cons.mpr ⟨ck_25, List.forall_mem_cons.mpr ⟨ck_26, List.forall_mem_cons.mpr ⟨ck_27, List.forall_mem_cons.mpr ⟨ck_28, List.forall_mem_cons.mpr ⟨ck_29, List.forall_mem_cons.mpr ⟨ck_30, List.forall_mem_cons.mpr ⟨ck_31, List.forall_mem_cons.mpr ⟨ck_32, List.forall_mem_cons.mpr ⟨ck_33, List.forall_mem_cons.mpr ⟨ck_34, List.forall_mem_cons.mpr ⟨ck_35, List.forall_mem_cons.mpr ⟨ck_36, List.forall_mem_cons.mpr ⟨ck_37, List.forall_mem_cons.mpr ⟨ck_38, List.forall_mem_cons.mpr ⟨ck_39, List.forall_mem_cons.mpr ⟨ck_40, List.forall_mem_cons.mpr ⟨ck_41, List.forall_mem_cons.mpr ⟨ck_42, List.forall_mem_cons.mpr ⟨ck_43, List.forall_mem_cons.mpr ⟨ck_44, List.forall_mem_cons.mpr ⟨ck_45, List.forall_mem_cons.mpr ⟨ck_46, List.forall_mem_cons.mpr ⟨ck_47, List.forall_mem_cons.mpr ⟨ck_48, List.forall_mem_cons.mpr ⟨ck_49, List.forall_mem_nil _⟩⟩⟩⟩⟩⟩⟩⟩⟩⟩⟩⟩⟩⟩⟩⟩⟩⟩⟩⟩⟩⟩⟩⟩⟩
theorem ckc_2 : ∀ q ∈ [((tb_50, (5, yX5_takeValue, cX5_takeValue, 2, (some .boolean), 1, false)) : List EN × MI), ((tb_51, (5, yX5_fail, cX5_fail, 2, (some .boolean), 2, false)) : List EN × MI), ((tb_52, (6, yX6_choose, cX6_choose, 3, none, 3, false)) : List EN × MI), ((tb_53, (6, yX6_byTurns, cX6_byTurns, 3, none, 2, false)) : List EN × MI), ((tb_54, (6, yX6_byWeakest, cX6_byWeakest, 4, none, 2, false)) : List EN × MI), ((tb_55, (6, yX6_leastSum, cX6_leastSum, 2, (some .int), 2, false)) : List EN × MI), ((tb_56, (6, yX6_spread, cX6_spread, 3, (some .int), 2, false)) : List EN × MI), ((tb_57, (6, yX6_strangers, cX6_strangers, 4, (some .int), 2, false)) : List EN × MI), ((tb_58, (7, yX7_feed, cX7_feed, 2, (some .int), 2, false)) : List EN × MI), ((tb_59, (7, yX7_end, cX7_end, 3, (some .int), 2, false)) : List EN × MI), ((tb_60, (7, yX7_text, cX7_text, 1, (some .int), 1, false)) : List EN × MI), ((tb_61, (7, yX7_fault, cX7_fault, 1, (some .int), 1, false)) : List EN × MI), ((tb_62, (7, yX7_rule, cX7_rule, 2, (some .int), 2, false)) : List EN × MI), ((tb_63, (7, yX7_cell, cX7_cell, 3, (some .int), 3, false)) : List EN × MI), ((tb_64, (7, yX7_group, cX7_group, 3, (some .int), 3, false)) : List EN × MI), ((tb_65, (7, yX7_take, cX7_take, 2, (some .int), 2, false)) : List EN × MI), ((tb_66, (7, yX7_would, cX7_would, 3, (some .int), 3, false)) : List EN × MI), ((tb_67, (7, yX7_where, cX7_where, 3, (some .int), 3, false)) : List EN × MI), ((tb_68, (7, yX7_bound, cX7_bound, 3, (some .int), 2, false)) : List EN × MI), ((tb_69, (7, yX7_joined, cX7_joined, 2, (some .int), 2, false)) : List EN × MI), ((tb_70, (7, yX7_move, cX7_move, 4, (some .int), 3, false)) : List EN × MI), ((tb_71, (7, yX7_swap, cX7_swap, 4, (some .int), 3, false)) : List EN × MI), ((tb_72, (7, yX7_better, cX7_better, 6, (some .int), 1, false)) : List EN × MI), ((tb_73, (7, yX7_add, cX7_add, 2, (some .int), 2, false)) : List EN × MI), ((tb_74, (7, yX7_drop, cX7_drop, 2, (some .int), 2, false)) : List EN × MI)], ckP q := List.forall_mem_cons.mpr ⟨ck_50, List.forall_mem_cons.mpr ⟨ck_51, List.forall_mem_cons.mpr ⟨ck_52, List.forall_mem_cons.mpr ⟨ck_53, List.forall_mem_cons.mpr ⟨ck_54, List.forall_mem_cons.mpr ⟨ck_55, List.forall_mem_cons.mpr ⟨ck_56, List.forall_mem_cons.mpr ⟨ck_57, List.forall_mem_cons.mpr ⟨ck_58, List.forall_mem_cons.mpr ⟨ck_59, List.forall_mem_cons.mpr ⟨ck_60, List.forall_mem_cons.mpr ⟨ck_61, List.forall_mem_cons.mpr ⟨ck_62, List.forall_mem_cons.mpr ⟨ck_63, List.forall_mem_cons.mpr ⟨ck_64, List.forall_mem_cons.mpr ⟨ck_65, List.forall_mem_cons.mpr ⟨ck_66, List.forall_mem_cons.mpr ⟨ck_67, List.forall_mem_cons.mpr ⟨ck_68, List.forall_mem_cons.mpr ⟨ck_69, List.forall_mem_cons.mpr ⟨ck_70, List.forall_mem_cons.mpr ⟨ck_71, List.forall_mem_cons.mpr ⟨ck_72, List.forall_mem_cons.mpr ⟨ck_73, List.forall_mem_cons.mpr ⟨ck_74, List.forall_mem_nil _⟩⟩⟩⟩⟩⟩⟩⟩⟩⟩⟩⟩⟩⟩⟩⟩⟩⟩⟩⟩⟩⟩⟩⟩⟩
theorem ckc_3 : ∀ q ∈ [((tb_75, (7, yX7_set, cX7_set, 4, (some .int), 3, false)) : List EN × MI), ((tb_76, (7, yX7_rate, cX7_rate, 4, (some .int), 3, false)) : List EN × MI), ((tb_77, (7, yX7_groups, cX7_groups, 3, (some .int), 2, false)) : List EN × MI), ((tb_78, (7, yX7_bleed, cX7_bleed, 2, (some .int), 2, false)) : List EN × MI), ((tb_79, (7, yX7_plan, cX7_plan, 3, (some .int), 2, false)) : List EN × MI), ((tb_80, (7, yX7_fill, cX7_fill, 2, (some .int), 1, false)) : List EN × MI), ((tb_81, (7, yX7_draw, cX7_draw, 7, (some .int), 3, false)) : List EN × MI), ((tb_82, (7, yX7_keep, cX7_keep, 3, (some .int), 2, false)) : List EN × MI), ((tb_83, (7, yX7_back, cX7_back, 2, (some .int), 2, false)) : List EN × MI), ((tb_84, (7, yX7_sheet, cX7_sheet, 4, (some .int), 4, false)) : List EN × MI), ((tb_85, (7, yX7_lay, cX7_lay, 5, (some .int), 4, false)) : List EN × MI), ((tb_86, (7, yX7_read, cX7_read, 8, (some .int), 5, false)) : List EN × MI), ((tb_87, (7, yX7_torn, cX7_torn, 1, (some .int), 1, false)) : List EN × MI), ((tb_88, (7, yX7_count, cX7_count, 2, (some .int), 2, false)) : List EN × MI), ((tb_89, (7, yX7_within, cX7_within, 3, (some .boolean), 3, true)) : List EN × MI), ((tb_90, (7, yX7_isCell, cX7_isCell, 2, (some .boolean), 2, false)) : List EN × MI), ((tb_91, (7, yX7_isGroup, cX7_isGroup, 2, (some .boolean), 2, false)) : List EN × MI), ((tb_92, (7, yX7_isWay, cX7_isWay, 1, (some .boolean), 1, true)) : List EN × MI), ((tb_93, (7, yX7_wayIsOpen, cX7_wayIsOpen, 2, (some .boolean), 2, false)) : List EN × MI), ((tb_94, (7, yX7_isImage, cX7_isImage, 1, (some .boolean), 1, true)) : List EN × MI), ((tb_95, (7, yX7_isSheet, cX7_isSheet, 1, (some .boolean), 1, true)) : List EN × MI), ((tb_96, (7, yX7_isLane, cX7_isLane, 1, (some .boolean), 1, true)) : List EN × MI), ((tb_97, (7, yX7_regroup, cX7_regroup, 2, none, 2, false)) : List EN × MI), ((tb_98, (7, yX7_waysThatReach, cX7_waysThatReach, 4, (some .int), 2, false)) : List EN × MI), ((tb_99, (7, yX7_forgetImages, cX7_forgetImages, 2, none, 1, false)) : List EN × MI)], ckP q := List.forall_mem_cons.mpr ⟨ck_75, List.forall_mem_cons.mpr ⟨ck_76, List.forall_mem_cons.mpr ⟨ck_77, List.forall_mem_cons.mpr ⟨ck_78, List.forall_mem_cons.mpr ⟨ck_79, List.forall_mem_cons.mpr ⟨ck_80, List.forall_mem_cons.mpr ⟨ck_81, List.forall_mem_cons.mpr ⟨ck_82, List.forall_mem_cons.mpr ⟨ck_83, List.forall_mem_cons.mpr ⟨ck_84, List.forall_mem_cons.mpr ⟨ck_85, List.forall_mem_cons.mpr ⟨ck_86, List.forall_mem_cons.mpr ⟨ck_87, List.forall_mem_cons.mpr ⟨ck_88, List.forall_mem_cons.mpr ⟨ck_89, List.forall_mem_cons.mpr ⟨ck_90, List.forall_mem_cons.mpr ⟨ck_91, List.forall_mem_cons.mpr ⟨ck_92, List.forall_mem_cons.mpr ⟨ck_93, List.forall_mem_cons.mpr ⟨ck_94, List.forall_mem_cons.mpr ⟨ck_95, List.forall_mem_cons.mpr ⟨ck_96, List.forall_mem_cons.mpr ⟨ck_97, List.forall_mem_cons.mpr ⟨ck_98, List.forall_mem_cons.mpr ⟨ck_99, List.forall_mem_nil _⟩⟩⟩⟩⟩⟩⟩⟩⟩⟩⟩⟩⟩⟩⟩⟩⟩⟩⟩⟩⟩⟩⟩⟩⟩
theorem ckc_4 : ∀ q ∈ [((tb_100, (7, yX7_keptImages, cX7_keptImages, 3, (some .int), 1, false)) : List EN × MI), ((tb_101, (7, yX7_total, cX7_total, 4, (some .int), 2, true)) : List EN × MI), ((tb_102, (7, yX7_sumUp, cX7_sumUp, 5, none, 4, true)) : List EN × MI), ((tb_103, (7, yX7_firstLeast, cX7_firstLeast, 4, (some .int), 2, true)) : List EN × MI), ((tb_104, (7, yX7_greatest, cX7_greatest, 4, (some .int), 2, true)) : List EN × MI), ((tb_105, (8, yX8_init, cX8_init, 2, none, 1, false)) : List EN × MI), ((tb_106, (8, yX8_in, cX8_in, 6, (some .boolean), 3, true)) : List EN × MI), ((tb_107, (8, yX8_flag, cX8_flag, 1, (some .int), 1, true)) : List EN × MI), ((tb_108, (8, yX8_firstDraft, cX8_firstDraft, 2, none, 1, false)) : List EN × MI), ((tb_109, (8, yX8_feed, cX8_feed, 2, (some .int), 2, false)) : List EN × MI), ((tb_110, (8, yX8_end, cX8_end, 3, (some .int), 2, false)) : List EN × MI), ((tb_111, (8, yX8_requires, cX8_requires, 3, none, 3, false)) : List EN × MI), ((tb_112, (8, yX8_byteAt, cX8_byteAt, 2, (some .int), 2, false)) : List EN × MI), ((tb_113, (8, yX8_is, cX8_is, 6, (some .boolean), 6, false)) : List EN × MI), ((tb_114, (8, yX8_lineNow, cX8_lineNow, 1, (some .int), 1, false)) : List EN × MI), ((tb_115, (8, yX8_reads, cX8_reads, 2, none, 1, false)) : List EN × MI), ((tb_116, (8, yX8_leastOf, cX8_leastOf, 1, (some .int), 1, true)) : List EN × MI), ((tb_117, (8, yX8_mostOf, cX8_mostOf, 1, (some .int), 1, true)) : List EN × MI), ((tb_118, (8, yX8_readNumber, cX8_readNumber, 4, (some .int), 3, false)) : List EN × MI), ((tb_119, (8, yX8_readCell, cX8_readCell, 2, none, 1, false)) : List EN × MI), ((tb_120, (8, yX8_readLine, cX8_readLine, 2, none, 1, false)) : List EN × MI), ((tb_121, (8, yX8_text, cX8_text, 2, (some .int), 1, false)) : List EN × MI), ((tb_122, (8, yX8_fault, cX8_fault, 1, (some .int), 1, false)) : List EN × MI), ((tb_123, (8, yX8_isCell, cX8_isCell, 2, (some .boolean), 2, false)) : List EN × MI), ((tb_124, (8, yX8_isGroup, cX8_isGroup, 2, (some .boolean), 2, false)) : List EN × MI)], ckP q := List.forall_mem_cons.mpr ⟨ck_100, List.forall_mem_cons.mpr ⟨ck_101, List.forall_mem_cons.mpr ⟨ck_102, List.forall_mem_cons.mpr ⟨ck_103, List.forall_mem_cons.mpr ⟨ck_104, List.forall_mem_cons.mpr ⟨ck_105, List.forall_mem_cons.mpr ⟨ck_106, List.forall_mem_cons.mpr ⟨ck_107, List.forall_mem_cons.mpr ⟨ck_108, List.forall_mem_cons.mpr ⟨ck_109, List.forall_mem_cons.mpr ⟨ck_110, List.forall_mem_cons.mpr ⟨ck_111, List.forall_mem_cons.mpr ⟨ck_112, List.forall_mem_cons.mpr ⟨ck_113, List.forall_mem_cons.mpr ⟨ck_114, List.forall_mem_cons.mpr ⟨ck_115, List.forall_mem_cons.mpr ⟨ck_116, List.forall_mem_cons.mpr ⟨ck_117, List.forall_mem_cons.mpr ⟨ck_118, List.forall_mem_cons.mpr ⟨ck_119, List.forall_mem_cons.mpr ⟨ck_120, List.forall_mem_cons.mpr ⟨ck_121, List.forall_mem_cons.mpr ⟨ck_122, List.forall_mem_cons.mpr ⟨ck_123, List.forall_mem_cons.mpr ⟨ck_124, List.forall_mem_nil _⟩⟩⟩⟩⟩⟩⟩⟩⟩⟩⟩⟩⟩⟩⟩⟩⟩⟩⟩⟩⟩⟩⟩⟩⟩
theorem ckc_5 : ∀ q ∈ [((tb_125, (8, yX8_sumNow, cX8_sumNow, 3, none, 2, false)) : List EN × MI), ((tb_126, (8, yX8_sumFound, cX8_sumFound, 2, none, 1, false)) : List EN × MI), ((tb_127, (8, yX8_weakest, cX8_weakest, 3, (some .int), 1, false)) : List EN × MI), ((tb_128, (8, yX8_least, cX8_least, 1, (some .int), 1, false)) : List EN × MI), ((tb_129, (8, yX8_greatest, cX8_greatest, 3, (some .int), 1, false)) : List EN × MI), ((tb_130, (8, yX8_spreadNow, cX8_spreadNow, 1, (some .int), 1, false)) : List EN × MI), ((tb_131, (8, yX8_all, cX8_all, 4, (some .int), 2, false)) : List EN × MI), ((tb_132, (8, yX8_weakestNow, cX8_weakestNow, 1, (some .int), 1, false)) : List EN × MI), ((tb_133, (8, yX8_leastNow, cX8_leastNow, 2, (some .int), 2, false)) : List EN × MI), ((tb_134, (8, yX8_rule, cX8_rule, 2, (some .int), 2, false)) : List EN × MI), ((tb_135, (8, yX8_rankOf, cX8_rankOf, 4, (some .int), 2, false)) : List EN × MI), ((tb_136, (8, yX8_cell, cX8_cell, 3, (some .int), 3, false)) : List EN × MI), ((tb_137, (8, yX8_strongest, cX8_strongest, 4, (some .int), 2, false)) : List EN × MI), ((tb_138, (8, yX8_cellsOf, cX8_cellsOf, 5, (some .int), 3, false)) : List EN × MI), ((tb_139, (8, yX8_aboveFloor, cX8_aboveFloor, 4, (some .int), 2, false)) : List EN × MI), ((tb_140, (8, yX8_sumOf, cX8_sumOf, 2, (some .int), 2, false)) : List EN × MI), ((tb_141, (8, yX8_group, cX8_group, 3, (some .int), 3, false)) : List EN × MI), ((tb_142, (8, yX8_findTurns, cX8_findTurns, 2, none, 1, false)) : List EN × MI), ((tb_143, (8, yX8_findWeakest, cX8_findWeakest, 4, none, 1, false)) : List EN × MI), ((tb_144, (8, yX8_holds, cX8_holds, 4, (some .int), 2, false)) : List EN × MI), ((tb_145, (8, yX8_isAhead, cX8_isAhead, 5, (some .boolean), 3, false)) : List EN × MI), ((tb_146, (8, yX8_differenceOf, cX8_differenceOf, 2, (some .int), 2, false)) : List EN × MI), ((tb_147, (8, yX8_widest, cX8_widest, 4, (some .int), 2, false)) : List EN × MI), ((tb_148, (8, yX8_order, cX8_order, 6, none, 2, false)) : List EN × MI), ((tb_149, (8, yX8_join, cX8_join, 6, none, 3, false)) : List EN × MI)], ckP q := List.forall_mem_cons.mpr ⟨ck_125, List.forall_mem_cons.mpr ⟨ck_126, List.forall_mem_cons.mpr ⟨ck_127, List.forall_mem_cons.mpr ⟨ck_128, List.forall_mem_cons.mpr ⟨ck_129, List.forall_mem_cons.mpr ⟨ck_130, List.forall_mem_cons.mpr ⟨ck_131, List.forall_mem_cons.mpr ⟨ck_132, List.forall_mem_cons.mpr ⟨ck_133, List.forall_mem_cons.mpr ⟨ck_134, List.forall_mem_cons.mpr ⟨ck_135, List.forall_mem_cons.mpr ⟨ck_136, List.forall_mem_cons.mpr ⟨ck_137, List.forall_mem_cons.mpr ⟨ck_138, List.forall_mem_cons.mpr ⟨ck_139, List.forall_mem_cons.mpr ⟨ck_140, List.forall_mem_cons.mpr ⟨ck_141, List.forall_mem_cons.mpr ⟨ck_142, List.forall_mem_cons.mpr ⟨ck_143, List.forall_mem_cons.mpr ⟨ck_144, List.forall_mem_cons.mpr ⟨ck_145, List.forall_mem_cons.mpr ⟨ck_146, List.forall_mem_cons.mpr ⟨ck_147, List.forall_mem_cons.mpr ⟨ck_148, List.forall_mem_cons.mpr ⟨ck_149, List.forall_mem_nil _⟩⟩⟩⟩⟩⟩⟩⟩⟩⟩⟩⟩⟩⟩⟩⟩⟩⟩⟩⟩⟩⟩⟩⟩⟩
theorem ckc_6 : ∀ q ∈ [((tb_150, (8, yX8_findDifferences, cX8_findDifferences, 4, none, 1, false)) : List EN × MI), ((tb_151, (8, yX8_steps, cX8_steps, 4, (some .boolean), 1, false)) : List EN × MI), ((tb_152, (8, yX8_findBest, cX8_findBest, 5, none, 1, false)) : List EN × MI), ((tb_153, (8, yX8_find, cX8_find, 2, none, 2, false)) : List EN × MI), ((tb_154, (8, yX8_takeFound, cX8_takeFound, 2, none, 1, false)) : List EN × MI), ((tb_155, (8, yX8_byTurns, cX8_byTurns, 1, none, 1, false)) : List EN × MI), ((tb_156, (8, yX8_isWay, cX8_isWay, 2, (some .boolean), 2, false)) : List EN × MI), ((tb_157, (8, yX8_isTooMuch, cX8_isTooMuch, 2, (some .boolean), 2, false)) : List EN × MI), ((tb_158, (8, yX8_take, cX8_take, 2, (some .int), 2, false)) : List EN × MI), ((tb_159, (8, yX8_moved, cX8_moved, 3, (some .int), 1, false)) : List EN × MI), ((tb_160, (8, yX8_would, cX8_would, 3, (some .int), 3, false)) : List EN × MI), ((tb_161, (8, yX8_where, cX8_where, 3, (some .int), 3, false)) : List EN × MI), ((tb_162, (8, yX8_boundNow, cX8_boundNow, 1, (some .int), 1, false)) : List EN × MI), ((tb_163, (8, yX8_reaching, cX8_reaching, 3, (some .int), 1, false)) : List EN × MI), ((tb_164, (8, yX8_bound, cX8_bound, 2, (some .int), 2, false)) : List EN × MI), ((tb_165, (8, yX8_joined, cX8_joined, 2, (some .int), 2, false)) : List EN × MI), ((tb_166, (8, yX8_move, cX8_move, 4, (some .int), 3, false)) : List EN × MI), ((tb_167, (8, yX8_exchange, cX8_exchange, 4, none, 3, false)) : List EN × MI), ((tb_168, (8, yX8_swap, cX8_swap, 3, (some .int), 3, false)) : List EN × MI), ((tb_169, (8, yX8_better, cX8_better, 5, (some .int), 1, false)) : List EN × MI), ((tb_170, (8, yX8_comes, cX8_comes, 4, none, 2, false)) : List EN × MI), ((tb_171, (8, yX8_add, cX8_add, 2, (some .int), 2, false)) : List EN × MI), ((tb_172, (8, yX8_drop, cX8_drop, 3, (some .int), 2, false)) : List EN × MI), ((tb_173, (8, yX8_set, cX8_set, 4, (some .int), 3, false)) : List EN × MI), ((tb_174, (8, yX8_rate, cX8_rate, 4, (some .int), 3, false)) : List EN × MI)], ckP q := List.forall_mem_cons.mpr ⟨ck_150, List.forall_mem_cons.mpr ⟨ck_151, List.forall_mem_cons.mpr ⟨ck_152, List.forall_mem_cons.mpr ⟨ck_153, List.forall_mem_cons.mpr ⟨ck_154, List.forall_mem_cons.mpr ⟨ck_155, List.forall_mem_cons.mpr ⟨ck_156, List.forall_mem_cons.mpr ⟨ck_157, List.forall_mem_cons.mpr ⟨ck_158, List.forall_mem_cons.mpr ⟨ck_159, List.forall_mem_cons.mpr ⟨ck_160, List.forall_mem_cons.mpr ⟨ck_161, List.forall_mem_cons.mpr ⟨ck_162, List.forall_mem_cons.mpr ⟨ck_163, List.forall_mem_cons.mpr ⟨ck_164, List.forall_mem_cons.mpr ⟨ck_165, List.forall_mem_cons.mpr ⟨ck_166, List.forall_mem_cons.mpr ⟨ck_167, List.forall_mem_cons.mpr ⟨ck_168, List.forall_mem_cons.mpr ⟨ck_169, List.forall_mem_cons.mpr ⟨ck_170, List.forall_mem_cons.mpr ⟨ck_171, List.forall_mem_cons.mpr ⟨ck_172, List.forall_mem_cons.mpr ⟨ck_173, List.forall_mem_cons.mpr ⟨ck_174, List.forall_mem_nil _⟩⟩⟩⟩⟩⟩⟩⟩⟩⟩⟩⟩⟩⟩⟩⟩⟩⟩⟩⟩⟩⟩⟩⟩⟩
theorem ckc_7 : ∀ q ∈ [((tb_175, (8, yX8_groups, cX8_groups, 3, (some .int), 2, false)) : List EN × MI), ((tb_176, (8, yX8_ticks, cX8_ticks, 6, (some .boolean), 1, false)) : List EN × MI), ((tb_177, (8, yX8_ticksOn, cX8_ticksOn, 3, (some .int), 2, false)) : List EN × MI), ((tb_178, (8, yX8_bleed, cX8_bleed, 2, (some .int), 2, false)) : List EN × MI), ((tb_179, (8, yX8_plan, cX8_plan, 6, (some .int), 2, false)) : List EN × MI), ((tb_180, (8, yX8_fill, cX8_fill, 3, (some .int), 1, false)) : List EN × MI), ((tb_181, (8, yX8_draw, cX8_draw, 5, (some .int), 3, false)) : List EN × MI), ((tb_182, (8, yX8_keepBefore, cX8_keepBefore, 2, none, 1, false)) : List EN × MI), ((tb_183, (8, yX8_backBefore, cX8_backBefore, 2, none, 1, false)) : List EN × MI), ((tb_184, (8, yX8_keep, cX8_keep, 4, (some .int), 2, false)) : List EN × MI), ((tb_185, (8, yX8_back, cX8_back, 3, (some .int), 2, false)) : List EN × MI), ((tb_186, (8, yX8_isSheet, cX8_isSheet, 2, (some .boolean), 2, true)) : List EN × MI), ((tb_187, (8, yX8_sheet, cX8_sheet, 5, (some .int), 4, false)) : List EN × MI), ((tb_188, (8, yX8_lay, cX8_lay, 4, (some .int), 4, false)) : List EN × MI), ((tb_189, (8, yX8_read, cX8_read, 11, (some .int), 5, false)) : List EN × MI), ((tb_190, (8, yX8_torn, cX8_torn, 1, (some .int), 1, false)) : List EN × MI), ((tb_191, (8, yX8_emptyGroups, cX8_emptyGroups, 3, (some .int), 1, false)) : List EN × MI), ((tb_192, (8, yX8_bledCells, cX8_bledCells, 3, (some .int), 1, false)) : List EN × MI), ((tb_193, (8, yX8_greatestCharge, cX8_greatestCharge, 3, (some .int), 1, false)) : List EN × MI), ((tb_194, (8, yX8_count, cX8_count, 2, (some .int), 2, false)) : List EN × MI), ((tb_195, (10, yJ6_bitCount_0f7a4, cJ6_bitCount_0f7a4, 1, (some .int), 1, true)) : List EN × MI), ((tb_196, (9, yJ7_fill_53178, cJ7_fill_53178, 4, none, 2, true)) : List EN × MI)], ckP q := List.forall_mem_cons.mpr ⟨ck_175, List.forall_mem_cons.mpr ⟨ck_176, List.forall_mem_cons.mpr ⟨ck_177, List.forall_mem_cons.mpr ⟨ck_178, List.forall_mem_cons.mpr ⟨ck_179, List.forall_mem_cons.mpr ⟨ck_180, List.forall_mem_cons.mpr ⟨ck_181, List.forall_mem_cons.mpr ⟨ck_182, List.forall_mem_cons.mpr ⟨ck_183, List.forall_mem_cons.mpr ⟨ck_184, List.forall_mem_cons.mpr ⟨ck_185, List.forall_mem_cons.mpr ⟨ck_186, List.forall_mem_cons.mpr ⟨ck_187, List.forall_mem_cons.mpr ⟨ck_188, List.forall_mem_cons.mpr ⟨ck_189, List.forall_mem_cons.mpr ⟨ck_190, List.forall_mem_cons.mpr ⟨ck_191, List.forall_mem_cons.mpr ⟨ck_192, List.forall_mem_cons.mpr ⟨ck_193, List.forall_mem_cons.mpr ⟨ck_194, List.forall_mem_cons.mpr ⟨ck_195, List.forall_mem_cons.mpr ⟨ck_196, List.forall_mem_nil _⟩⟩⟩⟩⟩⟩⟩⟩⟩⟩⟩⟩⟩⟩⟩⟩⟩⟩⟩⟩⟩⟩
theorem ck_all : ∀ q ∈ TBS.zip MT, ckP q := by
  intro q hq
  rw [show TBS.zip MT = [((tb_0, (0, yX0_chooseHomes, cX0_chooseHomes, 3, none, 3, false)) : List EN × MI), ((tb_1, (0, yX0_tryCell, cX0_tryCell, 7, none, 5, false)) : List EN × MI), ((tb_2, (0, yX0_lacking, cX0_lacking, 4, (some .int), 2, false)) : List EN × MI), ((tb_3, (0, yX0_judge, cX0_judge, 4, none, 2, false)) : List EN × MI), ((tb_4, (1, yX1_chooseHomes, cX1_chooseHomes, 4, none, 3, false)) : List EN × MI), ((tb_5, (1, yX1_begin, cX1_begin, 3, none, 2, false)) : List EN × MI), ((tb_6, (1, yX1_joinTwo, cX1_joinTwo, 3, none, 1, false)) : List EN × MI), ((tb_7, (1, yX1_widestBut, cX1_widestBut, 4, (some .int), 2, false)) : List EN × MI), ((tb_8, (1, yX1_width, cX1_width, 2, (some .int), 2, false)) : List EN × MI), ((tb_9, (1, yX1_merge, cX1_merge, 5, none, 3, false)) : List EN × MI), ((tb_10, (1, yX1_isAhead, cX1_isAhead, 6, (some .boolean), 4, false)) : List EN × MI), ((tb_11, (1, yX1_exchange, cX1_exchange, 3, none, 2, true)) : List EN × MI), ((tb_12, (1, yX1_bundleOf, cX1_bundleOf, 3, (some .int), 2, false)) : List EN × MI), ((tb_13, (2, yX2_reset, cX2_reset, 1, none, 1, false)) : List EN × MI), ((tb_14, (2, yX2_copyFrom, cX2_copyFrom, 2, none, 2, false)) : List EN × MI), ((tb_15, (2, yX2_append, cX2_append, 3, none, 3, false)) : List EN × MI), ((tb_16, (2, yX2_removeAt, cX2_removeAt, 3, none, 2, false)) : List EN × MI), ((tb_17, (2, yX2_sumOf, cX2_sumOf, 2, (some .int), 2, false)) : List EN × MI), ((tb_18, (2, yX2_weakest, cX2_weakest, 1, (some .int), 1, false)) : List EN × MI), ((tb_19, (2, yX2_leastSum, cX2_leastSum, 1, (some .int), 1, false)) : List EN × MI), ((tb_20, (2, yX2_leastSumOfCharges, cX2_leastSumOfCharges, 1, (some .int), 1, false)) : List EN × MI), ((tb_21, (2, yX2_spread, cX2_spread, 2, (some .int), 1, false)) : List EN × MI), ((tb_22, (2, yX2_leastSumExchanged, cX2_leastSumExchanged, 3, (some .int), 3, false)) : List EN × MI), ((tb_23, (2, yX2_rankByCharge, cX2_rankByCharge, 4, (some .int), 2, false)) : List EN × MI), ((tb_24, (2, yX2_bitsOf, cX2_bitsOf, 4, (some .int), 2, false)) : List EN × MI)] ++ [((tb_25, (2, yX2_strongestOf, cX2_strongestOf, 4, (some .int), 2, false)) : List EN × MI), ((tb_26, (2, yX2_aboveFloor, cX2_aboveFloor, 4, (some .int), 2, false)) : List EN × MI), ((tb_27, (2, yX2_emptyGroups, cX2_emptyGroups, 3, (some .int), 1, false)) : List EN × MI), ((tb_28, (2, yX2_bledCells, cX2_bledCells, 3, (some .int), 1, false)) : List EN × MI), ((tb_29, (2, yX2_greatestCharge, cX2_greatestCharge, 3, (some .int), 1, false)) : List EN × MI), ((tb_30, (2, yX2_runTicks, cX2_runTicks, 3, (some .int), 2, false)) : List EN × MI), ((tb_31, (2, yX2_tickLoses, cX2_tickLoses, 4, (some .boolean), 1, false)) : List EN × MI), ((tb_32, (2, yX2_strongestLoses, cX2_strongestLoses, 3, (some .boolean), 2, false)) : List EN × MI), ((tb_33, (3, yX3_renew, cX3_renew, 3, none, 3, false)) : List EN × MI), ((tb_34, (3, yX3_putAt, cX3_putAt, 3, (some .int), 3, false)) : List EN × MI), ((tb_35, (3, yX3_wholePairs, cX3_wholePairs, 4, (some .int), 4, false)) : List EN × MI), ((tb_36, (3, yX3_faultAs, cX3_faultAs, 2, (some .int), 2, false)) : List EN × MI), ((tb_37, (4, yX4_byteAt, cX4_byteAt, 2, (some .int), 2, false)) : List EN × MI), ((tb_38, (4, yX4_spells, cX4_spells, 5, (some .boolean), 4, false)) : List EN × MI), ((tb_39, (5, yX5_readAll, cX5_readAll, 3, none, 1, false)) : List EN × MI), ((tb_40, (5, yX5_readLine, cX5_readLine, 2, (some .boolean), 1, false)) : List EN × MI), ((tb_41, (5, yX5_lineNamed, cX5_lineNamed, 2, (some .int), 1, false)) : List EN × MI), ((tb_42, (5, yX5_nameOf, cX5_nameOf, 1, (some (.object "java/lang/String")), 1, true)) : List EN × MI), ((tb_43, (5, yX5_readSetting, cX5_readSetting, 2, (some .boolean), 2, false)) : List EN × MI), ((tb_44, (5, yX5_lowestOf, cX5_lowestOf, 1, (some .int), 1, true)) : List EN × MI), ((tb_45, (5, yX5_highestOf, cX5_highestOf, 1, (some .int), 1, true)) : List EN × MI), ((tb_46, (5, yX5_putSetting, cX5_putSetting, 2, none, 2, false)) : List EN × MI), ((tb_47, (5, yX5_readCells, cX5_readCells, 2, (some .boolean), 1, false)) : List EN × MI), ((tb_48, (5, yX5_nextToken, cX5_nextToken, 2, (some .boolean), 1, false)) : List EN × MI), ((tb_49, (5, yX5_passRun, cX5_passRun, 3, none, 3, false)) : List EN × MI)] ++ [((tb_50, (5, yX5_takeValue, cX5_takeValue, 2, (some .boolean), 1, false)) : List EN × MI), ((tb_51, (5, yX5_fail, cX5_fail, 2, (some .boolean), 2, false)) : List EN × MI), ((tb_52, (6, yX6_choose, cX6_choose, 3, none, 3, false)) : List EN × MI), ((tb_53, (6, yX6_byTurns, cX6_byTurns, 3, none, 2, false)) : List EN × MI), ((tb_54, (6, yX6_byWeakest, cX6_byWeakest, 4, none, 2, false)) : List EN × MI), ((tb_55, (6, yX6_leastSum, cX6_leastSum, 2, (some .int), 2, false)) : List EN × MI), ((tb_56, (6, yX6_spread, cX6_spread, 3, (some .int), 2, false)) : List EN × MI), ((tb_57, (6, yX6_strangers, cX6_strangers, 4, (some .int), 2, false)) : List EN × MI), ((tb_58, (7, yX7_feed, cX7_feed, 2, (some .int), 2, false)) : List EN × MI), ((tb_59, (7, yX7_end, cX7_end, 3, (some .int), 2, false)) : List EN × MI), ((tb_60, (7, yX7_text, cX7_text, 1, (some .int), 1, false)) : List EN × MI), ((tb_61, (7, yX7_fault, cX7_fault, 1, (some .int), 1, false)) : List EN × MI), ((tb_62, (7, yX7_rule, cX7_rule, 2, (some .int), 2, false)) : List EN × MI), ((tb_63, (7, yX7_cell, cX7_cell, 3, (some .int), 3, false)) : List EN × MI), ((tb_64, (7, yX7_group, cX7_group, 3, (some .int), 3, false)) : List EN × MI), ((tb_65, (7, yX7_take, cX7_take, 2, (some .int), 2, false)) : List EN × MI), ((tb_66, (7, yX7_would, cX7_would, 3, (some .int), 3, false)) : List EN × MI), ((tb_67, (7, yX7_where, cX7_where, 3, (some .int), 3, false)) : List EN × MI), ((tb_68, (7, yX7_bound, cX7_bound, 3, (some .int), 2, false)) : List EN × MI), ((tb_69, (7, yX7_joined, cX7_joined, 2, (some .int), 2, false)) : List EN × MI), ((tb_70, (7, yX7_move, cX7_move, 4, (some .int), 3, false)) : List EN × MI), ((tb_71, (7, yX7_swap, cX7_swap, 4, (some .int), 3, false)) : List EN × MI), ((tb_72, (7, yX7_better, cX7_better, 6, (some .int), 1, false)) : List EN × MI), ((tb_73, (7, yX7_add, cX7_add, 2, (some .int), 2, false)) : List EN × MI), ((tb_74, (7, yX7_drop, cX7_drop, 2, (some .int), 2, false)) : List EN × MI)] ++ [((tb_75, (7, yX7_set, cX7_set, 4, (some .int), 3, false)) : List EN × MI), ((tb_76, (7, yX7_rate, cX7_rate, 4, (some .int), 3, false)) : List EN × MI), ((tb_77, (7, yX7_groups, cX7_groups, 3, (some .int), 2, false)) : List EN × MI), ((tb_78, (7, yX7_bleed, cX7_bleed, 2, (some .int), 2, false)) : List EN × MI), ((tb_79, (7, yX7_plan, cX7_plan, 3, (some .int), 2, false)) : List EN × MI), ((tb_80, (7, yX7_fill, cX7_fill, 2, (some .int), 1, false)) : List EN × MI), ((tb_81, (7, yX7_draw, cX7_draw, 7, (some .int), 3, false)) : List EN × MI), ((tb_82, (7, yX7_keep, cX7_keep, 3, (some .int), 2, false)) : List EN × MI), ((tb_83, (7, yX7_back, cX7_back, 2, (some .int), 2, false)) : List EN × MI), ((tb_84, (7, yX7_sheet, cX7_sheet, 4, (some .int), 4, false)) : List EN × MI), ((tb_85, (7, yX7_lay, cX7_lay, 5, (some .int), 4, false)) : List EN × MI), ((tb_86, (7, yX7_read, cX7_read, 8, (some .int), 5, false)) : List EN × MI), ((tb_87, (7, yX7_torn, cX7_torn, 1, (some .int), 1, false)) : List EN × MI), ((tb_88, (7, yX7_count, cX7_count, 2, (some .int), 2, false)) : List EN × MI), ((tb_89, (7, yX7_within, cX7_within, 3, (some .boolean), 3, true)) : List EN × MI), ((tb_90, (7, yX7_isCell, cX7_isCell, 2, (some .boolean), 2, false)) : List EN × MI), ((tb_91, (7, yX7_isGroup, cX7_isGroup, 2, (some .boolean), 2, false)) : List EN × MI), ((tb_92, (7, yX7_isWay, cX7_isWay, 1, (some .boolean), 1, true)) : List EN × MI), ((tb_93, (7, yX7_wayIsOpen, cX7_wayIsOpen, 2, (some .boolean), 2, false)) : List EN × MI), ((tb_94, (7, yX7_isImage, cX7_isImage, 1, (some .boolean), 1, true)) : List EN × MI), ((tb_95, (7, yX7_isSheet, cX7_isSheet, 1, (some .boolean), 1, true)) : List EN × MI), ((tb_96, (7, yX7_isLane, cX7_isLane, 1, (some .boolean), 1, true)) : List EN × MI), ((tb_97, (7, yX7_regroup, cX7_regroup, 2, none, 2, false)) : List EN × MI), ((tb_98, (7, yX7_waysThatReach, cX7_waysThatReach, 4, (some .int), 2, false)) : List EN × MI), ((tb_99, (7, yX7_forgetImages, cX7_forgetImages, 2, none, 1, false)) : List EN × MI)] ++ [((tb_100, (7, yX7_keptImages, cX7_keptImages, 3, (some .int), 1, false)) : List EN × MI), ((tb_101, (7, yX7_total, cX7_total, 4, (some .int), 2, true)) : List EN × MI), ((tb_102, (7, yX7_sumUp, cX7_sumUp, 5, none, 4, true)) : List EN × MI), ((tb_103, (7, yX7_firstLeast, cX7_firstLeast, 4, (some .int), 2, true)) : List EN × MI), ((tb_104, (7, yX7_greatest, cX7_greatest, 4, (some .int), 2, true)) : List EN × MI), ((tb_105, (8, yX8_init, cX8_init, 2, none, 1, false)) : List EN × MI), ((tb_106, (8, yX8_in, cX8_in, 6, (some .boolean), 3, true)) : List EN × MI), ((tb_107, (8, yX8_flag, cX8_flag, 1, (some .int), 1, true)) : List EN × MI), ((tb_108, (8, yX8_firstDraft, cX8_firstDraft, 2, none, 1, false)) : List EN × MI), ((tb_109, (8, yX8_feed, cX8_feed, 2, (some .int), 2, false)) : List EN × MI), ((tb_110, (8, yX8_end, cX8_end, 3, (some .int), 2, false)) : List EN × MI), ((tb_111, (8, yX8_requires, cX8_requires, 3, none, 3, false)) : List EN × MI), ((tb_112, (8, yX8_byteAt, cX8_byteAt, 2, (some .int), 2, false)) : List EN × MI), ((tb_113, (8, yX8_is, cX8_is, 6, (some .boolean), 6, false)) : List EN × MI), ((tb_114, (8, yX8_lineNow, cX8_lineNow, 1, (some .int), 1, false)) : List EN × MI), ((tb_115, (8, yX8_reads, cX8_reads, 2, none, 1, false)) : List EN × MI), ((tb_116, (8, yX8_leastOf, cX8_leastOf, 1, (some .int), 1, true)) : List EN × MI), ((tb_117, (8, yX8_mostOf, cX8_mostOf, 1, (some .int), 1, true)) : List EN × MI), ((tb_118, (8, yX8_readNumber, cX8_readNumber, 4, (some .int), 3, false)) : List EN × MI), ((tb_119, (8, yX8_readCell, cX8_readCell, 2, none, 1, false)) : List EN × MI), ((tb_120, (8, yX8_readLine, cX8_readLine, 2, none, 1, false)) : List EN × MI), ((tb_121, (8, yX8_text, cX8_text, 2, (some .int), 1, false)) : List EN × MI), ((tb_122, (8, yX8_fault, cX8_fault, 1, (some .int), 1, false)) : List EN × MI), ((tb_123, (8, yX8_isCell, cX8_isCell, 2, (some .boolean), 2, false)) : List EN × MI), ((tb_124, (8, yX8_isGroup, cX8_isGroup, 2, (some .boolean), 2, false)) : List EN × MI)] ++ [((tb_125, (8, yX8_sumNow, cX8_sumNow, 3, none, 2, false)) : List EN × MI), ((tb_126, (8, yX8_sumFound, cX8_sumFound, 2, none, 1, false)) : List EN × MI), ((tb_127, (8, yX8_weakest, cX8_weakest, 3, (some .int), 1, false)) : List EN × MI), ((tb_128, (8, yX8_least, cX8_least, 1, (some .int), 1, false)) : List EN × MI), ((tb_129, (8, yX8_greatest, cX8_greatest, 3, (some .int), 1, false)) : List EN × MI), ((tb_130, (8, yX8_spreadNow, cX8_spreadNow, 1, (some .int), 1, false)) : List EN × MI), ((tb_131, (8, yX8_all, cX8_all, 4, (some .int), 2, false)) : List EN × MI), ((tb_132, (8, yX8_weakestNow, cX8_weakestNow, 1, (some .int), 1, false)) : List EN × MI), ((tb_133, (8, yX8_leastNow, cX8_leastNow, 2, (some .int), 2, false)) : List EN × MI), ((tb_134, (8, yX8_rule, cX8_rule, 2, (some .int), 2, false)) : List EN × MI), ((tb_135, (8, yX8_rankOf, cX8_rankOf, 4, (some .int), 2, false)) : List EN × MI), ((tb_136, (8, yX8_cell, cX8_cell, 3, (some .int), 3, false)) : List EN × MI), ((tb_137, (8, yX8_strongest, cX8_strongest, 4, (some .int), 2, false)) : List EN × MI), ((tb_138, (8, yX8_cellsOf, cX8_cellsOf, 5, (some .int), 3, false)) : List EN × MI), ((tb_139, (8, yX8_aboveFloor, cX8_aboveFloor, 4, (some .int), 2, false)) : List EN × MI), ((tb_140, (8, yX8_sumOf, cX8_sumOf, 2, (some .int), 2, false)) : List EN × MI), ((tb_141, (8, yX8_group, cX8_group, 3, (some .int), 3, false)) : List EN × MI), ((tb_142, (8, yX8_findTurns, cX8_findTurns, 2, none, 1, false)) : List EN × MI), ((tb_143, (8, yX8_findWeakest, cX8_findWeakest, 4, none, 1, false)) : List EN × MI), ((tb_144, (8, yX8_holds, cX8_holds, 4, (some .int), 2, false)) : List EN × MI), ((tb_145, (8, yX8_isAhead, cX8_isAhead, 5, (some .boolean), 3, false)) : List EN × MI), ((tb_146, (8, yX8_differenceOf, cX8_differenceOf, 2, (some .int), 2, false)) : List EN × MI), ((tb_147, (8, yX8_widest, cX8_widest, 4, (some .int), 2, false)) : List EN × MI), ((tb_148, (8, yX8_order, cX8_order, 6, none, 2, false)) : List EN × MI), ((tb_149, (8, yX8_join, cX8_join, 6, none, 3, false)) : List EN × MI)] ++ [((tb_150, (8, yX8_findDifferences, cX8_findDifferences, 4, none, 1, false)) : List EN × MI), ((tb_151, (8, yX8_steps, cX8_steps, 4, (some .boolean), 1, false)) : List EN × MI), ((tb_152, (8, yX8_findBest, cX8_findBest, 5, none, 1, false)) : List EN × MI), ((tb_153, (8, yX8_find, cX8_find, 2, none, 2, false)) : List EN × MI), ((tb_154, (8, yX8_takeFound, cX8_takeFound, 2, none, 1, false)) : List EN × MI), ((tb_155, (8, yX8_byTurns, cX8_byTurns, 1, none, 1, false)) : List EN × MI), ((tb_156, (8, yX8_isWay, cX8_isWay, 2, (some .boolean), 2, false)) : List EN × MI), ((tb_157, (8, yX8_isTooMuch, cX8_isTooMuch, 2, (some .boolean), 2, false)) : List EN × MI), ((tb_158, (8, yX8_take, cX8_take, 2, (some .int), 2, false)) : List EN × MI), ((tb_159, (8, yX8_moved, cX8_moved, 3, (some .int), 1, false)) : List EN × MI), ((tb_160, (8, yX8_would, cX8_would, 3, (some .int), 3, false)) : List EN × MI), ((tb_161, (8, yX8_where, cX8_where, 3, (some .int), 3, false)) : List EN × MI), ((tb_162, (8, yX8_boundNow, cX8_boundNow, 1, (some .int), 1, false)) : List EN × MI), ((tb_163, (8, yX8_reaching, cX8_reaching, 3, (some .int), 1, false)) : List EN × MI), ((tb_164, (8, yX8_bound, cX8_bound, 2, (some .int), 2, false)) : List EN × MI), ((tb_165, (8, yX8_joined, cX8_joined, 2, (some .int), 2, false)) : List EN × MI), ((tb_166, (8, yX8_move, cX8_move, 4, (some .int), 3, false)) : List EN × MI), ((tb_167, (8, yX8_exchange, cX8_exchange, 4, none, 3, false)) : List EN × MI), ((tb_168, (8, yX8_swap, cX8_swap, 3, (some .int), 3, false)) : List EN × MI), ((tb_169, (8, yX8_better, cX8_better, 5, (some .int), 1, false)) : List EN × MI), ((tb_170, (8, yX8_comes, cX8_comes, 4, none, 2, false)) : List EN × MI), ((tb_171, (8, yX8_add, cX8_add, 2, (some .int), 2, false)) : List EN × MI), ((tb_172, (8, yX8_drop, cX8_drop, 3, (some .int), 2, false)) : List EN × MI), ((tb_173, (8, yX8_set, cX8_set, 4, (some .int), 3, false)) : List EN × MI), ((tb_174, (8, yX8_rate, cX8_rate, 4, (some .int), 3, false)) : List EN × MI)] ++ [((tb_175, (8, yX8_groups, cX8_groups, 3, (some .int), 2, false)) : List EN × MI), ((tb_176, (8, yX8_ticks, cX8_ticks, 6, (some .boolean), 1, false)) : List EN × MI), ((tb_177, (8, yX8_ticksOn, cX8_ticksOn, 3, (some .int), 2, false)) : List EN × MI), ((tb_178, (8, yX8_bleed, cX8_bleed, 2, (some .int), 2, false)) : List EN × MI), ((tb_179, (8, yX8_plan, cX8_plan, 6, (some .int), 2, false)) : List EN × MI), ((tb_180, (8, yX8_fill, cX8_fill, 3, (some .int), 1, false)) : List EN × MI), ((tb_181, (8, yX8_draw, cX8_draw, 5, (some .int), 3, false)) : List EN × MI), ((tb_182, (8, yX8_keepBefore, cX8_keepBefore, 2, none, 1, false)) : List EN × MI), ((tb_183, (8, yX8_backBefore, cX8_backBefore, 2, none, 1, false)) : List EN × MI), ((tb_184, (8, yX8_keep, cX8_keep, 4, (some .int), 2, false)) : List EN × MI), ((tb_185, (8, yX8_back, cX8_back, 3, (some .int), 2, false)) : List EN × MI), ((tb_186, (8, yX8_isSheet, cX8_isSheet, 2, (some .boolean), 2, true)) : List EN × MI), ((tb_187, (8, yX8_sheet, cX8_sheet, 5, (some .int), 4, false)) : List EN × MI), ((tb_188, (8, yX8_lay, cX8_lay, 4, (some .int), 4, false)) : List EN × MI), ((tb_189, (8, yX8_read, cX8_read, 11, (some .int), 5, false)) : List EN × MI), ((tb_190, (8, yX8_torn, cX8_torn, 1, (some .int), 1, false)) : List EN × MI), ((tb_191, (8, yX8_emptyGroups, cX8_emptyGroups, 3, (some .int), 1, false)) : List EN × MI), ((tb_192, (8, yX8_bledCells, cX8_bledCells, 3, (some .int), 1, false)) : List EN × MI), ((tb_193, (8, yX8_greatestCharge, cX8_greatestCharge, 3, (some .int), 1, false)) : List EN × MI), ((tb_194, (8, yX8_count, cX8_count, 2, (some .int), 2, false)) : List EN × MI), ((tb_195, (10, yJ6_bitCount_0f7a4, cJ6_bitCount_0f7a4, 1, (some .int), 1, true)) : List EN × MI), ((tb_196, (9, yJ7_fill_53178, cJ7_fill_53178, 4, none, 2, true)) : List EN × MI)] from rfl] at hq
  simp only [List.mem_append] at hq
  rcases hq with ((((((h0 | h1) | h2) | h3) | h4) | h5) | h6) | h7
  · exact ckc_0 q h0
  · exact ckc_1 q h1
  · exact ckc_2 q h2
  · exact ckc_3 q h3
  · exact ckc_4 q h4
  · exact ckc_5 q h5
  · exact ckc_6 q h6
  · exact ckc_7 q h7
theorem ck_ok {y : Nat} {tb : List EN} {mi : MI} (h1 : TBS[y]? = some tb) (h2 : MT[y]? = some mi) {e : EN} (he : e ∈ tb) : chkE mi e = true := by
  have h3 : (TBS.zip MT)[y]? = some (tb, mi) := by rw [List.getElem?_zip_eq_some]; exact ⟨h1, h2⟩
  exact List.all_eq_true.mp (ck_all _ (List.mem_of_getElem? h3)) e he
theorem lkp_in : ∀ {tb : List EN} {pc : Nat} {e : EN}, lkp tb pc = some e → e ∈ tb ∧ e.1 = pc
  | [], _, _, h => by cases h
  | a :: r, pc, e, h => by
    unfold lkp at h
    split at h
    · rename_i hb
      cases h
      exact ⟨List.mem_cons_self, Nat.eq_of_beq_eq_true hb⟩
    · obtain ⟨h1, h2⟩ := lkp_in h
      exact ⟨List.mem_cons_of_mem _ h1, h2⟩
theorem chk_dec {m : MI} {e : EN} (h : chkE m e = true) : ∃ n, decode m.2.2.1 e.1 = .ok (e.2.1, n) ∧ e.2.2.1 = e.1 + n ∧ n = insN e.2.1 n ∧ chkX m.1 m.2.2.2.2.1 e = true := by
  unfold chkE at h
  rw [Bool.and_eq_true] at h
  obtain ⟨h1, h2⟩ := h
  unfold insLen at h1
  split at h1
  · rename_i i n hd
    rw [Bool.and_eq_true, Bool.and_eq_true] at h1
    have e1 : i = e.2.1 := of_decide_eq_true h1.1.1
    subst e1
    exact ⟨n, hd, (Nat.eq_of_beq_eq_true h1.1.2).symm, Nat.eq_of_beq_eq_true h1.2, h2⟩
  · cases h1
end
section
/-! one instruction of the abstract machine is one of the machine -/
def LEN : List Nat := [6, 5, 5, 4, 5]
def BYT : List (List Int32) := STT.map fun t => t.map Int32.ofInt
def StrOK (ad adV : Nat → Nat) (U : State) (H : Heap) : Prop := vk_S 5 LEN BYT (fun i => ad (100 + i)) adV (AD ad) U H ∧ (∀ e ∈ SRT, ∃ own tx, RN[e.1]? = some own ∧ vk_R own e.2.1 tx (ad e.2.2) U) ∧ va_Z "java/lang/String" "COMPACT_STRINGS" "Z" (.int 1) (AD ad) U H ∧ va_Zq "jdk/internal/util/Preconditions" "SIOOBE_FORMATTER" "Ljava/util/function/BiFunction;" (AD ad) U H
def WO (ad : Nat → Nat) (cT dC : Nat → ClassId) (dI : Nat → Nat → Nat) (adV : Nat → Nat) (U : State) (H : Heap) : Prop := Inj ad ∧ va_K (dC, dI) vwCl (TYS cT) U ∧ (∀ w ∈ NWs, va_Nw w U) ∧ StrOK ad adV U H
def CX (ad : Nat → Nat) (cT dC : Nat → ClassId) (dI : Nat → Nat → Nat) (adV : Nat → Nat) (p : Program) (s : State) (m : MethodId) (args : Array Value) (meth : Method) (c : Code) (mi : MI) : Prop :=
  p.tables.exec = Jvm.exec ∧ c.code = mi.2.2.1 ∧ meth.sig.returnType = mi.2.2.2.2.1 ∧ c.maxLocals = mi.2.2.2.1 ∧ (∃ own, RN[mi.1]? = some own ∧ s.vm.findClass own = some m.cls) ∧ (∀ w ∈ GW, w.before args s = true) ∧ meth.locks = false ∧ WO ad cT dC dI adV s s.heap
section SOUND
variable {ad : Nat → Nat} {cT dC : Nat → ClassId} {dI : Nat → Nat → Nat} {adV : Nat → Nat}
variable {p : Program} {l : Launch} {e : Env} {R : Room} {s : State} {m : MethodId} {args : Array Value} {below : List Frame} {meth : Method} {c : Code} {cells slots : Nat} {Q : State → Prop}
def WG (ad : Nat → Nat) (cT dC : Nat → ClassId) (dI : Nat → Nat → Nat) (p : Program) (l : Launch) (e : Env) (R : Room) (s : State) (m : MethodId) (args : Array Value) (below : List Frame) (meth : Method) (c : Code) (cells slots : Nat) (Q : State → Prop) (nL : Nat) (st : AS) : Prop :=
  ∀ (ls : Array Slot) (H : Heap) (locs : List Loc), LH ad ls nL st.2.1 → va_P (dC, dI) vwCl (WL ad cT st.2.2.2) H → va_S (AD ad) s.heap H locs → W p l e R s m args below meth c H locs cells slots Q (F0 m st.1 ls (st.2.2.1.map (cz ad)))
theorem ldI_at {ls : Array Slot} {nL k : Nat} {L : LVs} {x : Int} (hl : LH ad ls nL L) (h : ldI L k = some x) : ls[k]? = some (.val (.int (Int32.ofInt x))) := by
  unfold ldI at h
  split at h
  · rename_i h2
    cases h
    exact hl.2.2.2 k _ h2
  · cases h
theorem ldJ_at {ls : Array Slot} {nL k : Nat} {L : LVs} {x : Int} (hl : LH ad ls nL L) (h : ldJ L k = some x) : ls[k]? = some (.val (.long (Int64.ofInt x))) := by
  unfold ldJ at h
  split at h
  · rename_i h2
    cases h
    exact hl.2.2.2 k _ h2
  · cases h
theorem ldR_at {ls : Array Slot} {nL k : Nat} {L : LVs} {x : Nat} (hl : LH ad ls nL L) (h : ldR L k = some x) : ls[k]? = some (.val (.ref (ad x))) := by
  unfold ldR at h
  split at h
  · rename_i h2
    cases h
    exact hl.2.2.2 k _ h2
  · cases h
theorem alL_at {L : LVs} {k : Nat} {x : Int} (h : ldI L k = some x) : ∃ j : Nat, (alL ad L)[j]? = some (k, Value.int (Int32.ofInt x)) := by
  unfold ldI at h
  split at h
  · rename_i h2
    cases h
    exact List.getElem?_of_mem (alL_mem.mpr ⟨_, h2, rfl⟩)
  · cases h
/-- a branch -/
theorem so_if {cc : ByteArray} (hx : p.tables.exec = Jvm.exec) (hb : c.code = cc) {H : Heap} {locs : List Loc} {ls : Array Slot} {rest : List Value} {pc tgt : Nat} {cd : ClassFile.Cond} {off : Int} {x : Int} (h : inR x) (hd : decode cc pc = .ok (.ifCond cd off, 3)) (ht : (pc : Int) + off = (tgt : Int))
    (k : W p l e R s m args below meth c H locs cells slots Q (F0 m (if cmpB cd x 0 then tgt else pc + 3) ls rest)) : W p l e R s m args below meth c H locs cells slots Q (F0 m pc ls (.int (Int32.ofInt x) :: rest)) := by
  have h0 : inR 0 := ⟨by decide, by decide⟩
  have q1 := oi_lt h h0
  have q2 := oi_le h h0
  have q3 := oi_eq h h0
  have q4 := oi_lt h0 h
  have q5 := oi_le h0 h
  rw [← oi_0] at q1 q2 q3 q4 q5
  cases cd
  · refine lv_if_eq hx hb hd ht (fun g => ?_) (fun g => ?_)
    · rw [if_pos (by simp only [cmpB]; exact decide_eq_true (q3.mp g))] at k; exact k
    · rw [if_neg (by simp only [cmpB]; intro z; exact g (q3.mpr (of_decide_eq_true z)))] at k; exact k
  · refine lv_if_ne hx hb hd ht (fun g => ?_) (fun g => ?_)
    · rw [if_pos (by simp only [cmpB]; exact decide_eq_true (fun z => g (q3.mpr z)))] at k; exact k
    · rw [if_neg (by simp only [cmpB]; intro z; exact of_decide_eq_true z (q3.mp g))] at k; exact k
  · refine lv_if_lt hx hb hd ht (fun g => ?_) (fun g => ?_)
    · rw [if_pos (by simp only [cmpB]; exact decide_eq_true (q1.mp g))] at k; exact k
    · rw [if_neg (by simp only [cmpB]; intro z; exact g (q1.mpr (of_decide_eq_true z)))] at k; exact k
  · refine lv_if_ge hx hb hd ht (fun g => ?_) (fun g => ?_)
    · rw [if_pos (by simp only [cmpB]; exact decide_eq_true (q5.mp g))] at k; exact k
    · rw [if_neg (by simp only [cmpB]; intro z; exact g (q5.mpr (of_decide_eq_true z)))] at k; exact k
  · refine lv_if_gt hx hb hd ht (fun g => ?_) (fun g => ?_)
    · rw [if_pos (by simp only [cmpB]; exact decide_eq_true (q4.mp g))] at k; exact k
    · rw [if_neg (by simp only [cmpB]; intro z; exact g (q4.mpr (of_decide_eq_true z)))] at k; exact k
  · refine lv_if_le hx hb hd ht (fun g => ?_) (fun g => ?_)
    · rw [if_pos (by simp only [cmpB]; exact decide_eq_true (q2.mp g))] at k; exact k
    · rw [if_neg (by simp only [cmpB]; intro z; exact g (q2.mpr (of_decide_eq_true z)))] at k; exact k
theorem so_icmp {cc : ByteArray} (hx : p.tables.exec = Jvm.exec) (hb : c.code = cc) {H : Heap} {locs : List Loc} {ls : Array Slot} {rest : List Value} {pc tgt : Nat} {cd : ClassFile.Cond} {off : Int} {x y : Int} (h : inR x) (h0 : inR y) (hd : decode cc pc = .ok (.if_icmp cd off, 3)) (ht : (pc : Int) + off = (tgt : Int))
    (k : W p l e R s m args below meth c H locs cells slots Q (F0 m (if cmpB cd x y then tgt else pc + 3) ls rest)) : W p l e R s m args below meth c H locs cells slots Q (F0 m pc ls (.int (Int32.ofInt y) :: .int (Int32.ofInt x) :: rest)) := by
  have q1 := oi_lt h h0
  have q2 := oi_le h h0
  have q3 := oi_eq h h0
  have q4 := oi_lt h0 h
  have q5 := oi_le h0 h
  cases cd
  · refine lv_icmp_eq hx hb hd ht (fun g => ?_) (fun g => ?_)
    · rw [if_pos (by simp only [cmpB]; exact decide_eq_true (q3.mp g))] at k; exact k
    · rw [if_neg (by simp only [cmpB]; intro z; exact g (q3.mpr (of_decide_eq_true z)))] at k; exact k
  · refine lv_icmp_ne hx hb hd ht (fun g => ?_) (fun g => ?_)
    · rw [if_pos (by simp only [cmpB]; exact decide_eq_true (fun z => g (q3.mpr z)))] at k; exact k
    · rw [if_neg (by simp only [cmpB]; intro z; exact of_decide_eq_true z (q3.mp g))] at k; exact k
  · refine lv_icmp_lt hx hb hd ht (fun g => ?_) (fun g => ?_)
    · rw [if_pos (by simp only [cmpB]; exact decide_eq_true (q1.mp g))] at k; exact k
    · rw [if_neg (by simp only [cmpB]; intro z; exact g (q1.mpr (of_decide_eq_true z)))] at k; exact k
  · refine lv_icmp_ge hx hb hd ht (fun g => ?_) (fun g => ?_)
    · rw [if_pos (by simp only [cmpB]; exact decide_eq_true (q5.mp g))] at k; exact k
    · rw [if_neg (by simp only [cmpB]; intro z; exact g (q5.mpr (of_decide_eq_true z)))] at k; exact k
  · refine lv_icmp_gt hx hb hd ht (fun g => ?_) (fun g => ?_)
    · rw [if_pos (by simp only [cmpB]; exact decide_eq_true (q4.mp g))] at k; exact k
    · rw [if_neg (by simp only [cmpB]; intro z; exact g (q4.mpr (of_decide_eq_true z)))] at k; exact k
  · refine lv_icmp_le hx hb hd ht (fun g => ?_) (fun g => ?_)
    · rw [if_pos (by simp only [cmpB]; exact decide_eq_true (q2.mp g))] at k; exact k
    · rw [if_neg (by simp only [cmpB]; intro z; exact g (q2.mpr (of_decide_eq_true z)))] at k; exact k
theorem so_lcmp {x y : Int} (hx : inR64 x) (hy : inR64 y) : lg_cmp (Int64.ofInt x) (Int64.ofInt y) = Int32.ofInt (if y < x then 1 else if x = y then 0 else -1) := by
  unfold lg_cmp
  simp only [gt_iff_lt, Int64.lt_iff_toInt_lt, ← Int64.toInt_inj, oi_t64 hx, oi_t64 hy]
  split
  · rfl
  · split <;> rfl
theorem so_bin {cc : ByteArray} (hx : p.tables.exec = Jvm.exec) (hb : c.code = cc) {H : Heap} {locs : List Loc} {ls : Array Slot} {rest : List Value} {pc : Nat} {i : Instr} {x y v : Int} (h : bin2 i x y = some v) (hd : decode cc pc = .ok (i, 1))
    (k : W p l e R s m args below meth c H locs cells slots Q (F0 m (pc + 1) ls (.int (Int32.ofInt v) :: rest))) : W p l e R s m args below meth c H locs cells slots Q (F0 m pc ls (.int (Int32.ofInt y) :: .int (Int32.ofInt x) :: rest)) := by
  rcases bin_ok h with ⟨rfl, q⟩ | ⟨rfl, q⟩ | ⟨rfl, q⟩ | ⟨rfl, q⟩ | ⟨rfl, q⟩ | ⟨rfl, n, q⟩ | ⟨rfl, n, q⟩ | ⟨rfl, q⟩ | ⟨rfl, q⟩ | ⟨rfl, q⟩
  · rw [q] at k; exact lv_iadd hx hb hd k
  · rw [q] at k; exact lv_isub hx hb hd k
  · rw [q] at k; exact lv_imul hx hb hd k
  · rw [q] at k; exact lv_iand hx hb hd k
  · rw [q] at k; exact lv_ior hx hb hd k
  · rw [q] at k; exact lv_idiv hx hb hd n k
  · rw [q] at k; exact lv_irem hx hb hd n k
  · rw [q] at k; exact lv_ishl hx hb hd k
  · rw [q] at k; exact lv_ishr hx hb hd k
  · exact lv_iushr hx hb hd q k
/-- aaload, any rows -/
theorem so_aald {cc : ByteArray} {D : va_G} {cl : List vw_C} {tys : List (ClassId × FieldType)} {ws : va_W} {H : Heap} {locs : List Loc} {ls : Array Slot} {rest : List Value} {pc a : Nat} (hexec : p.tables.exec = Jvm.exec) (hb : c.code = cc) (hK : va_K D cl tys s) (hP : va_P D cl ws H) (q0 t0 : Nat) {cA : ClassId} {ty : FieldType} {n : Nat} {f : Nat → Option Nat} (hty : ty.isReference = true) (ha : ws[q0]? = some (a, .inl (cA, n, .inr (.inr (.inr (.inr f)))))) (ht : tys[t0]? = some (cA, ty)) {i : Int32} (hin : vp_in i n) (hdg : decode cc pc = .ok (.aaload, 1))
    (kk : W p l e R s m args below meth c H locs cells slots Q (F0 m (pc + 1) ls (va_rf (f i.toNatClampNeg) :: rest))) : W p l e R s m args below meth c H locs cells slots Q (F0 m pc ls (.int i :: .ref a :: rest)) := by
  have hlt : i.toNatClampNeg < n := Nat.not_le.mp fun q => hin (Or.inr q)
  exact W.aald (v := va_rf (f i.toNatClampNeg)) (ty := ty) hexec hb (hP q0 _ ha) ((hK.2 t0 _ ht).1 n (fun j => va_rf (f j))) hty (fun q => by cases q) (by show ¬ (i < 0 ∨ (arrV _ _ _).slots.size ≤ _); rw [arrV_size]; exact hin) (by show (arrV _ _ _).slots[_]? = _; rw [arrV_read _ _ hlt]) rfl rfl hdg kk
theorem upd_of (f : Int → Int) (i v : Int) (hi : 0 ≤ i) : upd (fun j : Nat => Int32.ofInt (f (j : Int))) i.toNat (Int32.ofInt v) = fun j : Nat => Int32.ofInt (upI f i v (j : Int)) := by
  funext j
  by_cases h : j = i.toNat
  · have h2 : (j : Int) = i := by omega
    simp only [upd, upI]
    rw [if_pos h, if_pos h2]
  · have h2 : ¬ (j : Int) = i := by omega
    simp only [upd, upI]
    rw [if_neg h, if_neg h2]
theorem cpy_of (f g : Int → Int) (sp dp n : Int) (h1 : 0 ≤ sp) (h2 : 0 ≤ dp) (h3 : 0 ≤ n) : va_cpy (fun j : Nat => Int32.ofInt (f (j : Int))) (fun j : Nat => Int32.ofInt (g (j : Int))) sp.toNat dp.toNat n.toNat = fun j : Nat => Int32.ofInt (cpI f g sp dp n (j : Int)) := by
  funext j
  by_cases h : dp.toNat ≤ j ∧ j < dp.toNat + n.toNat
  · have h4 : dp ≤ (j : Int) ∧ (j : Int) < dp + n := by omega
    have h5 : ((sp.toNat + (j - dp.toNat) : Nat) : Int) = sp + ((j : Int) - dp) := by omega
    simp only [va_cpy, cpI, if_pos h, if_pos h4, h5]
  · have h4 : ¬ (dp ≤ (j : Int) ∧ (j : Int) < dp + n) := by omega
    simp only [va_cpy, cpI, if_neg h, if_neg h4]
end SOUND
end
section
theorem nar_bool {v : Int} (h : v = 0 ∨ v = 1) : vp_nar .boolean (Int32.ofInt v) = Int32.ofInt v := by rcases h with rfl | rfl <;> decide
theorem fv_ref {ad : Nat → Nat} {f : Int → Int} {fs : List (Option Nat)} {k t : Nat} (h : fs[k]? = some (some t)) : (fvs ad f fs 0)[k]? = some (.ref (ad t)) := by rw [fvs_get, h]; rfl
theorem fv_int {ad : Nat → Nat} {f : Int → Int} {fs : List (Option Nat)} {k : Nat} (h : fs[k]? = some none) : (fvs ad f fs 0)[k]? = some (.int (Int32.ofInt (f (k : Int)))) := by rw [fvs_get, h, Nat.zero_add]; rfl
section SOSTEP
variable {ad : Nat → Nat} {cT dC : Nat → ClassId} {dI : Nat → Nat → Nat} {adV : Nat → Nat}
variable {p : Program} {l : Launch} {e : Env} {R : Room} {s : State} {m : MethodId} {args : Array Value} {below : List Frame} {meth : Method} {c : Code} {cells slots : Nat} {Q : State → Prop}
set_option maxHeartbeats 4000000 in
set_option maxRecDepth 100000 in
theorem so_stp {mi : MI} {en : EN} {st st' : AS} (C : CX ad cT dC dI adV p s m args meth c mi) (hck : chkE mi en = true) (hpc : en.1 = st.1) (h : stp en st = some (.inl st')) (k : WG ad cT dC dI p l e R s m args below meth c cells slots Q mi.2.2.2.1 st') : WG ad cT dC dI p l e R s m args below meth c cells slots Q mi.2.2.2.1 st := by
  obtain ⟨pc, L, S, M⟩ := st
  obtain ⟨pc', ins, nx, a, b, z⟩ := en
  obtain ⟨o, nm, cc, ml, ret, na, sta⟩ := mi
  dsimp only at hpc
  subst hpc
  obtain ⟨n, hd, hnx, hn, hX⟩ := chk_dec hck
  dsimp only at hd hnx hn hX k ⊢
  obtain ⟨hx, hb, hr, hml, ⟨own, hRN, hown⟩, hts, hlocks, hinj, hK, hNW, hST⟩ := C
  dsimp only at hb hr hml hRN
  intro ls H locs hl hP hS
  dsimp only at hl hP ⊢
  have hD : va_D (AD ad) (WL ad cT M) := WL_D hinj
  have key : ∀ st2 : AS, st2 = st' → WG ad cT dC dI p l e R s m args below meth c cells slots Q ml st2 := fun _ q => q ▸ k
  unfold stp at h
  dsimp only at h
  split at h
  · -- iconst
    cases h
    have hz : z = _ := of_decide_eq_true hX
    subst hz
    (dsimp only [insN] at hn; subst hn)
    rw [hnx] at k
    exact lv_iconst hx hb hd rfl (k ls H locs hl hP hS)
  · -- bipush
    cases h
    obtain ⟨hz, h1, h2⟩ := of_decide_eq_true hX
    subst hz
    (dsimp only [insN] at hn; subst hn)
    rw [hnx] at k
    refine lv_bipush hx hb hd ?_ (k ls H locs hl hP hS)
    apply Int32.toInt_inj.mp
    rw [Int8.toInt_toInt32, oi_t ⟨by omega, by omega⟩]
    exact Int8.toInt_ofInt_of_le (by omega) (by omega)
  · -- sipush
    cases h
    obtain ⟨hz, h1, h2⟩ := of_decide_eq_true hX
    subst hz
    (dsimp only [insN] at hn; subst hn)
    rw [hnx] at k
    refine lv_sipush hx hb hd ?_ (k ls H locs hl hP hS)
    apply Int32.toInt_inj.mp
    rw [Int16.toInt_toInt32, oi_t ⟨by omega, by omega⟩]
    exact Int16.toInt_ofInt_of_le (by omega) (by omega)
  · -- ldc
    rename_i idx
    (dsimp only [insN] at hn; subst hn)
    split at h
    · cases h
      rw [hnx] at k
      obtain ⟨ow, h1, h2⟩ := ci_ok _ (List.contains_iff_mem.mp hX)
      cases hRN.symm.trans h1
      exact lv_ldc hx hb hown (hts _ h2) hd (k ls H locs hl hP hS)
    · rename_i hb0
      cases h
      rw [hnx] at k
      have hX2 : SRT.contains (o, idx, a) = true := by
        unfold chkX at hX
        dsimp only at hX
        split at hX
        · exact absurd rfl hb0
        · exact hX
      obtain ⟨ow, tx, h1, h2⟩ := hST.2.1 _ (List.contains_iff_mem.mp hX2)
      cases hRN.symm.trans h1
      exact va_ldcS hx hb hown h2 hd (k ls H locs hl hP hS)
  · -- ldc_w
    cases h
    (dsimp only [insN] at hn; subst hn)
    rw [hnx] at k
    obtain ⟨ow, h1, h2⟩ := ci_ok _ (List.contains_iff_mem.mp hX)
    cases hRN.symm.trans h1
    exact lv_ldcw hx hb hown (hts _ h2) hd (k ls H locs hl hP hS)
  · -- lconst
    cases h
    have hz : z = _ := of_decide_eq_true hX
    subst hz
    (dsimp only [insN] at hn; subst hn)
    rw [hnx] at k
    refine lv_lconst hx hb hd ?_ (k ls H locs hl hP hS)
    apply Int64.toBitVec.inj
    simp
  · -- ldc2_w
    cases h
    (dsimp only [insN] at hn; subst hn)
    rw [hnx] at k
    obtain ⟨ow, h1, h2⟩ := clo_ok _ (List.contains_iff_mem.mp hX)
    cases hRN.symm.trans h1
    exact lv_ldc2 hx hb hown (hts _ h2) hd (k ls H locs hl hP hS)
  · -- iload
    obtain ⟨x, h1, h2⟩ := Option.map_eq_some_iff.mp h
    cases h2
    (dsimp only [insN] at hn; subst hn)
    rw [hnx] at k
    exact lv_iload hx hb hd (ldI_at hl h1) (k ls H locs hl hP hS)
  · -- iload_n
    obtain ⟨x, h1, h2⟩ := Option.map_eq_some_iff.mp h
    cases h2
    (dsimp only [insN] at hn; subst hn)
    rw [hnx] at k
    exact lv_iload_n hx hb hd rfl (ldI_at hl h1) (k ls H locs hl hP hS)
  · -- lload
    obtain ⟨x, h1, h2⟩ := Option.map_eq_some_iff.mp h
    cases h2
    (dsimp only [insN] at hn; subst hn)
    rw [hnx] at k
    exact lv_lload hx hb hd (ldJ_at hl h1) (k ls H locs hl hP hS)
  · -- lload_n
    obtain ⟨x, h1, h2⟩ := Option.map_eq_some_iff.mp h
    cases h2
    (dsimp only [insN] at hn; subst hn)
    rw [hnx] at k
    exact lv_lload_n hx hb hd rfl (ldJ_at hl h1) (k ls H locs hl hP hS)
  · -- aload
    obtain ⟨x, h1, h2⟩ := Option.map_eq_some_iff.mp h
    cases h2
    (dsimp only [insN] at hn; subst hn)
    rw [hnx] at k
    exact lv_aload hx hb hd (ldR_at hl h1) (k ls H locs hl hP hS)
  · -- aload_n
    obtain ⟨x, h1, h2⟩ := Option.map_eq_some_iff.mp h
    cases h2
    (dsimp only [insN] at hn; subst hn)
    rw [hnx] at k
    exact lv_aload_n hx hb hd rfl (ldR_at hl h1) (k ls H locs hl hP hS)
  · -- istore
    (dsimp only [insN] at hn; subst hn)
    split at h
    · split at h
      · rename_i hk
        cases h
        rw [hnx] at k
        exact lv_istore hx hb hd hl.has (by have := hl.2.1; omega) rfl (fun ls' hl' => k ls' H locs (LH_st1 (v := .inl _) hl hk hl') hP hS)
      · cases h
    · cases h
  · -- istore_n
    (dsimp only [insN] at hn; subst hn)
    split at h
    · split at h
      · rename_i hk
        cases h
        rw [hnx] at k
        exact lv_istore_n hx hb hd rfl hl.has (by have := hl.2.1; omega) rfl (fun ls' hl' => k ls' H locs (LH_st1 (v := .inl _) hl hk hl') hP hS)
      · cases h
    · cases h
  · -- lstore
    (dsimp only [insN] at hn; subst hn)
    split at h
    · split at h
      · rename_i hk
        cases h
        rw [hnx] at k
        exact lv_lstore hx hb hd hl.has (by have := hl.2.1; omega) rfl (fun ls' hl' => k ls' H locs (LH_st2 (v := .inr (.inl _)) hl hk hl') hP hS)
      · cases h
    · cases h
  · -- astore
    (dsimp only [insN] at hn; subst hn)
    split at h
    · split at h
      · rename_i hk
        cases h
        rw [hnx] at k
        exact lv_astore hx hb hd hl.has (by have := hl.2.1; omega) rfl (fun ls' hl' => k ls' H locs (LH_st1 (v := .inr (.inr _)) hl hk hl') hP hS)
      · cases h
    · cases h
  · -- astore_n
    (dsimp only [insN] at hn; subst hn)
    split at h
    · split at h
      · rename_i hk
        cases h
        rw [hnx] at k
        exact lv_astore_n hx hb hd rfl hl.has (by have := hl.2.1; omega) rfl (fun ls' hl' => k ls' H locs (LH_st1 (v := .inr (.inr _)) hl hk hl') hP hS)
      · cases h
    · cases h
  · -- iinc
    (dsimp only [insN] at hn; subst hn)
    split at h
    · rename_i hk
      obtain ⟨x, h1, h2⟩ := Option.map_eq_some_iff.mp h
      cases h2
      rw [hnx] at k
      obtain ⟨j, hj⟩ := alL_at (ad := ad) h1
      exact lv_iinc hx hb hd hl.has hj (Int32.ofInt_add _ _).symm (by have := hl.2.1; omega) rfl (fun ls' hl' => k ls' H locs (LH_st1 (v := .inl _) hl hk hl') hP hS)
    · cases h
  · -- dup
    (dsimp only [insN] at hn; subst hn)
    split at h
    · split at h
      · rename_i hc
        cases h
        rw [hnx] at k
        exact lv_dup hx hb hd (by rw [cz_cat]; exact hc) (k ls H locs hl hP hS)
      · cases h
    · cases h
  · -- dup2
    (dsimp only [insN] at hn; subst hn)
    split at h
    · split at h
      · rename_i hc
        cases h
        rw [hnx] at k
        exact lv_dup2_11 hx hb hd (by rw [cz_cat]; exact hc.1) (by rw [cz_cat]; exact hc.2) (k ls H locs hl hP hS)
      · cases h
    · cases h
  · -- pop
    (dsimp only [insN] at hn; subst hn)
    split at h
    · split at h
      · rename_i hc
        cases h
        rw [hnx] at k
        exact lv_pop hx hb hd (by rw [cz_cat]; exact hc) (k ls H locs hl hP hS)
      · cases h
    · cases h
  · -- i2l
    (dsimp only [insN] at hn; subst hn)
    split at h
    · split at h
      · rename_i hc
        cases h
        rw [hnx] at k
        refine lv_i2l hx hb hd ?_ (k ls H locs hl hP hS)
        apply Int64.toInt_inj.mp
        rw [Int32.toInt_toInt64, oi_t hc, oi_t64 ⟨by have := hc.1; omega, by have := hc.2; omega⟩]
      · cases h
    · cases h
  · -- ladd
    (dsimp only [insN] at hn; subst hn)
    split at h
    · cases h
      rw [hnx] at k
      refine lv_ladd hx hb hd ?_
      rw [← Int64.ofInt_add]
      exact k ls H locs hl hP hS
    · cases h
  · -- lcmp
    (dsimp only [insN] at hn; subst hn)
    split at h
    · split at h
      · rename_i hc
        cases h
        rw [hnx] at k
        refine W.lcmp hx hb hd ?_
        rw [so_lcmp hc.1 hc.2]
        exact k ls H locs hl hP hS
      · cases h
    · cases h
  · -- goto
    (dsimp only [insN] at hn; subst hn)
    cases h
    exact lv_goto hx hb hd (of_decide_eq_true hX) (k ls H locs hl hP hS)
  · -- ifCond
    (dsimp only [insN] at hn; subst hn)
    split at h
    · split at h
      · rename_i hc
        cases h
        rw [hnx] at k
        exact so_if hx hb hc hd (of_decide_eq_true hX) (k ls H locs hl hP hS)
      · cases h
    · cases h
  · -- if_icmp
    (dsimp only [insN] at hn; subst hn)
    split at h
    · split at h
      · rename_i hc
        cases h
        rw [hnx] at k
        exact so_icmp hx hb hc.1 hc.2 hd (of_decide_eq_true hX) (k ls H locs hl hP hS)
      · cases h
    · cases h
  · -- tableswitch
    split at h
    · split at h
      · rename_i hc
        obtain ⟨t, h1, h2⟩ := Option.map_eq_some_iff.mp h
        cases h2
        unfold chkX at hX
        dsimp only at hX
        rw [Bool.and_eq_true] at hX
        have hd0 : 0 ≤ (pc' : Int) + _ := of_decide_eq_true hX.1
        unfold tswT at h1
        split at h1
        · rename_i ho
          cases h1
          refine lv_tableOut hx hb hd (by rw [oi_t hc]; exact ho) ?_ (k ls H locs hl hP hS)
          show _ = ((jmp pc' _ : Nat) : Int)
          unfold jmp
          omega
        · rename_i ho
          obtain ⟨off, h3, h4⟩ := Option.map_eq_some_iff.mp h1
          subst h4
          refine lv_tableIn (off := off) hx hb hd (by rw [oi_t hc]; exact fun q => ho (Or.inl q)) (by rw [oi_t hc]; exact fun q => ho (Or.inr q)) (by rw [oi_t hc]; exact h3) ?_ (k ls H locs hl hP hS)
          have := List.all_eq_true.mp hX.2 off (by
            obtain ⟨g1, g2⟩ := Array.getElem?_eq_some_iff.mp h3
            rw [← g2]
            exact Array.getElem_mem_toList g1)
          have h5 : 0 ≤ (pc' : Int) + off := of_decide_eq_true this
          show _ = ((jmp pc' _ : Nat) : Int)
          unfold jmp
          omega
      · cases h
    · cases h
  · -- lookupswitch
    split at h
    · split at h
      · rename_i d0 ps0 S0 x0 r0 hc
        cases h
        unfold chkX at hX
        dsimp only at hX
        rw [Bool.and_eq_true, Bool.and_eq_true] at hX
        have hd0 : 0 ≤ (pc' : Int) + _ := of_decide_eq_true hX.1.1
        refine lv_lookup hx hb hd hX.2 rfl ?_ (k ls H locs hl hP hS)
        rw [oi_t hc]
        have pos : ∀ (ps : List (Int × Int)) (d x : Int), 0 ≤ (pc' : Int) + d → (∀ o ∈ ps, 0 ≤ (pc' : Int) + o.2) → 0 ≤ (pc' : Int) + Op.lookupswitch.offset ps d x := by
          intro ps
          induction ps with
          | nil => intro d x h1 _; exact h1
          | cons q ps ih =>
            intro d x h1 h2
            obtain ⟨qa, qo⟩ := q
            rw [Op.lookupswitch.offset_cons]
            split
            · exact h2 _ List.mem_cons_self
            · exact ih d x h1 (fun o ho => h2 o (List.mem_cons_of_mem _ ho))
        have h5 := pos ps0.toList d0 x0 hd0 (fun o ho => of_decide_eq_true (List.all_eq_true.mp hX.1.2 o ho))
        show _ = ((lswT pc' _ _ _ : Nat) : Int)
        unfold lswT jmp
        omega
      · cases h
    · cases h
  · -- arraylength
    (dsimp only [insN] at hn; subst hn)
    split at h
    · split at h
      · rename_i hs
        cases h
        rw [hnx] at k
        have hs := arrN_s hs
        refine va_alen hx hb hK hP _ 0 (WL_at hs) rfl ?_ hd (k ls H locs hl hP hS)
        apply Int32.toBitVec.inj
        simp
      · cases h
    · cases h
  · -- iaload
    (dsimp only [insN] at hn; subst hn)
    split at h
    · split at h
      · rename_i hs
        split at h
        · rename_i hc
          cases h
          rw [hnx] at k
          have hs := arrN_s hs
          refine va_iald hx hb hK hP _ 0 (WL_at hs) rfl (oi_in hc.1 hc.2.1 hc.2.2) hd ?_
          rw [oi_n ⟨by omega, by omega⟩, Int.toNat_of_nonneg hc.1]
          exact k ls H locs hl hP hS
        · cases h
      · cases h
    · cases h
  · -- baload
    (dsimp only [insN] at hn; subst hn)
    split at h
    · split at h
      · rename_i hs
        split at h
        · rename_i hc
          cases h
          rw [hnx] at k
          obtain ⟨hs, ht⟩ := arrB_s hs
          rcases ht with rfl | rfl
          · refine va_bald hx hb hK hP _ 1 (WL_at hs) rfl (oi_in hc.1 hc.2.1 hc.2.2) hd ?_
            rw [oi_n ⟨by omega, by omega⟩, Int.toNat_of_nonneg hc.1]
            exact k ls H locs hl hP hS
          · refine va_zald hx hb hK hP _ 2 (WL_at hs) rfl (oi_in hc.1 hc.2.1 hc.2.2) hd ?_
            rw [oi_n ⟨by omega, by omega⟩, Int.toNat_of_nonneg hc.1]
            exact k ls H locs hl hP hS
        · cases h
      · cases h
    · cases h
  · -- aaload
    (dsimp only [insN] at hn; subst hn)
    split at h
    · split at h
      · rename_i hs
        split at h
        · rename_i hc
          obtain ⟨t, h1, h2⟩ := Option.map_eq_some_iff.mp h
          cases h2
          rw [hnx] at k
          obtain ⟨t0, hs⟩ := refA_s hs
          have q := k ls H locs hl hP hS
          rcases shp_ref hs with rfl | rfl | rfl
          · refine so_aald hx hb hK hP _ 3 rfl (WL_at hs) rfl (oi_in hc.1 hc.2.1 hc.2.2) hd ?_
            rw [oi_n ⟨by omega, by omega⟩, h1]
            exact q
          · refine so_aald hx hb hK hP _ 4 rfl (WL_at hs) rfl (oi_in hc.1 hc.2.1 hc.2.2) hd ?_
            rw [oi_n ⟨by omega, by omega⟩, h1]
            exact q
          · refine so_aald hx hb hK hP _ 5 rfl (WL_at hs) rfl (oi_in hc.1 hc.2.1 hc.2.2) hd ?_
            rw [oi_n ⟨by omega, by omega⟩, h1]
            exact q
        · cases h
      · cases h
    · cases h
  · -- iastore
    (dsimp only [insN] at hn; subst hn)
    split at h
    · split at h
      · rename_i hs
        split at h
        · rename_i hc
          cases h
          rw [hnx] at k
          have hs := arrN_s hs
          refine va_iast hx hb hK hP hD hS _ 0 (WL_at hs) rfl (oi_in hc.1 hc.2.1 hc.2.2) hd (fun H1 locs1 hP1 _ hS1 => ?_)
          rw [oi_n ⟨by omega, by omega⟩, upd_of _ _ _ hc.1] at hP1
          exact k ls H1 locs1 hl (by show va_P _ _ (WL ad cT (setC M _ _)) H1; rw [← WL_set hs]; exact hP1) hS1
        · cases h
      · cases h
    · cases h
  · -- bastore
    (dsimp only [insN] at hn; subst hn)
    split at h
    · split at h
      · rename_i hs
        split at h
        · rename_i hc
          cases h
          rw [hnx] at k
          obtain ⟨hs, ht⟩ := arrB_s hs
          obtain ⟨hc1, hc2, hc3, hc4⟩ := hc
          rcases ht with rfl | rfl
          · have hc4 := hc4.elim (fun q => q.2) (fun q => absurd q.1 (by decide))
            refine va_bast hx hb hK hP hD hS _ 1 (WL_at hs) rfl (oi_in hc1 hc2 hc3) hd (fun H1 locs1 hP1 _ hS1 => ?_)
            rw [oi_n ⟨by omega, by omega⟩, vp_nar_byte, show (Int32.ofInt _).toInt8.toInt32 = Int32.ofInt _ from by
              apply Int32.toInt_inj.mp
              rw [Int8.toInt_toInt32, Int32.toInt_toInt8, oi_t ⟨by omega, by omega⟩]
              exact Int.bmod_eq_of_le (by omega) (by omega), upd_of _ _ _ hc1] at hP1
            exact k ls H1 locs1 hl (by show va_P _ _ (WL ad cT (setC M _ _)) H1; rw [← WL_set hs]; exact hP1) hS1
          · have hc4 := hc4.elim (fun q => absurd q.1 (by decide)) (fun q => q.2)
            refine va_zast hx hb hK hP hD hS _ 2 (WL_at hs) rfl (oi_in hc1 hc2 hc3) hd (fun H1 locs1 hP1 _ hS1 => ?_)
            rw [oi_n ⟨by omega, by omega⟩, nar_bool hc4, upd_of _ _ _ hc1] at hP1
            exact k ls H1 locs1 hl (by show va_P _ _ (WL ad cT (setC M _ _)) H1; rw [← WL_set hs]; exact hP1) hS1
        · cases h
      · cases h
    · cases h
  · -- getfield
    (dsimp only [insN] at hn; subst hn)
    obtain ⟨ow, C0, T, N, g1, g2, g3, g4⟩ := fl_ok _ (List.contains_iff_mem.mp hX)
    dsimp only at g1 g2 g3 g4
    cases hRN.symm.trans g1
    have hin := (cl_ok _ _ g2).1
    split at h
    · split at h
      · rename_i S0 c0 r0 x0 t0 hf
        cases h
        rw [hnx] at k
        obtain ⟨fs, hs, hf⟩ := fldA_s hf
        have hv := fv_ref (ad := ad) (f := M c0) hf
        rcases g4 with g4 | ⟨host, g4⟩
        · exact va_get hx hb hts hin hown hK hP _ (WL_at hs) g2 b g3 (hts _ g4) (fun _ q => q) hv hd (k ls H locs hl hP hS)
        · exact va_getN hx hb hts hin hown hK hP _ (WL_at hs) g2 b g3 (va_Nw.use rfl (hNW _ g4)) (fun _ q => q) hv hd (k ls H locs hl hP hS)
      · rename_i S0 c0 r0 x0 hf
        cases h
        rw [hnx] at k
        obtain ⟨fs, hs, hf⟩ := fldA_s hf
        have hv := fv_int (ad := ad) (f := M c0) hf
        rcases g4 with g4 | ⟨host, g4⟩
        · exact va_get hx hb hts hin hown hK hP _ (WL_at hs) g2 b g3 (hts _ g4) (fun _ q => q) hv hd (k ls H locs hl hP hS)
        · exact va_getN hx hb hts hin hown hK hP _ (WL_at hs) g2 b g3 (va_Nw.use rfl (hNW _ g4)) (fun _ q => q) hv hd (k ls H locs hl hP hS)
      · cases h
    · cases h
  · -- putfield
    (dsimp only [insN] at hn; subst hn)
    unfold chkX at hX
    dsimp only at hX
    rw [Bool.and_eq_true] at hX
    obtain ⟨ow, C0, T, N, g1, g2, g3, g4⟩ := fl_ok _ (List.contains_iff_mem.mp hX.1)
    obtain ⟨C1, T1, N1, g5, g6, g7⟩ := fp_ok _ (List.contains_iff_mem.mp hX.2)
    dsimp only at g1 g2 g3 g4 g5 g6 g7
    cases hRN.symm.trans g1
    cases g2.symm.trans g5
    obtain ⟨hin, ⟨ty0, hty⟩, hnm⟩ := cl_ok _ _ g2
    split at h
    · split at h
      · rename_i S0 v0 c0 r0 x0 hf
        cases h
        rw [hnx] at k
        obtain ⟨fs, hs, hf⟩ := fldA_s hf
        have hlen : b < (fvs ad (M c0) fs 0).length := (List.getElem?_eq_some_iff.mp (fv_int (ad := ad) (f := M c0) hf)).1
        have hpd : parseFieldDescriptor (T b).2.2.1 = some .int := by rw [g7]; decide +kernel
        have fin : ∀ (H1 : Heap) (locs1 : List Loc), va_P (dC, dI) vwCl ((WL ad cT M).set c0 (ad c0, .inr (a, (fvs ad (M c0) fs 0).set b (.int (Int32.ofInt v0))))) H1 → va_D (AD ad) ((WL ad cT M).set c0 (ad c0, .inr (a, (fvs ad (M c0) fs 0).set b (.int (Int32.ofInt v0))))) → va_S (AD ad) s.heap H1 locs1 → W p l e R s m args below meth c H1 locs1 cells slots Q (F0 m (pc' + 3) ls (r0.map (cz ad))) := fun H1 locs1 hP1 _ hS1 => by
          rw [fvs_set _ _ _ _ hf] at hP1
          exact k ls H1 locs1 hl (by show va_P _ _ (WL ad cT (setC M _ _)) H1; rw [← WL_set hs]; exact hP1) hS1
        rcases g4 with g4 | ⟨host, g4⟩
        · exact va_put hx hb hts hin ty0 hty hnm hown hK hP hD hS _ (WL_at hs) g2 b g3 (hts _ g4) (fun _ q => q) g6 hpd rfl rfl hlen hd fin
        · exact va_putN hx hb hts hin ty0 hty hnm hown hK hP hD hS _ (WL_at hs) g2 b g3 (va_Nw.use rfl (hNW _ g4)) (fun _ q => q) g6 hpd rfl rfl hlen hd fin
      · cases h
    · cases h
  · -- ireturn
    split at h
    · split at h <;> cases h
    · cases h
  · -- areturn
    split at h <;> cases h
  · -- return_
    split at h <;> cases h
  · -- ineg
    (dsimp only [insN] at hn; subst hn)
    split at h
    · obtain ⟨v, h1, h2⟩ := Option.map_eq_some_iff.mp h
      cases h2
      rw [hnx] at k
      rcases un_ok h1 with ⟨-, q⟩ | ⟨q, -⟩ | ⟨q, -⟩
      · refine lv_ineg hx hb hd ?_
        rw [← q]
        exact k ls H locs hl hP hS
      · cases q
      · cases q
    · cases h
  · -- i2b
    (dsimp only [insN] at hn; subst hn)
    split at h
    · obtain ⟨v, h1, h2⟩ := Option.map_eq_some_iff.mp h
      cases h2
      rw [hnx] at k
      rcases un_ok h1 with ⟨q, -⟩ | ⟨-, q⟩ | ⟨q, -⟩
      · cases q
      · exact lv_i2b hx hb hd q (k ls H locs hl hP hS)
      · cases q
    · cases h
  · -- i2s
    (dsimp only [insN] at hn; subst hn)
    split at h
    · obtain ⟨v, h1, h2⟩ := Option.map_eq_some_iff.mp h
      cases h2
      rw [hnx] at k
      rcases un_ok h1 with ⟨q, -⟩ | ⟨q, -⟩ | ⟨-, q⟩
      · cases q
      · cases q
      · exact lv_i2s hx hb hd q (k ls H locs hl hP hS)
    · cases h
  · -- the rest
    split at h
    · obtain ⟨v, h1, h2⟩ := Option.map_eq_some_iff.mp h
      cases h2
      have hn1 : n = 1 := by
        rcases bin_ok h1 with ⟨rfl, -⟩ | ⟨rfl, -⟩ | ⟨rfl, -⟩ | ⟨rfl, -⟩ | ⟨rfl, -⟩ | ⟨rfl, -⟩ | ⟨rfl, -⟩ | ⟨rfl, -⟩ | ⟨rfl, -⟩ | ⟨rfl, -⟩ <;> exact hn
      subst hn1
      rw [hnx] at k
      exact so_bin hx hb h1 hd (k ls H locs hl hP hS)
    · cases h
end SOSTEP
end
section
theorem pw_max1 : Cond.static Lib.Math.max.name ∈ GW := gw_at 572 (by decide +kernel) (by decide +kernel)
theorem pw_max2 : Cond.code Lib.Math.max.name Lib.Math.max.code 2 (some .int) ∈ GW := gw_at 573 (by decide +kernel) (by decide +kernel)
theorem pw_min1 : Cond.static Lib.Math.min.name ∈ GW := gw_at 569 (by decide +kernel) (by decide +kernel)
theorem pw_min2 : Cond.code Lib.Math.min.name Lib.Math.min.code 2 (some .int) ∈ GW := gw_at 570 (by decide +kernel) (by decide +kernel)
theorem pw_math : Cond.initialized "java/lang/Math" ∈ GW := gw_at 130 (by decide +kernel) (by decide +kernel)
theorem pw_sys : Cond.initialized "java/lang/System" ∈ GW := gw_at 128 (by decide +kernel) (by decide +kernel)
theorem pw_ac1 : Cond.static arraycopyName ∈ GW := gw_at 523 (by decide +kernel) (by decide +kernel)
theorem pw_ac2 : Cond.native arraycopyName ∈ GW := gw_at 524 (by decide +kernel) (by decide +kernel)
def prK (e : EN) : Bool := match e.2.1 with
  | .invokevirtual _ => Nat.blt e.2.2.2.1 1000 || Nat.ble 1003 e.2.2.2.1
  | .invokestatic _ => Nat.blt e.2.2.2.1 1003
  | _ => true
theorem prK_all : TBS.all (fun tb => tb.all prK) = true := by decide +kernel
theorem prK_at {y : Nat} {tb : List EN} (h : TBS[y]? = some tb) {e : EN} (he : e ∈ tb) : prK e = true := List.all_eq_true.mp (List.all_eq_true.mp prK_all _ (List.mem_of_getElem? h)) e he
end
section
/-! String.length(), charAt() of constants -/
set_option maxRecDepth 20000 in
theorem kc_coder : Cond.code yJ0_coder_7d493 cJ0_coder_7d493 1 (some .byte) ∈ GW := gw_at 454 rfl rfl
theorem ki_coder : Cond.instanceMethod yJ0_coder_7d493 ∈ GW := gw_at 452 (by decide +kernel) (by decide +kernel)
theorem ke_coder : Cond.selects yJ0_coder_7d493.cls yJ0_coder_7d493 yJ0_coder_7d493 ∈ GW := gw_at 453 (by decide +kernel) (by decide +kernel)
set_option maxRecDepth 20000 in
theorem kc_length : Cond.code yJ0_length_8abf5 cJ0_length_8abf5 1 (some .int) ∈ GW := gw_at 450 rfl rfl
theorem ki_length : Cond.instanceMethod yJ0_length_8abf5 ∈ GW := gw_at 448 (by decide +kernel) (by decide +kernel)
theorem ke_length : Cond.selects yJ0_length_8abf5.cls yJ0_length_8abf5 yJ0_length_8abf5 ∈ GW := gw_at 449 (by decide +kernel) (by decide +kernel)
set_option maxRecDepth 20000 in
theorem kc_lat : Cond.code yJ0_isLatin1_aae02 cJ0_isLatin1_aae02 1 (some .boolean) ∈ GW := gw_at 465 rfl rfl
theorem ki_lat : Cond.instanceMethod yJ0_isLatin1_aae02 ∈ GW := gw_at 463 (by decide +kernel) (by decide +kernel)
theorem ke_lat : Cond.selects yJ0_isLatin1_aae02.cls yJ0_isLatin1_aae02 yJ0_isLatin1_aae02 ∈ GW := gw_at 464 (by decide +kernel) (by decide +kernel)
set_option maxRecDepth 20000 in
theorem kc_chr : Cond.code yJ0_charAt_5068e cJ0_charAt_5068e 2 (some .char) ∈ GW := gw_at 461 rfl rfl
theorem ki_chr : Cond.instanceMethod yJ0_charAt_5068e ∈ GW := gw_at 459 (by decide +kernel) (by decide +kernel)
theorem ke_chr : Cond.selects yJ0_charAt_5068e.cls yJ0_charAt_5068e yJ0_charAt_5068e ∈ GW := gw_at 460 (by decide +kernel) (by decide +kernel)
set_option maxRecDepth 20000 in
theorem kc_sci : Cond.code yJ0_checkIndex_df160 cJ0_checkIndex_df160 2 none ∈ GW := gw_at 471 rfl rfl
theorem ks_sci : Cond.static yJ0_checkIndex_df160 ∈ GW := gw_at 470 (by decide +kernel) (by decide +kernel)
set_option maxRecDepth 20000 in
theorem kc_lch : Cond.code yJ1_charAt_3b067 cJ1_charAt_3b067 2 (some .char) ∈ GW := gw_at 468 rfl rfl
theorem ks_lch : Cond.static yJ1_charAt_3b067 ∈ GW := gw_at 467 (by decide +kernel) (by decide +kernel)
set_option maxRecDepth 20000 in
theorem kc_pci : Cond.code yJ3_checkIndex_8e157 cJ3_checkIndex_8e157 3 (some .int) ∈ GW := gw_at 476 rfl rfl
theorem ks_pci : Cond.static yJ3_checkIndex_8e157 ∈ GW := gw_at 475 (by decide +kernel) (by decide +kernel)
theorem kn_J0 : Cond.initialized RJ0 ∈ GW := gw_at 124 (by decide +kernel) (by decide +kernel)
theorem kn_J1 : Cond.initialized RJ1 ∈ GW := gw_at 125 (by decide +kernel) (by decide +kernel)
theorem kn_J3 : Cond.initialized RJ3 ∈ GW := gw_at 126 (by decide +kernel) (by decide +kernel)
theorem kl_coder : Cond.methodLink RJ0 335 yJ0_coder_7d493 ∈ GW := gw_at 451 (by decide +kernel) (by decide +kernel)
theorem kl_lat : Cond.methodLink RJ0 492 yJ0_isLatin1_aae02 ∈ GW := gw_at 462 (by decide +kernel) (by decide +kernel)
theorem kl_lch : Cond.methodLink RJ0 495 yJ1_charAt_3b067 ∈ GW := gw_at 466 (by decide +kernel) (by decide +kernel)
theorem kl_sci : Cond.methodLink RJ1 9 yJ0_checkIndex_df160 ∈ GW := gw_at 469 (by decide +kernel) (by decide +kernel)
theorem kl_pci : Cond.methodLink RJ0 1059 yJ3_checkIndex_8e157 ∈ GW := gw_at 474 (by decide +kernel) (by decide +kernel)
theorem kf_value : Cond.fieldLink RJ0 9 "java/lang/String" "value" "[B" ∈ GW := gw_at 1340 (by decide +kernel) (by decide +kernel)
theorem kf_coder : Cond.fieldLink RJ0 15 "java/lang/String" "coder" "B" ∈ GW := gw_at 1341 (by decide +kernel) (by decide +kernel)
theorem kf_comp : Cond.fieldLink RJ0 38 "java/lang/String" "COMPACT_STRINGS" "Z" ∈ GW := gw_at 455 (by decide +kernel) (by decide +kernel)
theorem kf_sio : Cond.fieldLink RJ0 1053 "jdk/internal/util/Preconditions" "SIOOBE_FORMATTER" "Ljava/util/function/BiFunction;" ∈ GW := gw_at 472 (by decide +kernel) (by decide +kernel)
theorem dd_coder_0 : decode cJ0_coder_7d493 0 = .ok (.getstatic 38, 3) := by decide +kernel
theorem dd_coder_3 : decode cJ0_coder_7d493 3 = .ok (.ifCond .eq 10, 3) := by decide +kernel
theorem dd_coder_6 : decode cJ0_coder_7d493 6 = .ok (.aload_n 0, 1) := by decide +kernel
theorem dd_coder_7 : decode cJ0_coder_7d493 7 = .ok (.getfield 15, 3) := by decide +kernel
theorem dd_coder_10 : decode cJ0_coder_7d493 10 = .ok (.goto 4, 3) := by decide +kernel
theorem dd_coder_13 : decode cJ0_coder_7d493 13 = .ok (.iconst 1, 1) := by decide +kernel
theorem dd_coder_14 : decode cJ0_coder_7d493 14 = .ok (.ireturn, 1) := by decide +kernel
theorem dd_length_0 : decode cJ0_length_8abf5 0 = .ok (.aload_n 0, 1) := by decide +kernel
theorem dd_length_1 : decode cJ0_length_8abf5 1 = .ok (.getfield 9, 3) := by decide +kernel
theorem dd_length_4 : decode cJ0_length_8abf5 4 = .ok (.arraylength, 1) := by decide +kernel
theorem dd_length_5 : decode cJ0_length_8abf5 5 = .ok (.aload_n 0, 1) := by decide +kernel
theorem dd_length_6 : decode cJ0_length_8abf5 6 = .ok (.invokevirtual 335, 3) := by decide +kernel
theorem dd_length_9 : decode cJ0_length_8abf5 9 = .ok (.ishr, 1) := by decide +kernel
theorem dd_length_10 : decode cJ0_length_8abf5 10 = .ok (.ireturn, 1) := by decide +kernel
theorem dd_lat_0 : decode cJ0_isLatin1_aae02 0 = .ok (.getstatic 38, 3) := by decide +kernel
theorem dd_lat_3 : decode cJ0_isLatin1_aae02 3 = .ok (.ifCond .eq 14, 3) := by decide +kernel
theorem dd_lat_6 : decode cJ0_isLatin1_aae02 6 = .ok (.aload_n 0, 1) := by decide +kernel
theorem dd_lat_7 : decode cJ0_isLatin1_aae02 7 = .ok (.getfield 15, 3) := by decide +kernel
theorem dd_lat_10 : decode cJ0_isLatin1_aae02 10 = .ok (.ifCond .ne 7, 3) := by decide +kernel
theorem dd_lat_13 : decode cJ0_isLatin1_aae02 13 = .ok (.iconst 1, 1) := by decide +kernel
theorem dd_lat_14 : decode cJ0_isLatin1_aae02 14 = .ok (.goto 4, 3) := by decide +kernel
theorem dd_lat_17 : decode cJ0_isLatin1_aae02 17 = .ok (.iconst 0, 1) := by decide +kernel
theorem dd_lat_18 : decode cJ0_isLatin1_aae02 18 = .ok (.ireturn, 1) := by decide +kernel
theorem dd_chr_0 : decode cJ0_charAt_5068e 0 = .ok (.aload_n 0, 1) := by decide +kernel
theorem dd_chr_1 : decode cJ0_charAt_5068e 1 = .ok (.invokevirtual 492, 3) := by decide +kernel
theorem dd_chr_4 : decode cJ0_charAt_5068e 4 = .ok (.ifCond .eq 12, 3) := by decide +kernel
theorem dd_chr_7 : decode cJ0_charAt_5068e 7 = .ok (.aload_n 0, 1) := by decide +kernel
theorem dd_chr_8 : decode cJ0_charAt_5068e 8 = .ok (.getfield 9, 3) := by decide +kernel
theorem dd_chr_11 : decode cJ0_charAt_5068e 11 = .ok (.iload_n 1, 1) := by decide +kernel
theorem dd_chr_12 : decode cJ0_charAt_5068e 12 = .ok (.invokestatic 495, 3) := by decide +kernel
theorem dd_chr_15 : decode cJ0_charAt_5068e 15 = .ok (.ireturn, 1) := by decide +kernel
theorem dd_chr_16 : decode cJ0_charAt_5068e 16 = .ok (.aload_n 0, 1) := by decide +kernel
theorem dd_chr_17 : decode cJ0_charAt_5068e 17 = .ok (.getfield 9, 3) := by decide +kernel
theorem dd_chr_20 : decode cJ0_charAt_5068e 20 = .ok (.iload_n 1, 1) := by decide +kernel
theorem dd_chr_21 : decode cJ0_charAt_5068e 21 = .ok (.invokestatic 498, 3) := by decide +kernel
theorem dd_chr_24 : decode cJ0_charAt_5068e 24 = .ok (.ireturn, 1) := by decide +kernel
theorem dd_sci_0 : decode cJ0_checkIndex_df160 0 = .ok (.iload_n 0, 1) := by decide +kernel
theorem dd_sci_1 : decode cJ0_checkIndex_df160 1 = .ok (.iload_n 1, 1) := by decide +kernel
theorem dd_sci_2 : decode cJ0_checkIndex_df160 2 = .ok (.getstatic 1053, 3) := by decide +kernel
theorem dd_sci_5 : decode cJ0_checkIndex_df160 5 = .ok (.invokestatic 1059, 3) := by decide +kernel
theorem dd_sci_8 : decode cJ0_checkIndex_df160 8 = .ok (.pop, 1) := by decide +kernel
theorem dd_sci_9 : decode cJ0_checkIndex_df160 9 = .ok (.return_, 1) := by decide +kernel
theorem dd_lch_0 : decode cJ1_charAt_3b067 0 = .ok (.iload_n 1, 1) := by decide +kernel
theorem dd_lch_1 : decode cJ1_charAt_3b067 1 = .ok (.aload_n 0, 1) := by decide +kernel
theorem dd_lch_2 : decode cJ1_charAt_3b067 2 = .ok (.arraylength, 1) := by decide +kernel
theorem dd_lch_3 : decode cJ1_charAt_3b067 3 = .ok (.invokestatic 9, 3) := by decide +kernel
theorem dd_lch_6 : decode cJ1_charAt_3b067 6 = .ok (.aload_n 0, 1) := by decide +kernel
theorem dd_lch_7 : decode cJ1_charAt_3b067 7 = .ok (.iload_n 1, 1) := by decide +kernel
theorem dd_lch_8 : decode cJ1_charAt_3b067 8 = .ok (.baload, 1) := by decide +kernel
theorem dd_lch_9 : decode cJ1_charAt_3b067 9 = .ok (.sipush 255, 3) := by decide +kernel
theorem dd_lch_12 : decode cJ1_charAt_3b067 12 = .ok (.iand, 1) := by decide +kernel
theorem dd_lch_13 : decode cJ1_charAt_3b067 13 = .ok (.i2c, 1) := by decide +kernel
theorem dd_lch_14 : decode cJ1_charAt_3b067 14 = .ok (.ireturn, 1) := by decide +kernel
theorem dd_pci_0 : decode cJ3_checkIndex_8e157 0 = .ok (.iload_n 0, 1) := by decide +kernel
theorem dd_pci_1 : decode cJ3_checkIndex_8e157 1 = .ok (.ifCond .lt 8, 3) := by decide +kernel
theorem dd_pci_4 : decode cJ3_checkIndex_8e157 4 = .ok (.iload_n 0, 1) := by decide +kernel
theorem dd_pci_5 : decode cJ3_checkIndex_8e157 5 = .ok (.iload_n 1, 1) := by decide +kernel
theorem dd_pci_6 : decode cJ3_checkIndex_8e157 6 = .ok (.if_icmp .lt 10, 3) := by decide +kernel
theorem dd_pci_9 : decode cJ3_checkIndex_8e157 9 = .ok (.aload_n 2, 1) := by decide +kernel
theorem dd_pci_10 : decode cJ3_checkIndex_8e157 10 = .ok (.iload_n 0, 1) := by decide +kernel
theorem dd_pci_11 : decode cJ3_checkIndex_8e157 11 = .ok (.iload_n 1, 1) := by decide +kernel
theorem dd_pci_12 : decode cJ3_checkIndex_8e157 12 = .ok (.invokestatic 95, 3) := by decide +kernel
theorem dd_pci_15 : decode cJ3_checkIndex_8e157 15 = .ok (.athrow, 1) := by decide +kernel
theorem dd_pci_16 : decode cJ3_checkIndex_8e157 16 = .ok (.iload_n 0, 1) := by decide +kernel
theorem dd_pci_17 : decode cJ3_checkIndex_8e157 17 = .ok (.ireturn, 1) := by decide +kernel
section SOSTR
variable {ad : Nat → Nat} {adV : Nat → Nat}
variable {p : Program} {l : Launch} {e : Env} {R : Room} {s : State} {m : MethodId} {args : Array Value} {below : List Frame} {meth : Method} {c : Code} {cells slots : Nat} {Q : State → Prop}
theorem StrOK.go {H : Heap} {locs : List Loc} (h : StrOK ad adV s s.heap) (hS : va_S (AD ad) s.heap H locs) {U : State} (hU : U.heap = H) (hW : s.WarmedH U.vm) : StrOK ad adV U U.heap := by
  obtain ⟨h4, h5, h6, h7⟩ := h
  refine ⟨?_, fun e he => ?_, ?_, ?_⟩
  · rw [hU]
    exact vk_S.moved hW.alike (vk_S.kept h4 hS.2.1)
  · obtain ⟨own, tx, g1, g2⟩ := h5 e he
    exact ⟨own, tx, g1, vk_R.warm hW g2⟩
  · rw [hU]
    exact va_Z.moved hW.alike (va_Z.kept h6 hS.2.1)
  · rw [hU]
    exact va_Zq.moved hW.alike (va_Zq.kept h7 hS.2.1)
theorem StrOK.same {U U' : State} (h : StrOK ad adV U U.heap) (hv : U'.vm = U.vm) (hh : U'.heap = U.heap) : StrOK ad adV U' U'.heap := by
  obtain ⟨h4, h5, h6, h7⟩ := h
  have ha : U.vm.Alike U'.vm := by rw [hv]; exact Vm.Alike.refl _
  refine ⟨?_, fun e he => ?_, ?_, ?_⟩
  · rw [hh]
    exact vk_S.moved ha h4
  · obtain ⟨own, tx, g1, g2⟩ := h5 e he
    exact ⟨own, tx, g1, vk_R.same hv g2⟩
  · rw [hh]
    exact va_Z.moved ha h6
  · rw [hh]
    exact va_Zq.moved ha h7
def rmS (D : Nat) : Room := { frames := D, cells := 0, slots := 0, locals := 100 * D }
def PcS (ad adV : Nat → Nat) (as : List Value) : Array Value → State → Prop := va_Pc as (fun U => StrOK ad adV U U.heap)
def QcS (r : Option Value) : Array Value → State → Outcome → State → Prop := fun _ st oc t => oc = .returned r ∧ t.heap = st.heap
theorem PcS_blind (as : List Value) : FrameBlind (PcS ad adV as) := fun a U g mk q => ⟨q.1, StrOK.same q.2 rfl rfl⟩
theorem gwc {y : MethodName} {cc : ByteArray} {n : Nat} {ret : Option FieldType} (h : Cond.code y cc n ret ∈ GW) : GoodIn GW (Cond.code y cc n ret :: GW) := by
  intro w hw
  have hg : w ∈ GW := by
    rcases List.mem_cons.mp hw with rfl | q
    · exact h
    · exact q
  exact ⟨hg, good_of_word (List.mem_filter.mp hg).2⟩
theorem so_pure {H : Heap} {locs : List Loc} {ls : Array Slot} {st0 rest : List Value} {pc : Nat} {r : Option Value} {a : Array Value} (hr : va_Run p l e R s m args below meth c H locs cells slots 0 0 (F0 m pc ls st0) rest (QcS r a) (fun _ => False)) (kk : W p l e R s m args below meth c H locs cells slots Q (F0 m (pc + 3) ls (r.toList ++ rest))) : W p l e R s m args below meth c H locs cells slots Q (F0 m pc ls st0) := by
  intro T hT X
  obtain ⟨v, st₀, t, T', L, h0, X', hL, e1, e2, ⟨hv, hp⟩, st⟩ := hr T hT X
  cases hv
  have hL0 : L = [] := by
    cases L with
    | nil => rfl
    | cons a L => exact (hL a List.mem_cons_self).elim
  subst hL0
  obtain ⟨t2, a1, b1⟩ := kk T' (by rw [e1, hp, h0]) (by simpa using X')
  exact ⟨t2, st t2 a1, b1⟩
set_option maxHeartbeats 4000000 in
set_option maxRecDepth 20000 in
theorem s_coder (l : Launch) (i : Nat) (hi : i < 5) : Met l yJ0_coder_7d493 (Cond.code yJ0_coder_7d493 cJ0_coder_7d493 1 (some .byte) :: GW) (rmS 0) (PcS ad adV [.ref (ad (100 + i))]) (QcS (some (.int 0))) 0 0 (fun _ => False) := by
  refine Met.ofW (cc := cJ0_coder_7d493) (maxL := 1) (ret := (some .byte)) (by decide) rfl ?_
  intro p e s m args below meth c s₁ B hml hv
  obtain ⟨rfl, hW⟩ := hv
  have hts0 := atoms_spec (ws := Cond.code yJ0_coder_7d493 cJ0_coder_7d493 1 (some .byte) :: GW) B.pre
  have hts : ∀ w ∈ GW, w.before _ s = true := fun w hw => hts0 w (List.mem_cons_of_mem _ hw)
  have hown : s.vm.findClass RJ0 = some m.cls := findClass_of_methodNamed B.named
  have hx := B.exec
  have hb := B.bytes
  have hr := B.returns
  have hlocks := B.notSynchronized
  obtain ⟨hT, hR, hZ, hZq⟩ := id hW
  have hS : va_S (AD ad) s.heap s.heap [] := va_S.rf
  have hl := lv_entry [.ref (ad (100 + i))] (n := 1) (Nat.le_of_ble_eq_true rfl)
  rw [lg_entry_eq]
  generalize (lg_sl [.ref (ad (100 + i))] ++ List.replicate (1 - (lg_sl [.ref (ad (100 + i))]).length) Slot.unset).toArray = ls at hl ⊢
  have hl : lv_has ls 1 [(0, .ref (ad (100 + i)))] := hl
  refine va_gets hx hb hZ hS hown (hts _ kf_comp) (fun _ h => h) dd_coder_0 ?_
  refine lv_if_eq (tgt := 13) hx hb dd_coder_3 (by decide) (fun g => absurd g (by decide)) (fun _ => ?_)
  refine lv_aload_n hx hb dd_coder_6 rfl (lv_at hl 0 rfl) ?_
  refine vk_getf hx hb (hT.1 i hi).2.1 hS hown (hts _ kf_coder) (fun _ h => h) dd_coder_7 ?_
  refine lv_goto (tgt := 14) hx hb dd_coder_10 (by decide) ?_
  exact W.zret hx hb hr rfl (fun t ht hW => ⟨rfl, ht⟩) (fun q hq => by cases hq) dd_coder_14 hlocks
set_option maxHeartbeats 4000000 in
set_option maxRecDepth 20000 in
theorem s_lat (l : Launch) (i : Nat) (hi : i < 5) : Met l yJ0_isLatin1_aae02 (Cond.code yJ0_isLatin1_aae02 cJ0_isLatin1_aae02 1 (some .boolean) :: GW) (rmS 0) (PcS ad adV [.ref (ad (100 + i))]) (QcS (some (.int 1))) 0 0 (fun _ => False) := by
  refine Met.ofW (cc := cJ0_isLatin1_aae02) (maxL := 1) (ret := (some .boolean)) (by decide) rfl ?_
  intro p e s m args below meth c s₁ B hml hv
  obtain ⟨rfl, hW⟩ := hv
  have hts0 := atoms_spec (ws := Cond.code yJ0_isLatin1_aae02 cJ0_isLatin1_aae02 1 (some .boolean) :: GW) B.pre
  have hts : ∀ w ∈ GW, w.before _ s = true := fun w hw => hts0 w (List.mem_cons_of_mem _ hw)
  have hown : s.vm.findClass RJ0 = some m.cls := findClass_of_methodNamed B.named
  have hx := B.exec
  have hb := B.bytes
  have hr := B.returns
  have hlocks := B.notSynchronized
  obtain ⟨hT, hR, hZ, hZq⟩ := id hW
  have hS : va_S (AD ad) s.heap s.heap [] := va_S.rf
  have hl := lv_entry [.ref (ad (100 + i))] (n := 1) (Nat.le_of_ble_eq_true rfl)
  rw [lg_entry_eq]
  generalize (lg_sl [.ref (ad (100 + i))] ++ List.replicate (1 - (lg_sl [.ref (ad (100 + i))]).length) Slot.unset).toArray = ls at hl ⊢
  have hl : lv_has ls 1 [(0, .ref (ad (100 + i)))] := hl
  refine va_gets hx hb hZ hS hown (hts _ kf_comp) (fun _ h => h) dd_lat_0 ?_
  refine lv_if_eq (tgt := 17) hx hb dd_lat_3 (by decide) (fun g => absurd g (by decide)) (fun _ => ?_)
  refine lv_aload_n hx hb dd_lat_6 rfl (lv_at hl 0 rfl) ?_
  refine vk_getf hx hb (hT.1 i hi).2.1 hS hown (hts _ kf_coder) (fun _ h => h) dd_lat_7 ?_
  refine lv_if_ne (tgt := 17) hx hb dd_lat_10 (by decide) (fun g => absurd g (by decide)) (fun _ => ?_)
  refine lv_iconst (v := 1) hx hb dd_lat_13 (by decide) ?_
  refine lv_goto (tgt := 18) hx hb dd_lat_14 (by decide) ?_
  exact W.zret hx hb hr rfl (fun t ht hW => ⟨rfl, ht⟩) (fun q hq => by cases hq) dd_lat_18 hlocks
theorem len_shr : ∀ i, i < 5 → (Int32.ofNat (LEN.getD i 0)) >>> ((0 : Int32) &&& 31) = Int32.ofNat (LEN.getD i 0) := by decide
set_option maxHeartbeats 4000000 in
set_option maxRecDepth 20000 in
theorem s_len (l : Launch) (i : Nat) (hi : i < 5) : Met l yJ0_length_8abf5 (Cond.code yJ0_length_8abf5 cJ0_length_8abf5 1 (some .int) :: GW) (rmS 1) (PcS ad adV [.ref (ad (100 + i))]) (QcS (some (.int (Int32.ofNat (LEN.getD i 0))))) 0 0 (fun _ => False) := by
  refine Met.ofW (cc := cJ0_length_8abf5) (maxL := 1) (ret := (some .int)) (by decide) rfl ?_
  intro p e s m args below meth c s₁ B hml hv
  obtain ⟨rfl, hW⟩ := hv
  have hts0 := atoms_spec (ws := Cond.code yJ0_length_8abf5 cJ0_length_8abf5 1 (some .int) :: GW) B.pre
  have hts : ∀ w ∈ GW, w.before _ s = true := fun w hw => hts0 w (List.mem_cons_of_mem _ hw)
  have hown : s.vm.findClass RJ0 = some m.cls := findClass_of_methodNamed B.named
  have hx := B.exec
  have hb := B.bytes
  have hr := B.returns
  have hlocks := B.notSynchronized
  obtain ⟨hT, hR, hZ, hZq⟩ := id hW
  have hS : va_S (AD ad) s.heap s.heap [] := va_S.rf
  have hl := lv_entry [.ref (ad (100 + i))] (n := 1) (Nat.le_of_ble_eq_true rfl)
  rw [lg_entry_eq]
  generalize (lg_sl [.ref (ad (100 + i))] ++ List.replicate (1 - (lg_sl [.ref (ad (100 + i))]).length) Slot.unset).toArray = ls at hl ⊢
  have hl : lv_has ls 1 [(0, .ref (ad (100 + i)))] := hl
  refine lv_aload_n hx hb dd_length_0 rfl (lv_at hl 0 rfl) ?_
  refine vk_getf hx hb (hT.1 i hi).2.2.1 hS hown (hts _ kf_value) (fun _ h => h) dd_length_1 ?_
  refine va_tlen hx hb (hT.1 i hi).2.2.2 hS rfl dd_length_4 ?_
  refine lv_aload_n hx hb dd_length_5 rfl (lv_at hl 0 rfl) ?_
  refine so_pure (va_runV (C := yJ0_coder_7d493.cls) (Ts := GW) (As := []) (rest := [.int (Int32.ofNat (LEN.getD i 0))]) ⟨hx, hb, hml, hown, hts⟩ (s_coder (ad := ad) (adV := adV) l i hi) ⟨callB_of (Ts := GW) (ws' := GW) 0 hts (gwc kc_coder) rfl rfl rfl (hts _ kn_J0) (hts _ kl_coder) ⟨by decide +kernel, by decide +kernel, by decide +kernel⟩ ⟨Nat.le_of_ble_eq_true rfl, Nat.le_of_ble_eq_true rfl⟩, hts _ ki_coder, hts _ ke_coder⟩ ⟨PcS_blind _, vk_recv hT hi hS, fun U hU hW2 => ⟨rfl, StrOK.go hW hS hU hW2⟩⟩ rfl rfl hl.1 rfl (lv_room (Nat.le_of_ble_eq_true rfl)) dd_length_6 ⟨Nat.zero_le _, Nat.zero_le _⟩) ?_
  refine lv_ishr hx hb dd_length_9 ?_
  rw [len_shr i hi]
  exact W.iret hx hb hr (fun t ht hW => ⟨rfl, ht⟩) (fun q hq => by cases hq) dd_length_10 hlocks
set_option maxHeartbeats 4000000 in
set_option maxRecDepth 20000 in
theorem s_pci (l : Launch) (x n : Int32) (h0 : ¬ x < 0) (h1 : x < n) (f : Value) (hf : f = .null ∨ ∃ t, f = .ref t) : Met l yJ3_checkIndex_8e157 (Cond.code yJ3_checkIndex_8e157 cJ3_checkIndex_8e157 3 (some .int) :: GW) (rmS 0) (PcS ad adV [.int x, .int n, f]) (QcS (some (.int x))) 0 0 (fun _ => False) := by
  refine Met.ofW (cc := cJ3_checkIndex_8e157) (maxL := 3) (ret := (some .int)) (by decide) rfl ?_
  intro p e s m args below meth c s₁ B hml hv
  obtain ⟨rfl, hW⟩ := hv
  have hts0 := atoms_spec (ws := Cond.code yJ3_checkIndex_8e157 cJ3_checkIndex_8e157 3 (some .int) :: GW) B.pre
  have hts : ∀ w ∈ GW, w.before _ s = true := fun w hw => hts0 w (List.mem_cons_of_mem _ hw)
  have hown : s.vm.findClass RJ3 = some m.cls := findClass_of_methodNamed B.named
  have hx := B.exec
  have hb := B.bytes
  have hr := B.returns
  have hlocks := B.notSynchronized
  obtain ⟨hT, hR, hZ, hZq⟩ := id hW
  have hS : va_S (AD ad) s.heap s.heap [] := va_S.rf
  have hl := lv_entry [.int x, .int n, f] (n := 3) (by rcases hf with rfl | ⟨t, rfl⟩ <;> exact Nat.le_of_ble_eq_true rfl)
  rw [lg_entry_eq]
  generalize (lg_sl [.int x, .int n, f] ++ List.replicate (3 - (lg_sl [.int x, .int n, f]).length) Slot.unset).toArray = ls at hl ⊢
  have hl : lv_has ls 3 [(0, .int x), (1, .int n)] := by rcases hf with rfl | ⟨t, rfl⟩ <;> exact lv_sub hl [0, 1] rfl
  refine lv_iload_n hx hb dd_pci_0 rfl (lv_at hl 0 rfl) ?_
  refine lv_if_lt (tgt := 9) hx hb dd_pci_1 (by decide) (fun g => absurd g h0) (fun _ => ?_)
  refine lv_iload_n hx hb dd_pci_4 rfl (lv_at hl 0 rfl) ?_
  refine lv_iload_n hx hb dd_pci_5 rfl (lv_at hl 1 rfl) ?_
  refine lv_icmp_lt (tgt := 16) hx hb dd_pci_6 (by decide) (fun _ => ?_) (fun g => absurd h1 g)
  refine lv_iload_n hx hb dd_pci_16 rfl (lv_at hl 0 rfl) ?_
  exact W.iret hx hb hr (fun t ht hW => ⟨rfl, ht⟩) (fun q hq => by cases hq) dd_pci_17 hlocks
set_option maxHeartbeats 4000000 in
set_option maxRecDepth 20000 in
theorem s_sci (l : Launch) (x n : Int32) (h0 : ¬ x < 0) (h1 : x < n) : Met l yJ0_checkIndex_df160 (Cond.code yJ0_checkIndex_df160 cJ0_checkIndex_df160 2 none :: GW) (rmS 1) (PcS ad adV [.int x, .int n]) (QcS (none)) 0 0 (fun _ => False) := by
  refine Met.ofW (cc := cJ0_checkIndex_df160) (maxL := 2) (ret := none) (by decide) rfl ?_
  intro p e s m args below meth c s₁ B hml hv
  obtain ⟨rfl, hW⟩ := hv
  have hts0 := atoms_spec (ws := Cond.code yJ0_checkIndex_df160 cJ0_checkIndex_df160 2 none :: GW) B.pre
  have hts : ∀ w ∈ GW, w.before _ s = true := fun w hw => hts0 w (List.mem_cons_of_mem _ hw)
  have hown : s.vm.findClass RJ0 = some m.cls := findClass_of_methodNamed B.named
  have hx := B.exec
  have hb := B.bytes
  have hr := B.returns
  have hlocks := B.notSynchronized
  obtain ⟨hT, hR, hZ, hZq⟩ := id hW
  have hS : va_S (AD ad) s.heap s.heap [] := va_S.rf
  have hl := lv_entry [.int x, .int n] (n := 2) (Nat.le_of_ble_eq_true rfl)
  rw [lg_entry_eq]
  generalize (lg_sl [.int x, .int n] ++ List.replicate (2 - (lg_sl [.int x, .int n]).length) Slot.unset).toArray = ls at hl ⊢
  have hl : lv_has ls 2 [(0, .int x), (1, .int n)] := hl
  rcases hZq with hZn | ⟨t, hZt⟩
  · refine lv_iload_n hx hb dd_sci_0 rfl (lv_at hl 0 rfl) ?_
    refine lv_iload_n hx hb dd_sci_1 rfl (lv_at hl 1 rfl) ?_
    refine va_gets hx hb hZn hS hown (hts _ kf_sio) (fun _ h => h) dd_sci_2 ?_
    refine so_pure (va_runS (Ts := GW) (As := [.int x, .int n, .null]) (rest := []) ⟨hx, hb, hml, hown, hts⟩ (s_pci (ad := ad) (adV := adV) l x n h0 h1 .null (Or.inl rfl)) ⟨callB_of (Ts := GW) (ws' := GW) 3 hts (gwc kc_pci) rfl rfl rfl (hts _ kn_J3) (hts _ kl_pci) ⟨by decide +kernel, by decide +kernel, by decide +kernel⟩ ⟨Nat.le_of_ble_eq_true rfl, Nat.le_of_ble_eq_true rfl⟩, hts _ ks_pci⟩ ⟨PcS_blind _, fun U hU hW2 => ⟨rfl, StrOK.go hW hS hU hW2⟩⟩ rfl rfl hl.1 rfl (lv_room (Nat.le_of_ble_eq_true rfl)) dd_sci_5 ⟨Nat.zero_le _, Nat.zero_le _⟩) ?_
    refine lv_pop hx hb dd_sci_8 rfl ?_
    exact W.vret hx hb hr (fun t ht hW => ⟨rfl, ht⟩) (fun q hq => by cases hq) dd_sci_9 hlocks
  · refine lv_iload_n hx hb dd_sci_0 rfl (lv_at hl 0 rfl) ?_
    refine lv_iload_n hx hb dd_sci_1 rfl (lv_at hl 1 rfl) ?_
    refine va_gets hx hb hZt hS hown (hts _ kf_sio) (fun _ h => h) dd_sci_2 ?_
    refine so_pure (va_runS (Ts := GW) (As := [.int x, .int n, .ref t]) (rest := []) ⟨hx, hb, hml, hown, hts⟩ (s_pci (ad := ad) (adV := adV) l x n h0 h1 (.ref t) (Or.inr ⟨t, rfl⟩)) ⟨callB_of (Ts := GW) (ws' := GW) 3 hts (gwc kc_pci) rfl rfl rfl (hts _ kn_J3) (hts _ kl_pci) ⟨by decide +kernel, by decide +kernel, by decide +kernel⟩ ⟨Nat.le_of_ble_eq_true rfl, Nat.le_of_ble_eq_true rfl⟩, hts _ ks_pci⟩ ⟨PcS_blind _, fun U hU hW2 => ⟨rfl, StrOK.go hW hS hU hW2⟩⟩ rfl rfl hl.1 rfl (lv_room (Nat.le_of_ble_eq_true rfl)) dd_sci_5 ⟨Nat.zero_le _, Nat.zero_le _⟩) ?_
    refine lv_pop hx hb dd_sci_8 rfl ?_
    exact W.vret hx hb hr (fun t ht hW => ⟨rfl, ht⟩) (fun q hq => by cases hq) dd_sci_9 hlocks
theorem chr_v : ∀ i, i < 5 → ∀ j, j < 6 → j < LEN.getD i 0 → ((((BYT.getD i []).getD j 0) &&& 255).toUInt32 % 65536).toInt32 = (BYT.getD i []).getD j 0 ∧ narrow .char (.int ((BYT.getD i []).getD j 0)) = .int ((BYT.getD i []).getD j 0) := by decide
theorem len_6 : ∀ i, i < 5 → LEN.getD i 0 ≤ 6 := by decide
set_option maxHeartbeats 4000000 in
set_option maxRecDepth 20000 in
theorem s_lch (l : Launch) (i : Nat) (hi : i < 5) (j : Nat) (hj : j < LEN.getD i 0) : Met l yJ1_charAt_3b067 (Cond.code yJ1_charAt_3b067 cJ1_charAt_3b067 2 (some .char) :: GW) (rmS 2) (PcS ad adV [.ref (adV i), .int (nI j)]) (QcS (some (.int ((BYT.getD i []).getD j 0)))) 0 0 (fun _ => False) := by
  refine Met.ofW (cc := cJ1_charAt_3b067) (maxL := 2) (ret := (some .char)) (by decide) rfl ?_
  intro p e s m args below meth c s₁ B hml hv
  obtain ⟨rfl, hW⟩ := hv
  have hts0 := atoms_spec (ws := Cond.code yJ1_charAt_3b067 cJ1_charAt_3b067 2 (some .char) :: GW) B.pre
  have hts : ∀ w ∈ GW, w.before _ s = true := fun w hw => hts0 w (List.mem_cons_of_mem _ hw)
  have hown : s.vm.findClass RJ1 = some m.cls := findClass_of_methodNamed B.named
  have hx := B.exec
  have hb := B.bytes
  have hr := B.returns
  have hlocks := B.notSynchronized
  obtain ⟨hT, hR, hZ, hZq⟩ := id hW
  have hS : va_S (AD ad) s.heap s.heap [] := va_S.rf
  have hl := lv_entry [.ref (adV i), .int (nI j)] (n := 2) (Nat.le_of_ble_eq_true rfl)
  rw [lg_entry_eq]
  generalize (lg_sl [.ref (adV i), .int (nI j)] ++ List.replicate (2 - (lg_sl [.ref (adV i), .int (nI j)]).length) Slot.unset).toArray = ls at hl ⊢
  have hl : lv_has ls 2 [(0, .ref (adV i)), (1, .int (nI j))] := hl
  have h6 := len_6 i hi
  have hc := chr_v i hi j (by omega) hj
  refine lv_iload_n hx hb dd_lch_0 rfl (lv_at hl 1 rfl) ?_
  refine lv_aload_n hx hb dd_lch_1 rfl (lv_at hl 0 rfl) ?_
  refine va_tlen hx hb (hT.1 i hi).2.2.2 hS rfl dd_lch_2 ?_
  refine so_pure (va_runS (Ts := GW) (As := [.int (nI j), .int (nI (LEN.getD i 0))]) (rest := []) ⟨hx, hb, hml, hown, hts⟩ (s_sci (ad := ad) (adV := adV) l (nI j) (nI (LEN.getD i 0)) (nI_pos (by omega)) (nI_lt hj (by omega))) ⟨callB_of (Ts := GW) (ws' := GW) 2 hts (gwc kc_sci) rfl rfl rfl (hts _ kn_J0) (hts _ kl_sci) ⟨by decide +kernel, by decide +kernel, by decide +kernel⟩ ⟨Nat.le_of_ble_eq_true rfl, Nat.le_of_ble_eq_true rfl⟩, hts _ ks_sci⟩ ⟨PcS_blind _, fun U hU hW2 => ⟨rfl, StrOK.go hW hS hU hW2⟩⟩ rfl rfl hl.1 rfl (lv_room (Nat.le_of_ble_eq_true rfl)) dd_lch_3 ⟨Nat.zero_le _, Nat.zero_le _⟩) ?_
  refine lv_aload_n hx hb dd_lch_6 rfl (lv_at hl 0 rfl) ?_
  refine lv_iload_n hx hb dd_lch_7 rfl (lv_at hl 1 rfl) ?_
  refine va_tb hx hb (hT.1 i hi).2.2.2 hS (vp_in_nI hj (by omega)) rfl dd_lch_8 ?_
  rw [nI_clamp (show j < 2 ^ 31 by omega)]
  refine lv_sipush (v := 255) hx hb dd_lch_9 (by decide) ?_
  refine lv_iand hx hb dd_lch_12 ?_
  refine lv_i2c hx hb dd_lch_13 hc.1 ?_
  exact W.zret hx hb hr hc.2 (fun t ht hW => ⟨rfl, ht⟩) (fun q hq => by cases hq) dd_lch_14 hlocks
set_option maxHeartbeats 4000000 in
set_option maxRecDepth 20000 in
theorem s_chr (l : Launch) (i : Nat) (hi : i < 5) (j : Nat) (hj : j < LEN.getD i 0) : Met l yJ0_charAt_5068e (Cond.code yJ0_charAt_5068e cJ0_charAt_5068e 2 (some .char) :: GW) (rmS 3) (PcS ad adV [.ref (ad (100 + i)), .int (nI j)]) (QcS (some (.int ((BYT.getD i []).getD j 0)))) 0 0 (fun _ => False) := by
  refine Met.ofW (cc := cJ0_charAt_5068e) (maxL := 2) (ret := (some .char)) (by decide) rfl ?_
  intro p e s m args below meth c s₁ B hml hv
  obtain ⟨rfl, hW⟩ := hv
  have hts0 := atoms_spec (ws := Cond.code yJ0_charAt_5068e cJ0_charAt_5068e 2 (some .char) :: GW) B.pre
  have hts : ∀ w ∈ GW, w.before _ s = true := fun w hw => hts0 w (List.mem_cons_of_mem _ hw)
  have hown : s.vm.findClass RJ0 = some m.cls := findClass_of_methodNamed B.named
  have hx := B.exec
  have hb := B.bytes
  have hr := B.returns
  have hlocks := B.notSynchronized
  obtain ⟨hT, hR, hZ, hZq⟩ := id hW
  have hS : va_S (AD ad) s.heap s.heap [] := va_S.rf
  have hl := lv_entry [.ref (ad (100 + i)), .int (nI j)] (n := 2) (Nat.le_of_ble_eq_true rfl)
  rw [lg_entry_eq]
  generalize (lg_sl [.ref (ad (100 + i)), .int (nI j)] ++ List.replicate (2 - (lg_sl [.ref (ad (100 + i)), .int (nI j)]).length) Slot.unset).toArray = ls at hl ⊢
  have hl : lv_has ls 2 [(0, .ref (ad (100 + i))), (1, .int (nI j))] := hl
  have h6 := len_6 i hi
  have hc := chr_v i hi j (by omega) hj
  refine lv_aload_n hx hb dd_chr_0 rfl (lv_at hl 0 rfl) ?_
  refine so_pure (va_runV (C := yJ0_isLatin1_aae02.cls) (Ts := GW) (As := []) (rest := []) ⟨hx, hb, hml, hown, hts⟩ (s_lat (ad := ad) (adV := adV) l i hi) ⟨callB_of (Ts := GW) (ws' := GW) 0 hts (gwc kc_lat) rfl rfl rfl (hts _ kn_J0) (hts _ kl_lat) ⟨by decide +kernel, by decide +kernel, by decide +kernel⟩ ⟨Nat.le_of_ble_eq_true rfl, Nat.le_of_ble_eq_true rfl⟩, hts _ ki_lat, hts _ ke_lat⟩ ⟨PcS_blind _, vk_recv hT hi hS, fun U hU hW2 => ⟨rfl, StrOK.go hW hS hU hW2⟩⟩ rfl rfl hl.1 rfl (lv_room (Nat.le_of_ble_eq_true rfl)) dd_chr_1 ⟨Nat.zero_le _, Nat.zero_le _⟩) ?_
  refine lv_if_eq (tgt := 16) hx hb dd_chr_4 (by decide) (fun g => absurd g (by decide)) (fun _ => ?_)
  refine lv_aload_n hx hb dd_chr_7 rfl (lv_at hl 0 rfl) ?_
  refine vk_getf hx hb (hT.1 i hi).2.2.1 hS hown (hts _ kf_value) (fun _ h => h) dd_chr_8 ?_
  refine lv_iload_n hx hb dd_chr_11 rfl (lv_at hl 1 rfl) ?_
  refine so_pure (va_runS (Ts := GW) (As := [.ref (adV i), .int (nI j)]) (rest := []) ⟨hx, hb, hml, hown, hts⟩ (s_lch (ad := ad) (adV := adV) l i hi j hj) ⟨callB_of (Ts := GW) (ws' := GW) 2 hts (gwc kc_lch) rfl rfl rfl (hts _ kn_J1) (hts _ kl_lch) ⟨by decide +kernel, by decide +kernel, by decide +kernel⟩ ⟨Nat.le_of_ble_eq_true rfl, Nat.le_of_ble_eq_true rfl⟩, hts _ ks_lch⟩ ⟨PcS_blind _, fun U hU hW2 => ⟨rfl, StrOK.go hW hS hU hW2⟩⟩ rfl rfl hl.1 rfl (lv_room (Nat.le_of_ble_eq_true rfl)) dd_chr_12 ⟨Nat.zero_le _, Nat.zero_le _⟩) ?_
  exact W.zret hx hb hr hc.2 (fun t ht hW => ⟨rfl, ht⟩) (fun q hq => by cases hq) dd_chr_15 hlocks
end SOSTR
end
section
section SOPRM
variable {ad : Nat → Nat} {cT dC : Nat → ClassId} {dI : Nat → Nat → Nat} {adV : Nat → Nat}
variable {p : Program} {l : Launch} {e : Env} {R : Room} {s : State} {m : MethodId} {args : Array Value} {below : List Frame} {meth : Method} {c : Code} {cells slots : Nat} {Q : State → Prop}
theorem oi_max {x y : Int} (hx : inR x) (hy : inR y) : (if Int32.ofInt x < Int32.ofInt y then Int32.ofInt y else Int32.ofInt x) = Int32.ofInt (if x < y then y else x) := by
  by_cases h : x < y
  · rw [if_pos ((oi_lt hx hy).mpr h), if_pos h]
  · rw [if_neg (fun q => h ((oi_lt hx hy).mp q)), if_neg h]
theorem oi_min {x y : Int} (hx : inR x) (hy : inR y) : (if Int32.ofInt y < Int32.ofInt x then Int32.ofInt y else Int32.ofInt x) = Int32.ofInt (if y < x then y else x) := by
  by_cases h : y < x
  · rw [if_pos ((oi_lt hy hx).mpr h), if_pos h]
  · rw [if_neg (fun q => h ((oi_lt hy hx).mp q)), if_neg h]
theorem WO.go {H : Heap} {locs : List Loc} (h : WO ad cT dC dI adV s s.heap) (hS : va_S (AD ad) s.heap H locs) {U : State} (hU : U.heap = H) (hW : s.WarmedH U.vm) : WO ad cT dC dI adV U U.heap := by
  obtain ⟨h1, h2, h3, h4⟩ := h
  refine ⟨h1, va_K.moved hW.alike h2, fun w hw => ?_, StrOK.go h4 hS hU hW⟩
  have hz := h3 w hw
  have hn : isNst w = true := (List.mem_filter.mp hw).2
  cases w <;> first | exact va_Nw.warmF hW hz | exact va_Nw.warmM hW hz | (cases hn; done)
theorem WO.same {U U' : State} (h : WO ad cT dC dI adV U U.heap) (hv : U'.vm = U.vm) (hh : U'.heap = U.heap) : WO ad cT dC dI adV U' U'.heap := by
  obtain ⟨h1, h2, h3, h4⟩ := h
  have ha : U.vm.Alike U'.vm := by rw [hv]; exact Vm.Alike.refl _
  refine ⟨h1, va_K.moved ha h2, fun w hw => ?_, StrOK.same h4 hv hh⟩
  have hz := h3 w hw
  have hn : isNst w = true := (List.mem_filter.mp hw).2
  cases w <;> first | exact va_Nw.same rfl hv.symm hz | (cases hn; done)
/-- the room that is left for D calls, one inside another -/
def RM (D : Nat) (R : Room) : Prop := D ≤ R.frames ∧ 100 * D ≤ R.locals
theorem len_t : ∀ j, j < 5 → LEN.getD j 0 = (STT.getD j []).length ∧ Int32.ofNat (LEN.getD j 0) = Int32.ofInt (((STT.getD j []).length : Nat) : Int) := by decide
theorem chr_t : ∀ j, j < 5 → ∀ k, k < 6 → (BYT.getD j []).getD k 0 = Int32.ofInt ((STT.getD j []).getD k 0) := by decide
theorem stt_at {i : Nat} {t : List Int} (hi : 100 ≤ i) (ht : STT[i - 100]? = some t) : ∃ j, i = 100 + j ∧ j < 5 ∧ t = STT.getD j [] := by
  refine ⟨i - 100, by omega, ?_, ?_⟩
  · have h := (List.getElem?_eq_some_iff.mp ht).1
    have e : STT.length = 5 := rfl
    omega
  · rw [List.getD_eq_getElem?_getD, ht]
    rfl
set_option maxHeartbeats 1000000 in
/-- String.length() of a constant -/
theorem so_len {cc : ByteArray} {own : String} {index : Nat} {H : Heap} {locs : List Loc} {ls : Array Slot} {rest : List AV} {pc i : Nat} {t : List Int} (hx : p.tables.exec = Jvm.exec) (hb : c.code = cc) (hml : c.maxLocals = ls.size) (hown : s.vm.findClass own = some m.cls) (hts : ∀ w ∈ GW, w.before args s = true) (hW0 : WO ad cT dC dI adV s s.heap) (hR : RM 4 R) (hc : cells ≤ R.cells) (hs : slots ≤ R.slots) (hS : va_S (AD ad) s.heap H locs) (hi : 100 ≤ i) (ht : STT[i - 100]? = some t) (hcat : catS rest ≤ 8) (hlink : Cond.methodLink own index yJ0_length_8abf5 ∈ GW) (hd : decode cc pc = .ok (.invokevirtual index, 3))
    (k : W p l e R s m args below meth c H locs cells slots Q (F0 m (pc + 3) ls (.int (Int32.ofInt t.length) :: rest.map (cz ad)))) : W p l e R s m args below meth c H locs cells slots Q (F0 m pc ls (.ref (ad i) :: rest.map (cz ad))) := by
  obtain ⟨j, rfl, hj, rfl⟩ := stt_at hi ht
  have hl := (len_t j hj).2
  have hR1 := hR.1
  have hR2 := hR.2
  refine so_pure (va_runV (C := yJ0_length_8abf5.cls) (Ts := GW) (As := []) (rest := rest.map (cz ad)) ⟨hx, hb, hml, hown, hts⟩ (s_len (ad := ad) (adV := adV) l j hj) ⟨callB_of (Ts := GW) (ws' := GW) 0 hts (gwc kc_length) rfl rfl rfl (hts _ kn_J0) (hts _ hlink) ⟨by decide +kernel, by decide +kernel, by decide +kernel⟩ ⟨by show 1 + 1 ≤ R.frames; omega, by show 8 + (1 + 11) + 100 * 1 ≤ R.locals; omega⟩, hts _ ki_length, hts _ ke_length⟩ ⟨PcS_blind _, vk_recv hW0.2.2.2.1 hj hS, fun U hU hW2 => ⟨rfl, StrOK.go hW0.2.2.2 hS hU hW2⟩⟩ rfl rfl rfl rfl (lv_room (by rw [cz_catS]; exact hcat)) hd ⟨hc, hs⟩) ?_
  rw [hl]
  exact k
set_option maxHeartbeats 1000000 in
/-- String.charAt(k) of a constant -/
theorem so_chr {cc : ByteArray} {own : String} {index : Nat} {H : Heap} {locs : List Loc} {ls : Array Slot} {rest : List AV} {pc i : Nat} {t : List Int} {x : Int} (hx : p.tables.exec = Jvm.exec) (hb : c.code = cc) (hml : c.maxLocals = ls.size) (hown : s.vm.findClass own = some m.cls) (hts : ∀ w ∈ GW, w.before args s = true) (hW0 : WO ad cT dC dI adV s s.heap) (hR : RM 4 R) (hc : cells ≤ R.cells) (hs : slots ≤ R.slots) (hS : va_S (AD ad) s.heap H locs) (hi : 100 ≤ i) (ht : STT[i - 100]? = some t) (hx0 : 0 ≤ x) (hx1 : x < t.length) (hcat : catS rest ≤ 8) (hlink : Cond.methodLink own index yJ0_charAt_5068e ∈ GW) (hd : decode cc pc = .ok (.invokevirtual index, 3))
    (k : W p l e R s m args below meth c H locs cells slots Q (F0 m (pc + 3) ls (.int (Int32.ofInt (t.getD x.toNat 0)) :: rest.map (cz ad)))) : W p l e R s m args below meth c H locs cells slots Q (F0 m pc ls (.int (Int32.ofInt x) :: .ref (ad i) :: rest.map (cz ad))) := by
  obtain ⟨j, rfl, hj, rfl⟩ := stt_at hi ht
  have hl := (len_t j hj).1
  have h6 := len_6 j hj
  have hc2 := chr_t j hj x.toNat (by omega)
  have hR1 := hR.1
  have hR2 := hR.2
  rw [oi_nI hx0]
  refine so_pure (va_runV (C := yJ0_charAt_5068e.cls) (Ts := GW) (As := [.int (nI x.toNat)]) (rest := rest.map (cz ad)) ⟨hx, hb, hml, hown, hts⟩ (s_chr (ad := ad) (adV := adV) l j hj x.toNat (by omega)) ⟨callB_of (Ts := GW) (ws' := GW) 1 hts (gwc kc_chr) rfl rfl rfl (hts _ kn_J0) (hts _ hlink) ⟨by decide +kernel, by decide +kernel, by decide +kernel⟩ ⟨by show 3 + 1 ≤ R.frames; omega, by show 8 + (2 + 11) + 100 * 3 ≤ R.locals; omega⟩, hts _ ki_chr, hts _ ke_chr⟩ ⟨PcS_blind _, vk_recv hW0.2.2.2.1 hj hS, fun U hU hW2 => ⟨rfl, StrOK.go hW0.2.2.2 hS hU hW2⟩⟩ rfl rfl rfl rfl (lv_room (by rw [cz_catS]; exact hcat)) hd ⟨hc, hs⟩) ?_
  rw [hc2]
  exact k
set_option maxHeartbeats 4000000 in
set_option maxRecDepth 100000 in
theorem so_prm {mi : MI} {en : EN} {st st' : AS} {z kk : Nat} {v : Bool} (C : CX ad cT dC dI adV p s m args meth c mi) (hck : chkE mi en = true) (hpk : prK en = true) (hpc : en.1 = st.1) (hcall : callOf en = some (z, kk, v)) (hz : 1000 ≤ z) (h : prm (z - 1000) en.2.2.1 st.2.1 st.2.2.1 st.2.2.2 = some (.inl st')) (hR : RM 4 R) (hc : cells ≤ R.cells) (hs : slots ≤ R.slots) (k : WG ad cT dC dI p l e R s m args below meth c cells slots Q mi.2.2.2.1 st') : WG ad cT dC dI p l e R s m args below meth c cells slots Q mi.2.2.2.1 st := by
  obtain ⟨pc, L, S, M⟩ := st
  obtain ⟨pc', ins, nx, a, b, zz⟩ := en
  obtain ⟨o, nm, cc, ml, ret, na, sta⟩ := mi
  dsimp only at hpc
  subst hpc
  obtain ⟨n, hd, hnx, hn, hX⟩ := chk_dec hck
  dsimp only at hd hnx hn hX k h ⊢
  obtain ⟨hx, hb, hr, hml, ⟨own, hRN, hown⟩, hts, hlocks, hWO⟩ := C
  have hWO' := hWO
  obtain ⟨hinj, hK, hNW, hST⟩ := hWO
  dsimp only at hb hr hml hRN
  intro ls H locs hl hP hS
  dsimp only at hl hP ⊢
  have hD : va_D (AD ad) (WL ad cT M) := WL_D hinj
  have hml' : c.maxLocals = ls.size := hml.trans hl.1.symm
  have hfr : 1 ≤ R.frames := by have := hR.1; omega
  have hlo : ∀ r : List AV, catS r ≤ 8 → ((r.map (cz ad)).map fun v => v.category).sum + 13 ≤ R.locals := fun r h => by rw [cz_catS]; have := hR.2; omega
  -- which link
  have link : ∀ idx, (ins = .invokevirtual idx ∨ ins = .invokestatic idx) → a = z → ∃ nm', prN z = some nm' ∧ Cond.methodLink own idx nm' ∈ GW := by
    intro idx hi ha
    subst ha
    have hX2 : MLT.contains (o, idx, a, zz) = true := by
      rcases hi with rfl | rfl <;> exact hX
    obtain ⟨ow, g1, g2⟩ := ml_ok _ (List.contains_iff_mem.mp hX2)
    cases hRN.symm.trans g1
    rcases g2 with ⟨mi2, q1, -⟩ | ⟨-, q⟩
    · have : a < MT.length := (List.getElem?_eq_some_iff.mp q1).1
      have hlen : MT.length < 1000 := by decide +kernel
      omega
    · exact q
  unfold callOf at hcall
  dsimp only at hcall
  have three : ∀ j, z - 1000 = j → z = 1000 + j := fun j hj => by omega
  split at hcall
  · -- virtual
    rename_i idx
    (dsimp only [insN] at hn; subst hn)
    cases hcall
    obtain ⟨nm', hnm, hlk⟩ := link idx (Or.inl rfl) rfl
    unfold prK at hpk
    dsimp only at hpk
    have hge : 1003 ≤ z := by
      rw [Bool.or_eq_true] at hpk
      rcases hpk with q | q
      · have := Nat.lt_of_lt_of_le (Nat.blt_eq.mp q) hz; omega
      · exact Nat.le_of_ble_eq_true q
    unfold prm at h
    split at h
    · rename_i hq; have := three _ hq; omega
    · rename_i hq; have := three _ hq; omega
    · rename_i hq; have := three _ hq; omega
    · rename_i hq
      have hq := three _ hq
      subst hq
      cases hnm
      split at h
      · split at h
        · rename_i ht
          split at h
          · rename_i hcd
            cases h
            rw [hnx] at k
            exact so_len hx hb hml' hown hts hWO' hR hc hs hS hcd.1 ht hcd.2 hlk hd (k ls H locs hl hP hS)
          · cases h
        · cases h
      · cases h
    · rename_i hq
      have hq := three _ hq
      subst hq
      cases hnm
      split at h
      · split at h
        · rename_i ht
          split at h
          · rename_i hcd
            cases h
            rw [hnx] at k
            exact so_chr hx hb hml' hown hts hWO' hR hc hs hS hcd.1 ht hcd.2.1 hcd.2.2.1 hcd.2.2.2 hlk hd (k ls H locs hl hP hS)
          · cases h
        · cases h
      · cases h
    · cases h
  · -- static
    rename_i idx
    (dsimp only [insN] at hn; subst hn)
    cases hcall
    obtain ⟨nm', hnm, hlk⟩ := link idx (Or.inr rfl) rfl
    unfold prK at hpk
    dsimp only at hpk
    have hlt : z < 1003 := Nat.blt_eq.mp hpk
    unfold prm at h
    split at h
    · rename_i hq
      have hq := three _ hq
      subst hq
      cases hnm
      split at h
      · split at h
        · rename_i hcd
          cases h
          rw [hnx] at k
          refine va_mmax hx hb hml' hown (hts _ hlk) (hts _ pw_max1) (hts _ pw_math) (hts _ pw_max2) hfr (hlo _ hcd.2.2) hc hs hd ?_
          rw [oi_max hcd.1 hcd.2.1]
          exact k ls H locs hl hP hS
        · cases h
      · cases h
    · rename_i hq
      have hq := three _ hq
      subst hq
      cases hnm
      split at h
      · split at h
        · rename_i hcd
          cases h
          rw [hnx] at k
          refine va_mmin hx hb hml' hown (hts _ hlk) (hts _ pw_min1) (hts _ pw_math) (hts _ pw_min2) hfr (hlo _ hcd.2.2) hc hs hd ?_
          rw [oi_min hcd.1 hcd.2.1]
          exact k ls H locs hl hP hS
        · cases h
      · cases h
    · rename_i hq
      have hq := three _ hq
      subst hq
      cases hnm
      split at h
      · rename_i n0 dp cdst sp csrc r0
        split at h
        · rename_i h1 h2
          split at h
          · rename_i hcd
            cases h
            rw [hnx] at k
            have hs1 := arrN_s h1
            have hs2 := arrN_s h2
            obtain ⟨c1, c2, c3, c4, c5, ⟨c6, c7⟩, c8⟩ := hcd
            have r1 : inR n0 := ⟨by omega, by omega⟩
            have r2 : inR dp := ⟨by omega, by omega⟩
            have r3 : inR sp := ⟨by omega, by omega⟩
            have neg : ∀ w : Int, inR w → 0 ≤ w → ¬ Int32.ofInt w < 0 := fun w hw h0 q => by
              rw [oi_0, oi_lt hw ⟨by decide, by decide⟩] at q
              omega
            refine va_copyi (ty := .int) hx hb hml' hown (hts _ hlk) (hts _ pw_ac2) (hts _ pw_ac1) (hts _ pw_sys) hK hP hD hS _ _ 0 0 (WL_at hs2) (WL_at hs1) rfl rfl rfl (neg _ r3 c3) (neg _ r2 c2) (neg _ r1 c1) (by rw [oi_n r3, oi_n r1]; omega) (by rw [oi_n r2, oi_n r1]; omega) (fun _ _ => rfl) hfr (by rw [cz_catS]; have := hR.2; have e9 : nativeFrameWords "java/lang/System" "arraycopy" 5 ≤ 300 := (by decide +kernel); omega) hd (fun H1 locs1 hP1 _ hS1 => ?_)
            rw [oi_n r3, oi_n r2, oi_n r1, cpy_of _ _ _ _ _ c3 c2 c1] at hP1
            exact k ls H1 locs1 hl (by show va_P _ _ (WL ad cT (setC M _ _)) H1; rw [← WL_set hs1]; exact hP1) hS1
          · cases h
        · cases h
      · cases h
    · rename_i hq; have := three _ hq; omega
    · rename_i hq; have := three _ hq; omega
    · cases h
  · cases hcall
end SOPRM
end
