section
-- ===== PART A: goes FIRST, ahead of the names: the tables' words, and 'selects' of the private methods out of them =====
/-- a private method of a class that the tables say can be made, by its rows of tables_1 -/
def lw_okq (q : MethodName × Nat) : Prop := (q.1.cls ≠ "java/lang/invoke/MethodHandle" ∧ q.1.cls ≠ "java/lang/invoke/VarHandle") ∧ Cond.instantiable q.1.cls q.2 ∈ tables_1 ∧ Cond.privateMethod q.1 ∈ tables_1 ∧ Cond.instanceMethod q.1 ∈ tables_1
theorem lw_p0 : lw_okq (⟨"Eddyhall$Water", "goingMore", "(I)I"⟩, 13) := ⟨⟨by decide +kernel, by decide +kernel⟩, List.mem_of_getElem? (i := 27) (by decide +kernel), List.mem_of_getElem? (i := 165) (by decide +kernel), List.mem_of_getElem? (i := 166) (by decide +kernel)⟩
theorem lw_p1 : lw_okq (⟨"Eddyhall$Water", "moreAt", "(II)I"⟩, 13) := ⟨⟨by decide +kernel, by decide +kernel⟩, List.mem_of_getElem? (i := 27) (by decide +kernel), List.mem_of_getElem? (i := 169) (by decide +kernel), List.mem_of_getElem? (i := 170) (by decide +kernel)⟩
theorem lw_p2 : lw_okq (⟨"java/lang/Throwable", "fillInStackTrace", "(I)Ljava/lang/Throwable;"⟩, 6) := ⟨⟨by decide +kernel, by decide +kernel⟩, List.mem_of_getElem? (i := 228) (by decide +kernel), List.mem_of_getElem? (i := 226) (by decide +kernel), List.mem_of_getElem? (i := 227) (by decide +kernel)⟩
theorem lw_p3 : lw_okq (⟨"Eddyhall", "mayBeWall", "(I)Z"⟩, 7) := ⟨⟨by decide +kernel, by decide +kernel⟩, List.mem_of_getElem? (i := 19) (by decide +kernel), List.mem_of_getElem? (i := 253) (by decide +kernel), List.mem_of_getElem? (i := 254) (by decide +kernel)⟩
theorem lw_p4 : lw_okq (⟨"Eddyhall$Counts", "areAt", "(I)Z"⟩, 4) := ⟨⟨by decide +kernel, by decide +kernel⟩, List.mem_of_getElem? (i := 88) (by decide +kernel), List.mem_of_getElem? (i := 257) (by decide +kernel), List.mem_of_getElem? (i := 258) (by decide +kernel)⟩
theorem lw_p5 : lw_okq (⟨"Eddyhall$Probes", "areAt", "(I)Z"⟩, 4) := ⟨⟨by decide +kernel, by decide +kernel⟩, List.mem_of_getElem? (i := 111) (by decide +kernel), List.mem_of_getElem? (i := 261) (by decide +kernel), List.mem_of_getElem? (i := 262) (by decide +kernel)⟩
theorem lw_p6 : lw_okq (⟨"Eddyhall$Water", "cellsOfBody", "(I)I"⟩, 13) := ⟨⟨by decide +kernel, by decide +kernel⟩, List.mem_of_getElem? (i := 27) (by decide +kernel), List.mem_of_getElem? (i := 265) (by decide +kernel), List.mem_of_getElem? (i := 266) (by decide +kernel)⟩
theorem lw_p7 : lw_okq (⟨"Eddyhall$Water", "makeFree", "(I)V"⟩, 13) := ⟨⟨by decide +kernel, by decide +kernel⟩, List.mem_of_getElem? (i := 27) (by decide +kernel), List.mem_of_getElem? (i := 291) (by decide +kernel), List.mem_of_getElem? (i := 292) (by decide +kernel)⟩
theorem lw_p8 : lw_okq (⟨"Eddyhall$Water", "letIn", "(II)V"⟩, 13) := ⟨⟨by decide +kernel, by decide +kernel⟩, List.mem_of_getElem? (i := 27) (by decide +kernel), List.mem_of_getElem? (i := 331) (by decide +kernel), List.mem_of_getElem? (i := 332) (by decide +kernel)⟩
theorem lw_p9 : lw_okq (⟨"Eddyhall$Probes", "setInto", "(I)I"⟩, 4) := ⟨⟨by decide +kernel, by decide +kernel⟩, List.mem_of_getElem? (i := 111) (by decide +kernel), List.mem_of_getElem? (i := 355) (by decide +kernel), List.mem_of_getElem? (i := 356) (by decide +kernel)⟩
theorem lw_p10 : lw_okq (⟨"Eddyhall$Water", "isClosed", "()Z"⟩, 13) := ⟨⟨by decide +kernel, by decide +kernel⟩, List.mem_of_getElem? (i := 27) (by decide +kernel), List.mem_of_getElem? (i := 382) (by decide +kernel), List.mem_of_getElem? (i := 383) (by decide +kernel)⟩
theorem lw_p11 : lw_okq (⟨"Eddyhall$Water", "passStep", "()V"⟩, 13) := ⟨⟨by decide +kernel, by decide +kernel⟩, List.mem_of_getElem? (i := 27) (by decide +kernel), List.mem_of_getElem? (i := 386) (by decide +kernel), List.mem_of_getElem? (i := 387) (by decide +kernel)⟩
theorem lw_p12 : lw_okq (⟨"Eddyhall$Water", "turnMeetings", "(I)V"⟩, 13) := ⟨⟨by decide +kernel, by decide +kernel⟩, List.mem_of_getElem? (i := 27) (by decide +kernel), List.mem_of_getElem? (i := 390) (by decide +kernel), List.mem_of_getElem? (i := 391) (by decide +kernel)⟩
theorem lw_p13 : lw_okq (⟨"Eddyhall$Water", "hopAll", "(I)V"⟩, 13) := ⟨⟨by decide +kernel, by decide +kernel⟩, List.mem_of_getElem? (i := 27) (by decide +kernel), List.mem_of_getElem? (i := 400) (by decide +kernel), List.mem_of_getElem? (i := 401) (by decide +kernel)⟩
theorem lw_p14 : lw_okq (⟨"Eddyhall$Water", "hopOne", "(III)V"⟩, 13) := ⟨⟨by decide +kernel, by decide +kernel⟩, List.mem_of_getElem? (i := 27) (by decide +kernel), List.mem_of_getElem? (i := 405) (by decide +kernel), List.mem_of_getElem? (i := 406) (by decide +kernel)⟩
theorem lw_p15 : lw_okq (⟨"Eddyhall$Water", "isShut", "(I)Z"⟩, 13) := ⟨⟨by decide +kernel, by decide +kernel⟩, List.mem_of_getElem? (i := 27) (by decide +kernel), List.mem_of_getElem? (i := 412) (by decide +kernel), List.mem_of_getElem? (i := 413) (by decide +kernel)⟩
def lw_privs_1 : List (MethodName × Nat) := [(⟨"Eddyhall$Water", "goingMore", "(I)I"⟩, 13), (⟨"Eddyhall$Water", "moreAt", "(II)I"⟩, 13), (⟨"java/lang/Throwable", "fillInStackTrace", "(I)Ljava/lang/Throwable;"⟩, 6), (⟨"Eddyhall", "mayBeWall", "(I)Z"⟩, 7), (⟨"Eddyhall$Counts", "areAt", "(I)Z"⟩, 4), (⟨"Eddyhall$Probes", "areAt", "(I)Z"⟩, 4), (⟨"Eddyhall$Water", "cellsOfBody", "(I)I"⟩, 13), (⟨"Eddyhall$Water", "makeFree", "(I)V"⟩, 13), (⟨"Eddyhall$Water", "letIn", "(II)V"⟩, 13), (⟨"Eddyhall$Probes", "setInto", "(I)I"⟩, 4), (⟨"Eddyhall$Water", "isClosed", "()Z"⟩, 13), (⟨"Eddyhall$Water", "passStep", "()V"⟩, 13), (⟨"Eddyhall$Water", "turnMeetings", "(I)V"⟩, 13), (⟨"Eddyhall$Water", "hopAll", "(I)V"⟩, 13), (⟨"Eddyhall$Water", "hopOne", "(III)V"⟩, 13), (⟨"Eddyhall$Water", "isShut", "(I)Z"⟩, 13)]
theorem lw_r1 : ∀ q ∈ lw_privs_1, lw_okq q := List.forall_mem_cons.mpr ⟨lw_p0, List.forall_mem_cons.mpr ⟨lw_p1, List.forall_mem_cons.mpr ⟨lw_p2, List.forall_mem_cons.mpr ⟨lw_p3, List.forall_mem_cons.mpr ⟨lw_p4, List.forall_mem_cons.mpr ⟨lw_p5, List.forall_mem_cons.mpr ⟨lw_p6, List.forall_mem_cons.mpr ⟨lw_p7, List.forall_mem_cons.mpr ⟨lw_p8, List.forall_mem_cons.mpr ⟨lw_p9, List.forall_mem_cons.mpr ⟨lw_p10, List.forall_mem_cons.mpr ⟨lw_p11, List.forall_mem_cons.mpr ⟨lw_p12, List.forall_mem_cons.mpr ⟨lw_p13, List.forall_mem_cons.mpr ⟨lw_p14, List.forall_mem_cons.mpr ⟨lw_p15, fun _ h => absurd h List.not_mem_nil⟩⟩⟩⟩⟩⟩⟩⟩⟩⟩⟩⟩⟩⟩⟩⟩
theorem lw_p16 : lw_okq (⟨"Eddyhall$Water", "countHit", "(III)V"⟩, 13) := ⟨⟨by decide +kernel, by decide +kernel⟩, List.mem_of_getElem? (i := 27) (by decide +kernel), List.mem_of_getElem? (i := 417) (by decide +kernel), List.mem_of_getElem? (i := 418) (by decide +kernel)⟩
theorem lw_p17 : lw_okq (⟨"Eddyhall$Water", "emptyOutlets", "()V"⟩, 13) := ⟨⟨by decide +kernel, by decide +kernel⟩, List.mem_of_getElem? (i := 27) (by decide +kernel), List.mem_of_getElem? (i := 425) (by decide +kernel), List.mem_of_getElem? (i := 426) (by decide +kernel)⟩
theorem lw_p18 : lw_okq (⟨"Eddyhall$Water", "fillInlets", "()V"⟩, 13) := ⟨⟨by decide +kernel, by decide +kernel⟩, List.mem_of_getElem? (i := 27) (by decide +kernel), List.mem_of_getElem? (i := 429) (by decide +kernel), List.mem_of_getElem? (i := 430) (by decide +kernel)⟩
theorem lw_p19 : lw_okq (⟨"Eddyhall$Probes", "recordAll", "(LEddyhall$Water;)V"⟩, 4) := ⟨⟨by decide +kernel, by decide +kernel⟩, List.mem_of_getElem? (i := 111) (by decide +kernel), List.mem_of_getElem? (i := 434) (by decide +kernel), List.mem_of_getElem? (i := 435) (by decide +kernel)⟩
theorem lw_p20 : lw_okq (⟨"Eddyhall$Water", "undoStep", "()V"⟩, 13) := ⟨⟨by decide +kernel, by decide +kernel⟩, List.mem_of_getElem? (i := 27) (by decide +kernel), List.mem_of_getElem? (i := 446) (by decide +kernel), List.mem_of_getElem? (i := 447) (by decide +kernel)⟩
theorem lw_p21 : lw_okq (⟨"Eddyhall$Water", "turnRound", "()V"⟩, 13) := ⟨⟨by decide +kernel, by decide +kernel⟩, List.mem_of_getElem? (i := 27) (by decide +kernel), List.mem_of_getElem? (i := 450) (by decide +kernel), List.mem_of_getElem? (i := 451) (by decide +kernel)⟩
theorem lw_p22 : lw_okq (⟨"Eddyhall$Probes", "loseLatest", "()V"⟩, 4) := ⟨⟨by decide +kernel, by decide +kernel⟩, List.mem_of_getElem? (i := 111) (by decide +kernel), List.mem_of_getElem? (i := 454) (by decide +kernel), List.mem_of_getElem? (i := 455) (by decide +kernel)⟩
theorem lw_p23 : lw_okq (⟨"Eddyhall$Counts", "passRound", "(LEddyhall$Water;)V"⟩, 4) := ⟨⟨by decide +kernel, by decide +kernel⟩, List.mem_of_getElem? (i := 88) (by decide +kernel), List.mem_of_getElem? (i := 465) (by decide +kernel), List.mem_of_getElem? (i := 466) (by decide +kernel)⟩
theorem lw_p24 : lw_okq (⟨"Eddyhall$Counts", "evenOut", "(I)V"⟩, 4) := ⟨⟨by decide +kernel, by decide +kernel⟩, List.mem_of_getElem? (i := 88) (by decide +kernel), List.mem_of_getElem? (i := 469) (by decide +kernel), List.mem_of_getElem? (i := 470) (by decide +kernel)⟩
theorem lw_p25 : lw_okq (⟨"Eddyhall$Counts", "shiftToUpright", "(II)V"⟩, 4) := ⟨⟨by decide +kernel, by decide +kernel⟩, List.mem_of_getElem? (i := 88) (by decide +kernel), List.mem_of_getElem? (i := 476) (by decide +kernel), List.mem_of_getElem? (i := 477) (by decide +kernel)⟩
theorem lw_p26 : lw_okq (⟨"Eddyhall$Counts", "moveAll", "(LEddyhall$Water;I)V"⟩, 4) := ⟨⟨by decide +kernel, by decide +kernel⟩, List.mem_of_getElem? (i := 88) (by decide +kernel), List.mem_of_getElem? (i := 480) (by decide +kernel), List.mem_of_getElem? (i := 481) (by decide +kernel)⟩
theorem lw_p27 : lw_okq (⟨"Eddyhall", "tallyOf", "(ZILEddyhall$Window;)LEddyhall$Tally;"⟩, 7) := ⟨⟨by decide +kernel, by decide +kernel⟩, List.mem_of_getElem? (i := 19) (by decide +kernel), List.mem_of_getElem? (i := 542) (by decide +kernel), List.mem_of_getElem? (i := 543) (by decide +kernel)⟩
theorem lw_p28 : lw_okq (⟨"Eddyhall$Window", "holds", "(I)Z"⟩, 4) := ⟨⟨by decide +kernel, by decide +kernel⟩, List.mem_of_getElem? (i := 523) (by decide +kernel), List.mem_of_getElem? (i := 565) (by decide +kernel), List.mem_of_getElem? (i := 566) (by decide +kernel)⟩
theorem lw_p29 : lw_okq (⟨"Eddyhall$Counts", "numberAt", "(II)I"⟩, 4) := ⟨⟨by decide +kernel, by decide +kernel⟩, List.mem_of_getElem? (i := 88) (by decide +kernel), List.mem_of_getElem? (i := 572) (by decide +kernel), List.mem_of_getElem? (i := 573) (by decide +kernel)⟩
theorem lw_p30 : lw_okq (⟨"Eddyhall$Water", "numberAt", "(II)I"⟩, 13) := ⟨⟨by decide +kernel, by decide +kernel⟩, List.mem_of_getElem? (i := 27) (by decide +kernel), List.mem_of_getElem? (i := 576) (by decide +kernel), List.mem_of_getElem? (i := 577) (by decide +kernel)⟩
theorem lw_p31 : lw_okq (⟨"Eddyhall$Tally", "take", "(J)V"⟩, 3) := ⟨⟨by decide +kernel, by decide +kernel⟩, List.mem_of_getElem? (i := 546) (by decide +kernel), List.mem_of_getElem? (i := 581) (by decide +kernel), List.mem_of_getElem? (i := 582) (by decide +kernel)⟩
def lw_privs_2 : List (MethodName × Nat) := [(⟨"Eddyhall$Water", "countHit", "(III)V"⟩, 13), (⟨"Eddyhall$Water", "emptyOutlets", "()V"⟩, 13), (⟨"Eddyhall$Water", "fillInlets", "()V"⟩, 13), (⟨"Eddyhall$Probes", "recordAll", "(LEddyhall$Water;)V"⟩, 4), (⟨"Eddyhall$Water", "undoStep", "()V"⟩, 13), (⟨"Eddyhall$Water", "turnRound", "()V"⟩, 13), (⟨"Eddyhall$Probes", "loseLatest", "()V"⟩, 4), (⟨"Eddyhall$Counts", "passRound", "(LEddyhall$Water;)V"⟩, 4), (⟨"Eddyhall$Counts", "evenOut", "(I)V"⟩, 4), (⟨"Eddyhall$Counts", "shiftToUpright", "(II)V"⟩, 4), (⟨"Eddyhall$Counts", "moveAll", "(LEddyhall$Water;I)V"⟩, 4), (⟨"Eddyhall", "tallyOf", "(ZILEddyhall$Window;)LEddyhall$Tally;"⟩, 7), (⟨"Eddyhall$Window", "holds", "(I)Z"⟩, 4), (⟨"Eddyhall$Counts", "numberAt", "(II)I"⟩, 4), (⟨"Eddyhall$Water", "numberAt", "(II)I"⟩, 13), (⟨"Eddyhall$Tally", "take", "(J)V"⟩, 3)]
theorem lw_r2 : ∀ q ∈ lw_privs_2, lw_okq q := List.forall_mem_cons.mpr ⟨lw_p16, List.forall_mem_cons.mpr ⟨lw_p17, List.forall_mem_cons.mpr ⟨lw_p18, List.forall_mem_cons.mpr ⟨lw_p19, List.forall_mem_cons.mpr ⟨lw_p20, List.forall_mem_cons.mpr ⟨lw_p21, List.forall_mem_cons.mpr ⟨lw_p22, List.forall_mem_cons.mpr ⟨lw_p23, List.forall_mem_cons.mpr ⟨lw_p24, List.forall_mem_cons.mpr ⟨lw_p25, List.forall_mem_cons.mpr ⟨lw_p26, List.forall_mem_cons.mpr ⟨lw_p27, List.forall_mem_cons.mpr ⟨lw_p28, List.forall_mem_cons.mpr ⟨lw_p29, List.forall_mem_cons.mpr ⟨lw_p30, List.forall_mem_cons.mpr ⟨lw_p31, fun _ h => absurd h List.not_mem_nil⟩⟩⟩⟩⟩⟩⟩⟩⟩⟩⟩⟩⟩⟩⟩⟩
theorem lw_p32 : lw_okq (⟨"Eddyhall$Water", "becomeLike", "(LEddyhall$Water;)V"⟩, 13) := ⟨⟨by decide +kernel, by decide +kernel⟩, List.mem_of_getElem? (i := 27) (by decide +kernel), List.mem_of_getElem? (i := 610) (by decide +kernel), List.mem_of_getElem? (i := 611) (by decide +kernel)⟩
theorem lw_p33 : lw_okq (⟨"Eddyhall", "edgesOfInk", "()I"⟩, 7) := ⟨⟨by decide +kernel, by decide +kernel⟩, List.mem_of_getElem? (i := 19) (by decide +kernel), List.mem_of_getElem? (i := 635) (by decide +kernel), List.mem_of_getElem? (i := 636) (by decide +kernel)⟩
theorem lw_p34 : lw_okq (⟨"Eddyhall", "isEdgeOfInk", "(II)Z"⟩, 7) := ⟨⟨by decide +kernel, by decide +kernel⟩, List.mem_of_getElem? (i := 19) (by decide +kernel), List.mem_of_getElem? (i := 639) (by decide +kernel), List.mem_of_getElem? (i := 640) (by decide +kernel)⟩
theorem lw_p35 : lw_okq (⟨"Eddyhall$Water", "isAllDyed", "(I)Z"⟩, 13) := ⟨⟨by decide +kernel, by decide +kernel⟩, List.mem_of_getElem? (i := 27) (by decide +kernel), List.mem_of_getElem? (i := 643) (by decide +kernel), List.mem_of_getElem? (i := 644) (by decide +kernel)⟩
theorem lw_p36 : lw_okq (⟨"Eddyhall$Water", "isAllPlain", "(I)Z"⟩, 13) := ⟨⟨by decide +kernel, by decide +kernel⟩, List.mem_of_getElem? (i := 27) (by decide +kernel), List.mem_of_getElem? (i := 647) (by decide +kernel), List.mem_of_getElem? (i := 648) (by decide +kernel)⟩
theorem lw_p37 : lw_okq (⟨"Eddyhall", "unevenInk", "()J"⟩, 7) := ⟨⟨by decide +kernel, by decide +kernel⟩, List.mem_of_getElem? (i := 19) (by decide +kernel), List.mem_of_getElem? (i := 651) (by decide +kernel), List.mem_of_getElem? (i := 652) (by decide +kernel)⟩
theorem lw_p38 : lw_okq (⟨"Eddyhall$Probes", "changesOfSign", "(I)I"⟩, 4) := ⟨⟨by decide +kernel, by decide +kernel⟩, List.mem_of_getElem? (i := 111) (by decide +kernel), List.mem_of_getElem? (i := 675) (by decide +kernel), List.mem_of_getElem? (i := 676) (by decide +kernel)⟩
theorem lw_p39 : lw_okq (⟨"Eddyhall", "pushWithout", "(III)I"⟩, 7) := ⟨⟨by decide +kernel, by decide +kernel⟩, List.mem_of_getElem? (i := 19) (by decide +kernel), List.mem_of_getElem? (i := 686) (by decide +kernel), List.mem_of_getElem? (i := 687) (by decide +kernel)⟩
theorem lw_p40 : lw_okq (⟨"EddyhallModel", "isCell", "(I)Z"⟩, 26) := ⟨⟨by decide +kernel, by decide +kernel⟩, List.mem_of_getElem? (i := 690) (by decide +kernel), List.mem_of_getElem? (i := 783) (by decide +kernel), List.mem_of_getElem? (i := 784) (by decide +kernel)⟩
theorem lw_p41 : lw_okq (⟨"EddyhallModel", "canBeWall", "(II)Z"⟩, 26) := ⟨⟨by decide +kernel, by decide +kernel⟩, List.mem_of_getElem? (i := 690) (by decide +kernel), List.mem_of_getElem? (i := 790) (by decide +kernel), List.mem_of_getElem? (i := 791) (by decide +kernel)⟩
theorem lw_p42 : lw_okq (⟨"EddyhallModel", "hasProbe", "(I)Z"⟩, 26) := ⟨⟨by decide +kernel, by decide +kernel⟩, List.mem_of_getElem? (i := 690) (by decide +kernel), List.mem_of_getElem? (i := 794) (by decide +kernel), List.mem_of_getElem? (i := 795) (by decide +kernel)⟩
theorem lw_p43 : lw_okq (⟨"EddyhallModel", "cellsOf", "(I)I"⟩, 26) := ⟨⟨by decide +kernel, by decide +kernel⟩, List.mem_of_getElem? (i := 690) (by decide +kernel), List.mem_of_getElem? (i := 798) (by decide +kernel), List.mem_of_getElem? (i := 799) (by decide +kernel)⟩
theorem lw_p44 : lw_okq (⟨"EddyhallModel", "refused", "(I)Z"⟩, 26) := ⟨⟨by decide +kernel, by decide +kernel⟩, List.mem_of_getElem? (i := 690) (by decide +kernel), List.mem_of_getElem? (i := 802) (by decide +kernel), List.mem_of_getElem? (i := 803) (by decide +kernel)⟩
theorem lw_p45 : lw_okq (⟨"EddyhallModel", "allCounts", "()J"⟩, 26) := ⟨⟨by decide +kernel, by decide +kernel⟩, List.mem_of_getElem? (i := 690) (by decide +kernel), List.mem_of_getElem? (i := 838) (by decide +kernel), List.mem_of_getElem? (i := 839) (by decide +kernel)⟩
theorem lw_p46 : lw_okq (⟨"EddyhallModel", "hasOpen", "()Z"⟩, 26) := ⟨⟨by decide +kernel, by decide +kernel⟩, List.mem_of_getElem? (i := 690) (by decide +kernel), List.mem_of_getElem? (i := 847) (by decide +kernel), List.mem_of_getElem? (i := 848) (by decide +kernel)⟩
theorem lw_p47 : lw_okq (⟨"EddyhallModel", "advance", "([I[I)V"⟩, 26) := ⟨⟨by decide +kernel, by decide +kernel⟩, List.mem_of_getElem? (i := 690) (by decide +kernel), List.mem_of_getElem? (i := 851) (by decide +kernel), List.mem_of_getElem? (i := 852) (by decide +kernel)⟩
def lw_privs_3 : List (MethodName × Nat) := [(⟨"Eddyhall$Water", "becomeLike", "(LEddyhall$Water;)V"⟩, 13), (⟨"Eddyhall", "edgesOfInk", "()I"⟩, 7), (⟨"Eddyhall", "isEdgeOfInk", "(II)Z"⟩, 7), (⟨"Eddyhall$Water", "isAllDyed", "(I)Z"⟩, 13), (⟨"Eddyhall$Water", "isAllPlain", "(I)Z"⟩, 13), (⟨"Eddyhall", "unevenInk", "()J"⟩, 7), (⟨"Eddyhall$Probes", "changesOfSign", "(I)I"⟩, 4), (⟨"Eddyhall", "pushWithout", "(III)I"⟩, 7), (⟨"EddyhallModel", "isCell", "(I)Z"⟩, 26), (⟨"EddyhallModel", "canBeWall", "(II)Z"⟩, 26), (⟨"EddyhallModel", "hasProbe", "(I)Z"⟩, 26), (⟨"EddyhallModel", "cellsOf", "(I)I"⟩, 26), (⟨"EddyhallModel", "refused", "(I)Z"⟩, 26), (⟨"EddyhallModel", "allCounts", "()J"⟩, 26), (⟨"EddyhallModel", "hasOpen", "()Z"⟩, 26), (⟨"EddyhallModel", "advance", "([I[I)V"⟩, 26)]
theorem lw_r3 : ∀ q ∈ lw_privs_3, lw_okq q := List.forall_mem_cons.mpr ⟨lw_p32, List.forall_mem_cons.mpr ⟨lw_p33, List.forall_mem_cons.mpr ⟨lw_p34, List.forall_mem_cons.mpr ⟨lw_p35, List.forall_mem_cons.mpr ⟨lw_p36, List.forall_mem_cons.mpr ⟨lw_p37, List.forall_mem_cons.mpr ⟨lw_p38, List.forall_mem_cons.mpr ⟨lw_p39, List.forall_mem_cons.mpr ⟨lw_p40, List.forall_mem_cons.mpr ⟨lw_p41, List.forall_mem_cons.mpr ⟨lw_p42, List.forall_mem_cons.mpr ⟨lw_p43, List.forall_mem_cons.mpr ⟨lw_p44, List.forall_mem_cons.mpr ⟨lw_p45, List.forall_mem_cons.mpr ⟨lw_p46, List.forall_mem_cons.mpr ⟨lw_p47, fun _ h => absurd h List.not_mem_nil⟩⟩⟩⟩⟩⟩⟩⟩⟩⟩⟩⟩⟩⟩⟩⟩
theorem lw_p48 : lw_okq (⟨"EddyhallModel", "blocks", "(I)Z"⟩, 26) := ⟨⟨by decide +kernel, by decide +kernel⟩, List.mem_of_getElem? (i := 690) (by decide +kernel), List.mem_of_getElem? (i := 864) (by decide +kernel), List.mem_of_getElem? (i := 865) (by decide +kernel)⟩
theorem lw_p49 : lw_okq (⟨"EddyhallModel", "hit", "(II)V"⟩, 26) := ⟨⟨by decide +kernel, by decide +kernel⟩, List.mem_of_getElem? (i := 690) (by decide +kernel), List.mem_of_getElem? (i := 871) (by decide +kernel), List.mem_of_getElem? (i := 872) (by decide +kernel)⟩
theorem lw_p50 : lw_okq (⟨"EddyhallModel", "retreat", "()V"⟩, 26) := ⟨⟨by decide +kernel, by decide +kernel⟩, List.mem_of_getElem? (i := 690) (by decide +kernel), List.mem_of_getElem? (i := 879) (by decide +kernel), List.mem_of_getElem? (i := 880) (by decide +kernel)⟩
theorem lw_p51 : lw_okq (⟨"EddyhallModel", "unhop", "(II)V"⟩, 26) := ⟨⟨by decide +kernel, by decide +kernel⟩, List.mem_of_getElem? (i := 690) (by decide +kernel), List.mem_of_getElem? (i := 883) (by decide +kernel), List.mem_of_getElem? (i := 884) (by decide +kernel)⟩
theorem lw_p52 : lw_okq (⟨"EddyhallModel", "meet", "(I)V"⟩, 26) := ⟨⟨by decide +kernel, by decide +kernel⟩, List.mem_of_getElem? (i := 690) (by decide +kernel), List.mem_of_getElem? (i := 891) (by decide +kernel), List.mem_of_getElem? (i := 892) (by decide +kernel)⟩
theorem lw_p53 : lw_okq (⟨"EddyhallModel", "look", "(ZIIIII)V"⟩, 26) := ⟨⟨by decide +kernel, by decide +kernel⟩, List.mem_of_getElem? (i := 690) (by decide +kernel), List.mem_of_getElem? (i := 924) (by decide +kernel), List.mem_of_getElem? (i := 925) (by decide +kernel)⟩
theorem lw_p54 : lw_okq (⟨"EddyhallModel", "seen", "(ZII)J"⟩, 26) := ⟨⟨by decide +kernel, by decide +kernel⟩, List.mem_of_getElem? (i := 690) (by decide +kernel), List.mem_of_getElem? (i := 928) (by decide +kernel), List.mem_of_getElem? (i := 929) (by decide +kernel)⟩
theorem lw_p55 : lw_okq (⟨"EddyhallModel", "copy", "()V"⟩, 26) := ⟨⟨by decide +kernel, by decide +kernel⟩, List.mem_of_getElem? (i := 690) (by decide +kernel), List.mem_of_getElem? (i := 945) (by decide +kernel), List.mem_of_getElem? (i := 946) (by decide +kernel)⟩
theorem lw_p56 : lw_okq (⟨"EddyhallModel", "pairs", "()J"⟩, 26) := ⟨⟨by decide +kernel, by decide +kernel⟩, List.mem_of_getElem? (i := 690) (by decide +kernel), List.mem_of_getElem? (i := 958) (by decide +kernel), List.mem_of_getElem? (i := 959) (by decide +kernel)⟩
theorem lw_p57 : lw_okq (⟨"EddyhallModel", "shade", "(I)I"⟩, 26) := ⟨⟨by decide +kernel, by decide +kernel⟩, List.mem_of_getElem? (i := 690) (by decide +kernel), List.mem_of_getElem? (i := 962) (by decide +kernel), List.mem_of_getElem? (i := 963) (by decide +kernel)⟩
theorem lw_p58 : lw_okq (⟨"EddyhallModel", "blocksOff", "()J"⟩, 26) := ⟨⟨by decide +kernel, by decide +kernel⟩, List.mem_of_getElem? (i := 690) (by decide +kernel), List.mem_of_getElem? (i := 966) (by decide +kernel), List.mem_of_getElem? (i := 967) (by decide +kernel)⟩
theorem lw_p59 : lw_okq (⟨"EddyhallModel", "pushIn", "(II)I"⟩, 26) := ⟨⟨by decide +kernel, by decide +kernel⟩, List.mem_of_getElem? (i := 690) (by decide +kernel), List.mem_of_getElem? (i := 982) (by decide +kernel), List.mem_of_getElem? (i := 983) (by decide +kernel)⟩
def lw_privs_4 : List (MethodName × Nat) := [(⟨"EddyhallModel", "blocks", "(I)Z"⟩, 26), (⟨"EddyhallModel", "hit", "(II)V"⟩, 26), (⟨"EddyhallModel", "retreat", "()V"⟩, 26), (⟨"EddyhallModel", "unhop", "(II)V"⟩, 26), (⟨"EddyhallModel", "meet", "(I)V"⟩, 26), (⟨"EddyhallModel", "look", "(ZIIIII)V"⟩, 26), (⟨"EddyhallModel", "seen", "(ZII)J"⟩, 26), (⟨"EddyhallModel", "copy", "()V"⟩, 26), (⟨"EddyhallModel", "pairs", "()J"⟩, 26), (⟨"EddyhallModel", "shade", "(I)I"⟩, 26), (⟨"EddyhallModel", "blocksOff", "()J"⟩, 26), (⟨"EddyhallModel", "pushIn", "(II)I"⟩, 26)]
theorem lw_r4 : ∀ q ∈ lw_privs_4, lw_okq q := List.forall_mem_cons.mpr ⟨lw_p48, List.forall_mem_cons.mpr ⟨lw_p49, List.forall_mem_cons.mpr ⟨lw_p50, List.forall_mem_cons.mpr ⟨lw_p51, List.forall_mem_cons.mpr ⟨lw_p52, List.forall_mem_cons.mpr ⟨lw_p53, List.forall_mem_cons.mpr ⟨lw_p54, List.forall_mem_cons.mpr ⟨lw_p55, List.forall_mem_cons.mpr ⟨lw_p56, List.forall_mem_cons.mpr ⟨lw_p57, List.forall_mem_cons.mpr ⟨lw_p58, List.forall_mem_cons.mpr ⟨lw_p59, fun _ h => absurd h List.not_mem_nil⟩⟩⟩⟩⟩⟩⟩⟩⟩⟩⟩⟩
def lw_privs : List (MethodName × Nat) := lw_privs_1 ++ (lw_privs_2 ++ (lw_privs_3 ++ (lw_privs_4)))
def lw_tbl : List Cond := k2_sels lw_privs ++ tables_1
theorem lw_privs_ok : ∀ q ∈ lw_privs, lw_okq q := by
  show ∀ q ∈ lw_privs_1 ++ (lw_privs_2 ++ (lw_privs_3 ++ (lw_privs_4))), lw_okq q
  exact List.forall_mem_append.mpr ⟨lw_r1, List.forall_mem_append.mpr ⟨lw_r2, List.forall_mem_append.mpr ⟨lw_r3, lw_r4⟩⟩⟩
/-- the streams that the claim lets the run draw from -/
abbrev lw_cs : List Choice := [Jvm.Choice.named "NaN.bits"]
theorem lw_bits : nanBits ∈ lw_cs := by first | decide | exact List.mem_cons_self | simp [lw_cs, nanBits]
end
section
/-! ===== BEGIN exceptions that leave a method, and their catching by the caller (launches without stack traces) ===== -/
section VXA
/-! The laws vx_back, vx_callV, vx_callS, vx_callSW, vx_throw0, vx_throwS follow proofs of the library, with one case more: JvmDerived/Free/Laws.lean (Back.of_free), Shelf42/LK1.lean (callV, callS), Shelf/KitTraced.lean (throwNew0V, throwNewS). -/
/-- where a method has thrown q: the class by its name, the cell, what was written, the world -/
def vx_T (XC : String → State → State → Prop) (st : State) (q : Addr) (t : State) (mc ms : Nat) (free : Addr → Prop) : Prop :=
  ∃ (E : String) (ce : Cell) (L : List Loc), XC E st t ∧ t.heap[q]? = some ce ∧ ce.vm = .none ∧ st.vm.findClass E = some ce.cls ∧ st.WarmedH t.vm ∧ st.sameButNew ({ t with vm := st.vm } : State) L mc ms ∧ ∀ z ∈ L, free z.base
def vx_Q (Qc : Array Value → State → Outcome → State → Prop) (XC : String → State → State → Prop) (mc ms : Nat) (free : Addr → Prop) : Array Value → State → Outcome → State → Prop := fun a st o t =>
  (Qc a st o t ∧ ∃ L, FrameEnd st o t L mc ms ∧ ∀ q ∈ L, free q.base) ∨ ∃ q, o = .threw q ∧ vx_T XC st q t mc ms free
/-- a callee that returns or throws -/
def vx_Met (l : Launch) (y : MethodName) (ws : List Cond) (rm : Room) (Pc : Array Value → State → Prop) (Qc : Array Value → State → Outcome → State → Prop) (XC : String → State → State → Prop) (mc ms : Nat) (free : Addr → Prop) : Prop :=
  MetFree l y (headSpec ws rm) Pc (fun _ _ _ _ _ => True) (vx_Q Qc XC mc ms free)
def vx_Post (XC : String → State → State → Prop) (mc ms : Nat) (free : Addr → Prop) : Pt → Array Value → Addr → Pt → Prop := fun A a q B =>
  ∃ (g : JFrame) (mk : MethodId) (t : State) (L : List Loc) (E : String) (ce : Cell), B.U.heap = t.heap ∧ B.U.vm = t.vm ∧ XC E (A.U.calling g mk a) t ∧ t.heap[q]? = some ce ∧ ce.vm = .none ∧ A.U.vm.findClass E = some ce.cls ∧ B.locs = A.locs ++ L ∧ (∀ z ∈ L, free z.base) ∧ B.cells = A.cells + mc ∧ B.slots = A.slots + ms
def vx_Back (l : Launch) (R : Room) (p : Program) (e : Env) (below : List Frame) (s : State) (sargs : Array Value) (y : MethodName) (len W9 : Nat)
    (Pre : Pt → Array Value → Prop) (Post : Pt → Array Value → Option Value → Pt → Prop) (PostX : Pt → Array Value → Addr → Pt → Prop) : Prop :=
  ∀ (m : MethodId) (meth : Method) (c : Code) (A : Pt) (g : JFrame) (ig : Instr) (mk : MethodId) (a : Array Value),
    Stand p l e R s m sargs below meth c A.U A.locs A.cells A.slots → g.method = m → g.locals.size = c.maxLocals → decode c.code g.pc = .ok (ig, len) →
    2 * g.monitorRoom + (g.stack.map fun v => v.category).sum ≤ W9 → A.U.methodNamed? y = some mk → Pre A a →
    (∃ (v : Option Value) (B : Pt), Stand p l e R s m sargs below meth c B.U B.locs B.cells B.slots ∧ Post A a v B ∧
      Steps p.tables e below (doInvoke e (A.U.setTop g) [] mk a).1 (B.U.setTop { g with pc := g.pc + len, stack := v.toList ++ g.stack })) ∨
    (∃ (q : Addr) (B : Pt), Stand p l e R s m sargs below meth c B.U B.locs B.cells B.slots ∧ PostX A a q B ∧
      Steps p.tables e below (doInvoke e (A.U.setTop g) [] mk a).1 ((B.U.setTop g).pushFrame (.throwing q)))
section Payer
variable {l : Launch} {R : Room} {p : Program} {e : Env} {below : List Frame} {s : State} {sargs : Array Value} {y : MethodName} {len W9 : Nat}
theorem vx_back {ws : List Cond} {rm : Room} {Pc : Array Value → State → Prop} {Qc : Array Value → State → Outcome → State → Prop} {XC : String → State → State → Prop} {mc ms : Nat} {free : Addr → Prop} {bytes : ByteArray} {maxL : Nat} {ret : Option FieldType}
    (hM : vx_Met l y ws rm Pc Qc XC mc ms free) (hblind : FrameBlind Pc) (hrc : rm.cells = mc) (hrs : rm.slots = ms)
    (hframes : rm.frames + 1 ≤ R.frames) (hlocals : W9 + (maxL + 11) + rm.locals ≤ R.locals)
    (hws : ∀ w ∈ ws, ∀ a' U, s.WarmedH U.vm → w.before a' U = true) (hcode : Cond.code y bytes maxL ret ∈ ws) (hinit : ∀ a' U, s.WarmedH U.vm → (Cond.initialized y.cls).before a' U = true) :
    vx_Back l R p e below s sargs y len W9 (PreOf R mc ms Pc) (PostOf Qc mc ms free) (vx_Post XC mc ms free) := by
  intro m meth c A g ig mk a X hg hsize hdg hW hn hp
  have h1 : (headSpec ws rm).pre.before a A.U = true := atoms_intro fun w hw => hws w hw _ _ X.warmed
  have h2 : (Cond.code y bytes maxL ret).before a A.U = true := hws _ hcode _ _ X.warmed
  have h3 : (Cond.initialized y.cls).before a A.U = true := hinit _ _ X.warmed
  have h4 : A.cells + (headSpec ws rm).room.cells ≤ R.cells := by rw [show (headSpec ws rm).room.cells = mc from hrc]; exact hp.1
  have h5 : A.slots + (headSpec ws rm).room.slots ≤ R.slots := by rw [show (headSpec ws rm).room.slots = ms from hrs]; exact hp.2.1
  have hPc : Pc a (A.U.calling g mk a) := hblind _ _ _ _ hp.2.2
  obtain ⟨U, Ls, c0, s0⟩ := A
  dsimp only [Pt.U, Pt.locs, Pt.cells, Pt.slots] at h1 h2 h3 h4 h5 X hn hPc ⊢
  obtain ⟨methY, cY, hmY, hcY, -, hlY, -, -, -, -⟩ := Cond.code_spec hn h2
  obtain ⟨kY, hkY, -⟩ := className_of_methodNamed hn
  have hinitY : kY.init = .initialized := Cond.initialized_spec (findClass_of_methodNamed hn) hkY h3
  have h : At U g.method c below := by rw [hg]; exact X.here
  have hlocals9 : W9 + (maxL + 11) + (headSpec ws rm).room.locals ≤ R.locals := hlocals
  have happ : (headSpec ws rm).appliesLoose y e.platform (U.calling g mk a) = true :=
    Spec.appliesLoose_calling (g := g) h hdg hn hkY hinitY
      (X.room_calling (g := g) (R' := (headSpec ws rm).room) hsize hmY hcY hframes (by rw [hlY]; omega) h4 h5) h1
  obtain ⟨mid, hmid⟩ := h.above
  have hfr : (U.setTop g).frames = (.java g :: mid) ++ below := by rw [State.frames_setTop' g h.top, hmid]; rfl
  obtain ⟨o, s₂, hsteps, -, hend, hq⟩ := Steps.callFree hM p X.admits X.cas X.clock (acts := []) hfr happ hPc trivial
  have hq' : vx_Q Qc XC mc ms free a (U.calling g mk a) o s₂ := hq
  rw [State.frames_setTop' g h.top] at hend
  obtain ⟨g₀, hg0⟩ := Option.isSome_iff_exists.mp h.top
  obtain ⟨r, hr⟩ := State.topJava?_eq_some.mp hg0
  have hr' : (({ U with heap := s₂.heap, slotsUsed := s₂.slotsUsed } : State).setVm s₂.vm).frames = .java g₀ :: r := hr
  rcases hq' with ⟨hqc, L, hfe, hL⟩ | ⟨q, rfl, E, ce, L, hx, hce, hcv, hcl, hW₂, hsm, hL⟩
  · obtain ⟨⟨v, rfl⟩, hW₂, e2, q2, q3, q4, q5, q6⟩ := id hfe
    have e3 : s₂ = ({ (U.calling g mk a).setFrames s₂.frames with heap := s₂.heap, slotsUsed := s₂.slotsUsed } : State).setVm s₂.vm := by
      have : s₂ = ({ s₂ with vm := (U.calling g mk a).vm } : State).setVm s₂.vm := rfl
      rw [e2] at this
      exact this
    obtain ⟨c₂, i₂, len₂, hc₂, hd₂, hf₂⟩ := hend
    have hW' : U.WarmedH s₂.vm := hW₂
    have hcc : c₂ = c := by
      have h1 : s₂.code? g.method = U.code? g.method := by
        rw [State.code?_eq, State.code?_eq, hW'.alike.method?]
      exact Option.some.inj (hc₂.symm.trans (h1.trans h.code))
    subst hcc
    have hlen : len₂ = len := by rw [hdg] at hd₂; cases hd₂; rfl
    subst hlen
    have hs₂ : s₂ = (({ U with heap := s₂.heap, slotsUsed := s₂.slotsUsed } : State).setVm s₂.vm).setTop { g with pc := g.pc + len₂, stack := v.toList ++ g.stack } := by
      refine e3.trans ?_
      rw [hf₂, State.calling_eq h.top, State.setFrames_setFrames, State.setTop_of_frames _ hr', hr]
      rfl
    have hsame : U.sameButNew ({ U with heap := s₂.heap, slotsUsed := s₂.slotsUsed } : State) L mc ms := by
      refine ⟨?_, q2, q3, q4, q5, q6⟩
      obtain ⟨t, ht, -⟩ := State.frames_cons hr
      show ({ U with heap := s₂.heap, slotsUsed := s₂.slotsUsed } : State) = { U.setFrames U.frames with heap := s₂.heap, slotsUsed := s₂.slotsUsed }
      rw [State.setFrames_self ht]
    subst hg
    refine Or.inl ⟨v, ⟨(({ U with heap := s₂.heap, slotsUsed := s₂.slotsUsed } : State).setVm s₂.vm), Ls ++ L, c0 + mc, s0 + ms⟩,
      ⟨X.admits, X.cas, X.clock, X.frames, X.room, X.hears, X.method, X.code, (X.here.setHeapUsed s₂.heap s₂.slotsUsed).setVm hW'.alike, X.tail, State.WarmedH.trans X.warmed hW', X.limits, X.bytes, X.same.trans (hsame.setVm s.vm)⟩,
      ⟨g, mk, s₂, L, rfl, rfl, hqc, rfl, hL, rfl, rfl⟩, ?_⟩
    show Steps p.tables e below _ ((({ U with heap := s₂.heap, slotsUsed := s₂.slotsUsed } : State).setVm s₂.vm).setTop { g with pc := g.pc + len₂, stack := v.toList ++ g.stack })
    rw [← hs₂]
    exact hsteps
  · obtain ⟨e2, q2, q3, q4, q5, q6⟩ := id hsm
    have e3 : s₂ = ({ (U.calling g mk a).setFrames s₂.frames with heap := s₂.heap, slotsUsed := s₂.slotsUsed } : State).setVm s₂.vm := by
      have : s₂ = ({ s₂ with vm := (U.calling g mk a).vm } : State).setVm s₂.vm := rfl
      rw [e2] at this
      exact this
    have hf₂ : s₂.frames = .throwing q :: .java g :: U.frames.tail := hend
    have hW' : U.WarmedH s₂.vm := hW₂
    have hs₂ : s₂ = ((({ U with heap := s₂.heap, slotsUsed := s₂.slotsUsed } : State).setVm s₂.vm).setTop g).pushFrame (.throwing q) := by
      refine e3.trans ?_
      rw [hf₂, State.calling_eq h.top, State.setFrames_setFrames, State.pushFrame, State.frames_setTop _ hr', State.setTop_of_frames _ hr', State.setFrames_setFrames, hr]
      rfl
    have hsame : U.sameButNew ({ U with heap := s₂.heap, slotsUsed := s₂.slotsUsed } : State) L mc ms := by
      refine ⟨?_, q2, q3, q4, q5, q6⟩
      obtain ⟨t, ht, -⟩ := State.frames_cons hr
      show ({ U with heap := s₂.heap, slotsUsed := s₂.slotsUsed } : State) = { U.setFrames U.frames with heap := s₂.heap, slotsUsed := s₂.slotsUsed }
      rw [State.setFrames_self ht]
    subst hg
    refine Or.inr ⟨q, ⟨(({ U with heap := s₂.heap, slotsUsed := s₂.slotsUsed } : State).setVm s₂.vm), Ls ++ L, c0 + mc, s0 + ms⟩,
      ⟨X.admits, X.cas, X.clock, X.frames, X.room, X.hears, X.method, X.code, (X.here.setHeapUsed s₂.heap s₂.slotsUsed).setVm hW'.alike, X.tail, State.WarmedH.trans X.warmed hW', X.limits, X.bytes, X.same.trans (hsame.setVm s.vm)⟩,
      ⟨g, mk, s₂, L, E, ce, rfl, rfl, hx, hce, hcv, hcl, rfl, hL, rfl, rfl⟩, ?_⟩
    show Steps p.tables e below _ (((({ U with heap := s₂.heap, slotsUsed := s₂.slotsUsed } : State).setVm s₂.vm).setTop g).pushFrame (.throwing q))
    rw [← hs₂]
    exact hsteps
end Payer
section Calls
variable {p : Program} {l : Launch} {e : Env} {R : Room} {s : State} {m : MethodId} {args : Array Value} {below : List Frame} {meth : Method} {c : Code} {T : State} {locs : List Loc} {cells slots : Nat}
theorem vx_callV (X : Stand p l e R s m args below meth c T locs cells slots) (hexec : p.tables.exec = Jvm.exec) {own C : String} {index : Nat} {y : MethodName} {bytes : ByteArray} {maxL : Nat} {ret : Option FieldType}
    (hown : s.vm.findClass own = some m.cls) (hlink : (Cond.methodLink own index y).before args s = true) (hinst : (Cond.instanceMethod y).before args s = true) (hsel : (Cond.selects C y y).before args s = true)
    (hcode : (Cond.code y bytes maxL ret).before args s = true) (hy : y.cls ≠ "java/lang/invoke/MethodHandle" ∧ y.cls ≠ "java/lang/invoke/VarHandle")
    {W9 : Nat} {Pre : Pt → Array Value → Prop} {Post : Pt → Array Value → Option Value → Pt → Prop} {PostX : Pt → Array Value → Addr → Pt → Prop} (hK : vx_Back l R p e below s args y 3 W9 Pre Post PostX)
    {b : Addr} {cellB : Cell} (hcell : T.heap[b]? = some cellB) (hobj : cellB.vm.isStatics = false) (hcls : s.vm.findClass C = some cellB.cls)
    {g : JFrame} (hg : g.method = m) (hsize : g.locals.size = c.maxLocals) {argsL rest : List Value} (hlen : ∀ sig, parseMethodDescriptor y.desc = some sig → argsL.length = sig.parameters.length)
    (hstack : g.stack = argsL.reverse ++ .ref b :: rest) (hW : 2 * g.monitorRoom + (rest.map fun v => v.category).sum ≤ W9) (hdg : decode c.code g.pc = .ok (.invokevirtual index, 3))
    (hpre : ∀ vm₁, s.WarmedH vm₁ → Pre ⟨T.setVm vm₁, locs, cells, slots⟩ (Value.ref b :: argsL).toArray) :
    (∃ (v : Option Value) (vm₁ : Vm) (B : Pt), s.WarmedH vm₁ ∧ Stand p l e R s m args below meth c B.U B.locs B.cells B.slots ∧ Post ⟨T.setVm vm₁, locs, cells, slots⟩ (Value.ref b :: argsL).toArray v B ∧
      ∀ target, Steps p.tables e below (B.U.setTop { g with pc := g.pc + 3, stack := v.toList ++ rest }) target → Steps p.tables e below (T.setTop g) target) ∨
    (∃ (q : Addr) (vm₁ : Vm) (B : Pt), s.WarmedH vm₁ ∧ Stand p l e R s m args below meth c B.U B.locs B.cells B.slots ∧ PostX ⟨T.setVm vm₁, locs, cells, slots⟩ (Value.ref b :: argsL).toArray q B ∧
      Steps p.tables e below (T.setTop g) ((B.U.setTop { g with stack := rest }).pushFrame (.throwing q))) := by
  obtain ⟨mk, methM, hnamed, hmethM, hstM, habM⟩ := Cond.instanceMethod_spec hinst
  obtain ⟨methM', cM, hmethM', -, -, -, -, -, -, hsigM⟩ := Cond.code_spec hnamed hcode
  cases hmethM.symm.trans hmethM'
  obtain ⟨c2, r2, m2, q1, q2, q3, q4, kP, hkP, hkPi⟩ := Cond.selects_spec hsel
  cases hcls.symm.trans q1
  cases (State.methodFound?_of_named hnamed hy).symm.trans q2
  cases hnamed.symm.trans q3
  have hselP : selectMethod e.platform s.vm cellB.cls mk = .method mk := by rw [Launch.admits_selectMethod X.admits]; exact q4
  obtain ⟨vm₁, X₁, hstep₁⟩ := X.invokevirtual hexec hown hlink hnamed hmethM hstM hkP hkPi hy (a := b) (cell := cellB) hcell
    (fun z h => by rw [h] at hobj; cases hobj) hselP hmethM habM hkP hkPi (g := g) hg (argsL := argsL) (rest := rest) (hlen _ hsigM) hstack hdg
  rcases hK m meth c ⟨T.setVm vm₁, locs, cells, slots⟩ { g with stack := rest } (.invokevirtual index) mk (Value.ref b :: argsL).toArray X₁ hg hsize hdg hW (X₁.named hnamed) (hpre vm₁ X₁.warmed) with ⟨v, B, X', hpost, hsteps⟩ | ⟨q, B, X', hpost, hsteps⟩
  · exact Or.inl ⟨v, vm₁, B, X₁.warmed, X', hpost, fun target h => hstep₁ _ fun acts => by rw [doInvoke_state]; exact hsteps.trans h⟩
  · exact Or.inr ⟨q, vm₁, B, X₁.warmed, X', hpost, hstep₁ _ fun acts => by rw [doInvoke_state]; exact hsteps⟩
theorem vx_callS (X : Stand p l e R s m args below meth c T locs cells slots) (hexec : p.tables.exec = Jvm.exec) {own : String} {index : Nat} {y : MethodName} {bytes : ByteArray} {maxL : Nat} {ret : Option FieldType}
    (hown : s.vm.findClass own = some m.cls) (hlink : (Cond.methodLink own index y).before args s = true) (hstat : (Cond.static y).before args s = true) (hinit : (Cond.initialized y.cls).before args s = true)
    (hcode : (Cond.code y bytes maxL ret).before args s = true) (hy : y.cls ≠ "java/lang/invoke/MethodHandle" ∧ y.cls ≠ "java/lang/invoke/VarHandle")
    {W9 : Nat} {Pre : Pt → Array Value → Prop} {Post : Pt → Array Value → Option Value → Pt → Prop} {PostX : Pt → Array Value → Addr → Pt → Prop} (hK : vx_Back l R p e below s args y 3 W9 Pre Post PostX)
    {g : JFrame} (hg : g.method = m) (hsize : g.locals.size = c.maxLocals) {argsL rest : List Value} (hlen : ∀ sig, parseMethodDescriptor y.desc = some sig → argsL.length = sig.parameters.length)
    (hstack : g.stack = argsL.reverse ++ rest) (hW : 2 * g.monitorRoom + (rest.map fun v => v.category).sum ≤ W9) (hdg : decode c.code g.pc = .ok (.invokestatic index, 3))
    (hpre : ∀ vm₁, s.WarmedH vm₁ → Pre ⟨T.setVm vm₁, locs, cells, slots⟩ argsL.toArray) :
    (∃ (v : Option Value) (vm₁ : Vm) (B : Pt), s.WarmedH vm₁ ∧ Stand p l e R s m args below meth c B.U B.locs B.cells B.slots ∧ Post ⟨T.setVm vm₁, locs, cells, slots⟩ argsL.toArray v B ∧
      ∀ target, Steps p.tables e below (B.U.setTop { g with pc := g.pc + 3, stack := v.toList ++ rest }) target → Steps p.tables e below (T.setTop g) target) ∨
    (∃ (q : Addr) (vm₁ : Vm) (B : Pt), s.WarmedH vm₁ ∧ Stand p l e R s m args below meth c B.U B.locs B.cells B.slots ∧ PostX ⟨T.setVm vm₁, locs, cells, slots⟩ argsL.toArray q B ∧
      Steps p.tables e below (T.setTop g) ((B.U.setTop { g with stack := rest }).pushFrame (.throwing q))) := by
  obtain ⟨mk, hnamed⟩ := Cond.code_named hcode
  obtain ⟨methM, cM, hmethM, -, -, -, -, -, -, hsigM⟩ := Cond.code_spec hnamed hcode
  have hstatic : methM.isStatic = true := Cond.static_spec hnamed hmethM hstat
  obtain ⟨kP, hkP, -⟩ := className_of_methodNamed hnamed
  have hinitP : kP.init = .initialized := Cond.initialized_spec (findClass_of_methodNamed hnamed) hkP hinit
  obtain ⟨vm₁, X₁, hstep₁⟩ := X.invokestatic hexec hown hlink hnamed hmethM hstatic hkP hinitP hy (g := g) hg (argsL := argsL) (rest := rest) (hlen _ hsigM) hstack hdg
  rcases hK m meth c ⟨T.setVm vm₁, locs, cells, slots⟩ { g with stack := rest } (.invokestatic index) mk argsL.toArray X₁ hg hsize hdg hW (X₁.named hnamed) (hpre vm₁ X₁.warmed) with ⟨v, B, X', hpost, hsteps⟩ | ⟨q, B, X', hpost, hsteps⟩
  · exact Or.inl ⟨v, vm₁, B, X₁.warmed, X', hpost, fun target h => hstep₁ _ fun acts => by rw [doInvoke_state]; exact hsteps.trans h⟩
  · exact Or.inr ⟨q, vm₁, B, X₁.warmed, X', hpost, hstep₁ _ fun acts => by rw [doInvoke_state]; exact hsteps⟩
end Calls
theorem vx_cls {s : State} {T : State} {vm₁ : Vm} {E : String} {k : ClassId} (hW : s.WarmedH vm₁) (h : (T.setVm vm₁).vm.findClass E = some k) : s.vm.findClass E = some k := by
  have h1 : vm₁.findClass E = some k := h
  rw [hW.alike.findClass] at h1
  exact h1
/-- the method's frame g, with q thrown over it -/
def vx_W (p : Program) (l : Launch) (e : Env) (R : Room) (s : State) (m : MethodId) (args : Array Value) (below : List Frame) (meth : Method) (c : Code) (H : Heap) (locs : List Loc) (cells slots : Nat) (Q : State → Prop) (g : JFrame) (q : Addr) : Prop :=
  ∀ T : State, T.heap = H → Stand p l e R s m args below meth c T locs cells slots → ∃ t, Steps p.tables e below ((T.setTop g).pushFrame (.throwing q)) t ∧ Q t
def vx_Run (p : Program) (l : Launch) (e : Env) (R : Room) (s : State) (m : MethodId) (args : Array Value) (below : List Frame) (meth : Method) (c : Code) (H : Heap) (locs : List Loc) (cells slots mc ms : Nat) (g : JFrame) (rest : List Value) (Qa : State → Outcome → State → Prop) (XC : String → State → State → Prop) (free : Addr → Prop) : Prop :=
  ∀ T : State, T.heap = H → Stand p l e R s m args below meth c T locs cells slots →
    (∃ (v : Option Value) (st₀ t T' : State) (L : List Loc), st₀.heap = H ∧ Stand p l e R s m args below meth c T' (locs ++ L) (cells + mc) (slots + ms) ∧ (∀ q ∈ L, free q.base) ∧ T'.heap = t.heap ∧ T'.vm = t.vm ∧ Qa st₀ (.returned v) t ∧
      Goes p e below T g T' { g with pc := g.pc + 3, stack := v.toList ++ rest }) ∨
    (∃ (q : Addr) (st₀ t T' : State) (L : List Loc) (E : String) (ce : Cell), st₀.heap = H ∧ Stand p l e R s m args below meth c T' (locs ++ L) (cells + mc) (slots + ms) ∧ (∀ z ∈ L, free z.base) ∧ T'.heap = t.heap ∧ T'.vm = t.vm ∧ XC E st₀ t ∧ t.heap[q]? = some ce ∧ ce.vm = .none ∧ s.vm.findClass E = some ce.cls ∧
      Steps p.tables e below (T.setTop g) ((T'.setTop { g with stack := rest }).pushFrame (.throwing q)))
def vx_X {S : Type} (px : S → Prop) (B : String → S → State → Prop) (A : Nat → Prop) : String → State → State → Prop := fun E st t => ∃ u : S, px u ∧ B E u t ∧ va_F A st t
section Runs
variable {p : Program} {l : Launch} {e : Env} {R : Room} {s : State} {m : MethodId} {args : Array Value} {below : List Frame} {meth : Method} {c : Code} {H : Heap} {locs : List Loc} {cells slots : Nat}
variable {y : MethodName} {bytes cc : ByteArray} {maxL nL mc ms n index : Nat} {ret : Option FieldType} {ws : List Cond} {rm : Room} {Pc : Array Value → State → Prop} {Qc : Array Value → State → Outcome → State → Prop} {XC : String → State → State → Prop} {free : Addr → Prop} {Ts : List Cond} {own C : String} {b : Addr} {As rest : List Value} {g : JFrame}
theorem vx_callBack (cb : CallB R s args own index y bytes maxL ret ws rm mc ms n) (hM : vx_Met l y ws rm Pc Qc XC mc ms free) (hbl : FrameBlind Pc) : vx_Back l R p e below s args y 3 8 (PreOf R mc ms Pc) (PostOf Qc mc ms free) (vx_Post XC mc ms free) := by
  obtain ⟨hrc, hrs, hfr, hlo, hws, hcw, -, hini, -⟩ := cb
  exact vx_back (bytes := bytes) (maxL := maxL) (ret := ret) hM hbl hrc hrs hfr hlo hws hcw (fun a' U hW => word_at hW (Or.inl (by first | rfl | simp [Cond.onTables, Cond.keeps, Cond.steady])) hini)
theorem vx_runV (S : CallFix p m c cc nL s args Ts own) (hM : vx_Met l y ws rm Pc Qc XC mc ms free) (cw : CallW R s args own C index y bytes maxL ret ws rm mc ms n) (hp : PreV s H C b Pc As)
    (hg : g.method = m) (hn : As.length = n) (hsize : g.locals.size = nL) (hstack : g.stack = As.reverse ++ .ref b :: rest) (hW : 2 * g.monitorRoom + (rest.map fun v => v.category).sum ≤ 8) (hdg : decode cc g.pc = .ok (.invokevirtual index, 3)) (hf : cells + mc ≤ R.cells ∧ slots + ms ≤ R.slots) :
    vx_Run p l e R s m args below meth c H locs cells slots mc ms g rest (Qc (Value.ref b :: As).toArray) XC free := by
  have hK : vx_Back l R p e below s args y 3 8 (PreOf R mc ms Pc) (PostOf Qc mc ms free) (vx_Post XC mc ms free) := vx_callBack cw.1 hM hp.1
  obtain ⟨⟨-, -, -, -, -, -, hcode, -, hy, hlen, hl⟩, hin, hse⟩ := cw
  obtain ⟨hx, hb, hml, ho, -⟩ := S
  obtain ⟨-, ⟨cellB, hcB, hoB, hclB⟩, hPc⟩ := hp
  intro T hT X
  rcases vx_callV X hx (C := C) (bytes := bytes) (maxL := maxL) (ret := ret) ho hl hin hse hcode hy hK (by rw [hT]; exact hcB) hoB hclB hg (hsize.trans hml.symm) (argsL := As) (rest := rest) (fun sig h => hn.trans (hlen sig h)) hstack hW (by rw [hb]; exact hdg)
    (fun vm₁ hW₁ => ⟨hf.1, hf.2, hPc (T.setVm vm₁) hT hW₁⟩) with ⟨v, vm₁, ⟨U', l2, c2, s2⟩, hW₁, X', ⟨g', mk, t, L, e1, e2, hq, h1, hL, h2, h3⟩, st⟩ | ⟨q, vm₁, ⟨U', l2, c2, s2⟩, hW₁, X', ⟨g', mk, t, L, E, ce, e1, e2, hq, hce, hcv, hcl, h1, hL, h2, h3⟩, st⟩
  · dsimp only [Pt.U, Pt.locs, Pt.cells, Pt.slots] at X' e1 e2 h1 h2 h3 st
    subst h1; subst h2; subst h3
    exact Or.inl ⟨v, (T.setVm vm₁).calling g' mk (Value.ref b :: As).toArray, t, U', L, hT, X', hL, e1, e2, hq, st⟩
  · dsimp only [Pt.U, Pt.locs, Pt.cells, Pt.slots] at X' e1 e2 h1 h2 h3 st hcl
    subst h1; subst h2; subst h3
    exact Or.inr ⟨q, (T.setVm vm₁).calling g' mk (Value.ref b :: As).toArray, t, U', L, E, ce, hT, X', hL, e1, e2, hq, hce, hcv, vx_cls hW₁ hcl, st⟩
theorem vx_runS (S : CallFix p m c cc nL s args Ts own) (hM : vx_Met l y ws rm Pc Qc XC mc ms free) (cw : CallB R s args own index y bytes maxL ret ws rm mc ms n ∧ (Cond.static y).before args s = true) (hp : PreS s H Pc As)
    (hg : g.method = m) (hn : As.length = n) (hsize : g.locals.size = nL) (hstack : g.stack = As.reverse ++ rest) (hW : 2 * g.monitorRoom + (rest.map fun v => v.category).sum ≤ 8) (hdg : decode cc g.pc = .ok (.invokestatic index, 3)) (hf : cells + mc ≤ R.cells ∧ slots + ms ≤ R.slots) :
    vx_Run p l e R s m args below meth c H locs cells slots mc ms g rest (Qc As.toArray) XC free := by
  have hK : vx_Back l R p e below s args y 3 8 (PreOf R mc ms Pc) (PostOf Qc mc ms free) (vx_Post XC mc ms free) := vx_callBack cw.1 hM hp.1
  obtain ⟨⟨-, -, -, -, -, -, hcode, hini, hy, hlen, hl⟩, hstt⟩ := cw
  obtain ⟨hx, hb, hml, ho, -⟩ := S
  intro T hT X
  rcases vx_callS X hx (bytes := bytes) (maxL := maxL) (ret := ret) ho hl hstt hini hcode hy hK hg (hsize.trans hml.symm) (argsL := As) (rest := rest) (fun sig h => hn.trans (hlen sig h)) hstack hW (by rw [hb]; exact hdg)
    (fun vm₁ hW₁ => ⟨hf.1, hf.2, hp.2 (T.setVm vm₁) hT hW₁⟩) with ⟨v, vm₁, ⟨U', l2, c2, s2⟩, hW₁, X', ⟨g', mk, t, L, e1, e2, hq, h1, hL, h2, h3⟩, st⟩ | ⟨q, vm₁, ⟨U', l2, c2, s2⟩, hW₁, X', ⟨g', mk, t, L, E, ce, e1, e2, hq, hce, hcv, hcl, h1, hL, h2, h3⟩, st⟩
  · dsimp only [Pt.U, Pt.locs, Pt.cells, Pt.slots] at X' e1 e2 h1 h2 h3 st
    subst h1; subst h2; subst h3
    exact Or.inl ⟨v, (T.setVm vm₁).calling g' mk As.toArray, t, U', L, hT, X', hL, e1, e2, hq, st⟩
  · dsimp only [Pt.U, Pt.locs, Pt.cells, Pt.slots] at X' e1 e2 h1 h2 h3 st hcl
    subst h1; subst h2; subst h3
    exact Or.inr ⟨q, (T.setVm vm₁).calling g' mk As.toArray, t, U', L, E, ce, hT, X', hL, e1, e2, hq, hce, hcv, vx_cls hW₁ hcl, st⟩
end Runs
section Rows
variable {p : Program} {l : Launch} {e : Env} {R : Room} {s : State} {m : MethodId} {args : Array Value} {below : List Frame} {meth : Method} {c : Code} {H : Heap} {locs : List Loc} {cells slots : Nat} {Q : State → Prop}
variable {mc ms : Nat} {free : Addr → Prop} {A0 A1 : Nat → Prop} {H0 : Heap} {a : Array Value} {pc : Nat} {ls : Array Slot} {st0 rest : List Value}
theorem vx_keep {st₀ t T' : State} {L : List Loc} (h0 : st₀.heap = H) (e1 : T'.heap = t.heap) (hS : va_S A0 H0 H locs) (hA : ∀ q, q < H.size → A1 q → A0 q) (hf : ∀ q, free q → A0 q) (hL : ∀ q ∈ L, free q.base) (hF : va_F A1 st₀ t) :
    H.size ≤ T'.heap.size ∧ (∀ q : Nat, q < H.size → ¬ A1 q → T'.heap[q]? = H[q]?) ∧ va_S A0 H0 T'.heap (locs ++ L) := by
  obtain ⟨hz, hk⟩ := hF
  rw [h0] at hz hk
  exact ⟨by rw [e1]; exact hz, fun q h1 h2 => by rw [e1]; exact hk q h1 h2,
    ⟨Nat.le_trans hS.1 (by rw [e1]; exact hz), fun q h1 h2 => by rw [e1, hk q (Nat.lt_of_lt_of_le h1 hS.1) (fun z => h2 (hA q (Nat.lt_of_lt_of_le h1 hS.1) z))]; exact hS.2.1 q h1 h2, fun q hq => by
      rcases List.mem_append.mp hq with h | h
      · exact hS.2.2 q h
      · exact hf _ (hL q h)⟩⟩
theorem vx_calli {S SX : Type} {post : Int32 → S → Prop} {px : SX → Prop} {B : S → State → Prop} {BX : String → SX → State → Prop} {AX : Nat → Prop} (hr : vx_Run p l e R s m args below meth c H locs cells slots mc ms (F0 m pc ls st0) rest (va_Qi post B A1 a) (vx_X px BX AX) free) (hS : va_S A0 H0 H locs) (hA : ∀ q, q < H.size → A1 q → A0 q) (hf : ∀ q, free q → A0 q) (hAX : ∀ q, q < H.size → AX q → A0 q)
    (kx : ∀ (E : String) (ce : Cell) (q9 : Addr) (u : SX) (t : State) (H1 : Heap) (locs1 : List Loc), t.heap = H1 → s.vm.Alike t.vm → px u → BX E u t → H.size ≤ H1.size → (∀ q : Nat, q < H.size → ¬ AX q → H1[q]? = H[q]?) → va_S A0 H0 H1 locs1 → H1[q9]? = some ce → ce.vm = .none → s.vm.findClass E = some ce.cls → vx_W p l e R s m args below meth c H1 locs1 (cells + mc) (slots + ms) Q (F0 m pc ls rest) q9)
    (kk : ∀ (r : Int32) (u : S) (t : State) (H1 : Heap) (locs1 : List Loc), t.heap = H1 → s.vm.Alike t.vm → post r u → B u t → H.size ≤ H1.size → (∀ q : Nat, q < H.size → ¬ A1 q → H1[q]? = H[q]?) → va_S A0 H0 H1 locs1 → W p l e R s m args below meth c H1 locs1 (cells + mc) (slots + ms) Q (F0 m (pc + 3) ls (.int r :: rest))) : W p l e R s m args below meth c H locs cells slots Q (F0 m pc ls st0) := by
  intro T hT X
  rcases hr T hT X with ⟨v, st₀, t, T', L, h0, X', hL, e1, e2, ⟨⟨r, u, hv, hp, hb⟩, hF⟩, st⟩ | ⟨q, st₀, t, T', L, E, ce, h0, X', hL, e1, e2, ⟨u, hp, hb, hF⟩, hce, hcv, hcl, st⟩
  · cases hv
    obtain ⟨k1, k2, k3⟩ := vx_keep h0 e1 hS hA hf hL hF
    obtain ⟨t2, a1, b1⟩ := kk r u t T'.heap (locs ++ L) e1.symm (by rw [← e2]; exact X'.warmed.alike) hp hb k1 k2 k3 T' rfl X'
    exact ⟨t2, st t2 a1, b1⟩
  · obtain ⟨k1, k2, k3⟩ := vx_keep h0 e1 hS hAX hf hL hF
    obtain ⟨t2, a1, b1⟩ := kx E ce q u t T'.heap (locs ++ L) e1.symm (by rw [← e2]; exact X'.warmed.alike) hp hb k1 k2 k3 (by rw [e1]; exact hce) hcv hcl T' rfl X'
    exact ⟨t2, st.trans a1, b1⟩
theorem vx_calll {S SX : Type} {post : Int64 → S → Prop} {px : SX → Prop} {B : S → State → Prop} {BX : String → SX → State → Prop} {AX : Nat → Prop} (hr : vx_Run p l e R s m args below meth c H locs cells slots mc ms (F0 m pc ls st0) rest (va_Ql post B A1 a) (vx_X px BX AX) free) (hS : va_S A0 H0 H locs) (hA : ∀ q, q < H.size → A1 q → A0 q) (hf : ∀ q, free q → A0 q) (hAX : ∀ q, q < H.size → AX q → A0 q)
    (kx : ∀ (E : String) (ce : Cell) (q9 : Addr) (u : SX) (t : State) (H1 : Heap) (locs1 : List Loc), t.heap = H1 → s.vm.Alike t.vm → px u → BX E u t → H.size ≤ H1.size → (∀ q : Nat, q < H.size → ¬ AX q → H1[q]? = H[q]?) → va_S A0 H0 H1 locs1 → H1[q9]? = some ce → ce.vm = .none → s.vm.findClass E = some ce.cls → vx_W p l e R s m args below meth c H1 locs1 (cells + mc) (slots + ms) Q (F0 m pc ls rest) q9)
    (kk : ∀ (r : Int64) (u : S) (t : State) (H1 : Heap) (locs1 : List Loc), t.heap = H1 → s.vm.Alike t.vm → post r u → B u t → H.size ≤ H1.size → (∀ q : Nat, q < H.size → ¬ A1 q → H1[q]? = H[q]?) → va_S A0 H0 H1 locs1 → W p l e R s m args below meth c H1 locs1 (cells + mc) (slots + ms) Q (F0 m (pc + 3) ls (.long r :: rest))) : W p l e R s m args below meth c H locs cells slots Q (F0 m pc ls st0) := by
  intro T hT X
  rcases hr T hT X with ⟨v, st₀, t, T', L, h0, X', hL, e1, e2, ⟨⟨r, u, hv, hp, hb⟩, hF⟩, st⟩ | ⟨q, st₀, t, T', L, E, ce, h0, X', hL, e1, e2, ⟨u, hp, hb, hF⟩, hce, hcv, hcl, st⟩
  · cases hv
    obtain ⟨k1, k2, k3⟩ := vx_keep h0 e1 hS hA hf hL hF
    obtain ⟨t2, a1, b1⟩ := kk r u t T'.heap (locs ++ L) e1.symm (by rw [← e2]; exact X'.warmed.alike) hp hb k1 k2 k3 T' rfl X'
    exact ⟨t2, st t2 a1, b1⟩
  · obtain ⟨k1, k2, k3⟩ := vx_keep h0 e1 hS hAX hf hL hF
    obtain ⟨t2, a1, b1⟩ := kx E ce q u t T'.heap (locs ++ L) e1.symm (by rw [← e2]; exact X'.warmed.alike) hp hb k1 k2 k3 (by rw [e1]; exact hce) hcv hcl T' rfl X'
    exact ⟨t2, st.trans a1, b1⟩
theorem vx_callf {S SX : Type} {post : UInt32 → S → Prop} {px : SX → Prop} {B : S → State → Prop} {BX : String → SX → State → Prop} {AX : Nat → Prop} (hr : vx_Run p l e R s m args below meth c H locs cells slots mc ms (F0 m pc ls st0) rest (va_Qf post B A1 a) (vx_X px BX AX) free) (hS : va_S A0 H0 H locs) (hA : ∀ q, q < H.size → A1 q → A0 q) (hf : ∀ q, free q → A0 q) (hAX : ∀ q, q < H.size → AX q → A0 q)
    (kx : ∀ (E : String) (ce : Cell) (q9 : Addr) (u : SX) (t : State) (H1 : Heap) (locs1 : List Loc), t.heap = H1 → s.vm.Alike t.vm → px u → BX E u t → H.size ≤ H1.size → (∀ q : Nat, q < H.size → ¬ AX q → H1[q]? = H[q]?) → va_S A0 H0 H1 locs1 → H1[q9]? = some ce → ce.vm = .none → s.vm.findClass E = some ce.cls → vx_W p l e R s m args below meth c H1 locs1 (cells + mc) (slots + ms) Q (F0 m pc ls rest) q9)
    (kk : ∀ (r : UInt32) (u : S) (t : State) (H1 : Heap) (locs1 : List Loc), t.heap = H1 → s.vm.Alike t.vm → post r u → B u t → H.size ≤ H1.size → (∀ q : Nat, q < H.size → ¬ A1 q → H1[q]? = H[q]?) → va_S A0 H0 H1 locs1 → W p l e R s m args below meth c H1 locs1 (cells + mc) (slots + ms) Q (F0 m (pc + 3) ls (.float r :: rest))) : W p l e R s m args below meth c H locs cells slots Q (F0 m pc ls st0) := by
  intro T hT X
  rcases hr T hT X with ⟨v, st₀, t, T', L, h0, X', hL, e1, e2, ⟨⟨r, u, hv, hp, hb⟩, hF⟩, st⟩ | ⟨q, st₀, t, T', L, E, ce, h0, X', hL, e1, e2, ⟨u, hp, hb, hF⟩, hce, hcv, hcl, st⟩
  · cases hv
    obtain ⟨k1, k2, k3⟩ := vx_keep h0 e1 hS hA hf hL hF
    obtain ⟨t2, a1, b1⟩ := kk r u t T'.heap (locs ++ L) e1.symm (by rw [← e2]; exact X'.warmed.alike) hp hb k1 k2 k3 T' rfl X'
    exact ⟨t2, st t2 a1, b1⟩
  · obtain ⟨k1, k2, k3⟩ := vx_keep h0 e1 hS hAX hf hL hF
    obtain ⟨t2, a1, b1⟩ := kx E ce q u t T'.heap (locs ++ L) e1.symm (by rw [← e2]; exact X'.warmed.alike) hp hb k1 k2 k3 (by rw [e1]; exact hce) hcv hcl T' rfl X'
    exact ⟨t2, st.trans a1, b1⟩
theorem vx_calld {S SX : Type} {post : UInt64 → S → Prop} {px : SX → Prop} {B : S → State → Prop} {BX : String → SX → State → Prop} {AX : Nat → Prop} (hr : vx_Run p l e R s m args below meth c H locs cells slots mc ms (F0 m pc ls st0) rest (va_Qd post B A1 a) (vx_X px BX AX) free) (hS : va_S A0 H0 H locs) (hA : ∀ q, q < H.size → A1 q → A0 q) (hf : ∀ q, free q → A0 q) (hAX : ∀ q, q < H.size → AX q → A0 q)
    (kx : ∀ (E : String) (ce : Cell) (q9 : Addr) (u : SX) (t : State) (H1 : Heap) (locs1 : List Loc), t.heap = H1 → s.vm.Alike t.vm → px u → BX E u t → H.size ≤ H1.size → (∀ q : Nat, q < H.size → ¬ AX q → H1[q]? = H[q]?) → va_S A0 H0 H1 locs1 → H1[q9]? = some ce → ce.vm = .none → s.vm.findClass E = some ce.cls → vx_W p l e R s m args below meth c H1 locs1 (cells + mc) (slots + ms) Q (F0 m pc ls rest) q9)
    (kk : ∀ (r : UInt64) (u : S) (t : State) (H1 : Heap) (locs1 : List Loc), t.heap = H1 → s.vm.Alike t.vm → post r u → B u t → H.size ≤ H1.size → (∀ q : Nat, q < H.size → ¬ A1 q → H1[q]? = H[q]?) → va_S A0 H0 H1 locs1 → W p l e R s m args below meth c H1 locs1 (cells + mc) (slots + ms) Q (F0 m (pc + 3) ls (.double r :: rest))) : W p l e R s m args below meth c H locs cells slots Q (F0 m pc ls st0) := by
  intro T hT X
  rcases hr T hT X with ⟨v, st₀, t, T', L, h0, X', hL, e1, e2, ⟨⟨r, u, hv, hp, hb⟩, hF⟩, st⟩ | ⟨q, st₀, t, T', L, E, ce, h0, X', hL, e1, e2, ⟨u, hp, hb, hF⟩, hce, hcv, hcl, st⟩
  · cases hv
    obtain ⟨k1, k2, k3⟩ := vx_keep h0 e1 hS hA hf hL hF
    obtain ⟨t2, a1, b1⟩ := kk r u t T'.heap (locs ++ L) e1.symm (by rw [← e2]; exact X'.warmed.alike) hp hb k1 k2 k3 T' rfl X'
    exact ⟨t2, st t2 a1, b1⟩
  · obtain ⟨k1, k2, k3⟩ := vx_keep h0 e1 hS hAX hf hL hF
    obtain ⟨t2, a1, b1⟩ := kx E ce q u t T'.heap (locs ++ L) e1.symm (by rw [← e2]; exact X'.warmed.alike) hp hb k1 k2 k3 (by rw [e1]; exact hce) hcv hcl T' rfl X'
    exact ⟨t2, st.trans a1, b1⟩
theorem vx_callv {S SX : Type} {post : S → Prop} {px : SX → Prop} {B : S → State → Prop} {BX : String → SX → State → Prop} {AX : Nat → Prop} (hr : vx_Run p l e R s m args below meth c H locs cells slots mc ms (F0 m pc ls st0) rest (va_Qv post B A1 a) (vx_X px BX AX) free) (hS : va_S A0 H0 H locs) (hA : ∀ q, q < H.size → A1 q → A0 q) (hf : ∀ q, free q → A0 q) (hAX : ∀ q, q < H.size → AX q → A0 q)
    (kx : ∀ (E : String) (ce : Cell) (q9 : Addr) (u : SX) (t : State) (H1 : Heap) (locs1 : List Loc), t.heap = H1 → s.vm.Alike t.vm → px u → BX E u t → H.size ≤ H1.size → (∀ q : Nat, q < H.size → ¬ AX q → H1[q]? = H[q]?) → va_S A0 H0 H1 locs1 → H1[q9]? = some ce → ce.vm = .none → s.vm.findClass E = some ce.cls → vx_W p l e R s m args below meth c H1 locs1 (cells + mc) (slots + ms) Q (F0 m pc ls rest) q9)
    (kk : ∀ (u : S) (t : State) (H1 : Heap) (locs1 : List Loc), t.heap = H1 → s.vm.Alike t.vm → post u → B u t → H.size ≤ H1.size → (∀ q : Nat, q < H.size → ¬ A1 q → H1[q]? = H[q]?) → va_S A0 H0 H1 locs1 → W p l e R s m args below meth c H1 locs1 (cells + mc) (slots + ms) Q (F0 m (pc + 3) ls (rest))) : W p l e R s m args below meth c H locs cells slots Q (F0 m pc ls st0) := by
  intro T hT X
  rcases hr T hT X with ⟨v, st₀, t, T', L, h0, X', hL, e1, e2, ⟨⟨u, hv, hp, hb⟩, hF⟩, st⟩ | ⟨q, st₀, t, T', L, E, ce, h0, X', hL, e1, e2, ⟨u, hp, hb, hF⟩, hce, hcv, hcl, st⟩
  · cases hv
    obtain ⟨k1, k2, k3⟩ := vx_keep h0 e1 hS hA hf hL hF
    obtain ⟨t2, a1, b1⟩ := kk u t T'.heap (locs ++ L) e1.symm (by rw [← e2]; exact X'.warmed.alike) hp hb k1 k2 k3 T' rfl X'
    exact ⟨t2, st t2 a1, b1⟩
  · obtain ⟨k1, k2, k3⟩ := vx_keep h0 e1 hS hAX hf hL hF
    obtain ⟨t2, a1, b1⟩ := kx E ce q u t T'.heap (locs ++ L) e1.symm (by rw [← e2]; exact X'.warmed.alike) hp hb k1 k2 k3 (by rw [e1]; exact hce) hcv hcl T' rfl X'
    exact ⟨t2, st.trans a1, b1⟩
/-- caught by the row x of this method's table; the rows ahead don't take it -/
theorem vx_catch {own name : String} {E : String} {ce : Cell} {q : Addr} (hown : s.vm.findClass own = some m.cls) (pre : List ExceptionTableEntry) (x : ExceptionTableEntry) (suf : List ExceptionTableEntry) (hsplit : c.exceptionTable.toList = pre ++ x :: suf)
    (hpass : ∀ z ∈ pre, covers z pc = false ∨ (z.catchType ≠ 0 ∧ ∃ nm : String, (Cond.classLink own z.catchType nm).before args s = true ∧ va_Nc E nm s)) (hx : covers x pc = true) (h0 : x.catchType ≠ 0)
    (hlink : (Cond.classLink own x.catchType name).before args s = true) (hcast : (Cond.castable E name).before args s = true) (hcell : H[q]? = some ce) (hv : ce.vm = .none) (hcl : s.vm.findClass E = some ce.cls)
    (kk : W p l e R s m args below meth c H locs cells slots Q (F0 m x.handlerPc ls [.ref q])) : vx_W p l e R s m args below meth c H locs cells slots Q (F0 m pc ls rest) q := by
  intro T hT X
  have hpl : e.platform.magicAccessors = ({} : Platform).magicAccessors := by rw [X.admits.platform]
  obtain ⟨c3, c4, hc3, hc4, hasg⟩ := Cond.castable_spec hcast
  cases Option.some.inj (hc3.symm.trans hcl)
  obtain ⟨c5, hc5, hcl5⟩ := Cond.classLink_spec hown hlink e.platform hpl
  cases Option.some.inj (hc4.symm.trans hc5)
  obtain ⟨vm', X', st⟩ := X.thenCaughtThrough q (g := F0 m pc ls rest) rfl (Steps.refl _) (by rw [hT]; exact hcell) (by rw [hv]; rfl) (by obtain ⟨k9, h9, -⟩ := Vm.findClass_spec hcl; exact ⟨k9, h9⟩) pre x suf hsplit
    (fun z hz => by
      rcases hpass z hz with h | ⟨hz0, nm, hl1, hn1⟩
      · exact Or.inl h
      · obtain ⟨c6, hc6, hcl6⟩ := Cond.classLink_spec hown hl1 e.platform hpl
        obtain ⟨a8, b8, h1, h2, h3⟩ := hn1
        cases Option.some.inj (h1.symm.trans hcl)
        cases Option.some.inj (h2.symm.trans hc6)
        exact Or.inr ⟨hz0, _, hcl6, h3⟩) hx (Or.inr ⟨h0, c4, hcl5, hasg⟩)
  obtain ⟨t, a1, b1⟩ := kk (T.setVm vm') hT X'
  exact ⟨t, st.trans a1, b1⟩
end Rows
section Ends
variable {p : Program} {l : Launch} {e : Env} {R : Room} {s : State} {m : MethodId} {args : Array Value} {below : List Frame} {meth : Method} {c : Code} {H : Heap} {locs : List Loc} {cells slots : Nat} {Q : State → Prop}
variable {mc ms : Nat} {free : Addr → Prop} {A0 A1 : Nat → Prop} {H0 : Heap} {a : Array Value} {ls : Array Slot} {st0 rest : List Value}
variable {Qc : Array Value → State → Outcome → State → Prop} {XC : String → State → State → Prop}
/-- what a body that may throw owes at its end -/
def vx_MQ (below : List Frame) (Qc : Array Value → State → Outcome → State → Prop) (XC : String → State → State → Prop) (a : Array Value) (s : State) (mc ms : Nat) (free : Addr → Prop) : State → Prop := fun t =>
  ∃ o, t.status = .running ∧ Ended t below o ∧ vx_Q Qc XC mc ms free a s o t
theorem vx_ret {g : JFrame} {mc ms : Nat} (k : W p l e R s m args below meth c H locs cells slots (MQ below Qc args s mc ms free) g) : W p l e R s m args below meth c H locs cells slots (vx_MQ below Qc XC args s mc ms free) g := by
  intro T hT X
  obtain ⟨t, a1, o, b1, b2, b3, b4⟩ := k T hT X
  exact ⟨t, a1, o, b1, b2, Or.inl ⟨b3, b4⟩⟩
/-- not caught here: it goes on to the caller -/
theorem vx_widen {g : JFrame} {q : Addr} {k n : Nat} (h1 : cells ≤ k) (h2 : slots ≤ n) (kk : vx_W p l e R s m args below meth c H locs k n Q g q) : vx_W p l e R s m args below meth c H locs cells slots Q g q := fun T hT X => kk T hT (stand_widen X h1 h2)
theorem vx_out {pc : Nat} {E : String} {ce : Cell} {q : Addr} {mc ms : Nat} (hout : ∀ x ∈ c.exceptionTable.toList, covers x pc = false) (hlocks : meth.locks = false) (hcell : H[q]? = some ce) (hv : ce.vm = .none) (hcl : s.vm.findClass E = some ce.cls)
    (hx : ∀ t : State, t.heap = H → s.vm.Alike t.vm → XC E s t) (hf : ∀ z ∈ locs, free z.base) (hc : cells ≤ mc) (hs : slots ≤ ms) :
    vx_W p l e R s m args below meth c H locs cells slots (vx_MQ below Qc XC args s mc ms free) (F0 m pc ls rest) q := by
  intro T hT X
  obtain ⟨st1, hrun, hend, hW, hsm⟩ := X.leaveThrown q (g := F0 m pc ls rest) rfl rfl rfl hout hlocks
  have hcell9 : (T.setFrames (.throwing q :: below)).heap[q]? = some ce := by
    show T.heap[q]? = some ce
    rw [hT]; exact hcell
  exact ⟨_, st1, .threw q, hrun, hend, Or.inr ⟨q, rfl, E, ce, locs, hx _ hT hW.alike, hcell9, hv, hcl, hW, hsm.mono hc hs, hf⟩⟩
theorem vx_frame {U : State} {k n : Nat} (h : s.sameButNew ({ U with vm := s.vm } : State) locs k n) : s.heap.size ≤ U.heap.size ∧ ∀ q : Nat, q < s.heap.size → (∀ z ∈ locs, z.base ≠ q) → U.heap[q]? = s.heap[q]? := by
  obtain ⟨-, h2, -, -, -, h6⟩ := h
  refine ⟨h2, fun q hq hz => ?_⟩
  obtain ⟨c9, e1, e2, e3, e4⟩ := h6 q _ (Array.getElem?_eq_getElem hq)
  have hs : c9.slots = (s.heap[q]).slots := Array.ext_getElem? fun i => e4 i fun hm => hz _ hm rfl
  have h9 : c9 = s.heap[q] := by
    rw [hs] at e2
    exact e2
  have e5 : U.heap[q]? = some c9 := e1
  rw [e5, h9, Array.getElem?_eq_getElem hq]
/-- the words of a throw but the four that speak of the heap -/
def vx_no (w : Cond) : Bool := decide (w ≠ .isRef (.static Bundle.tN "UNASSIGNED_STACK" Bundle.steD)) && decide (w ≠ .isRef (.static Bundle.tN "SUPPRESSED_SENTINEL" Bundle.listD)) && decide (w ≠ .laysStatic Bundle.tN "UNASSIGNED_STACK" Bundle.steD) && decide (w ≠ .laysStatic Bundle.tN "SUPPRESSED_SENTINEL" Bundle.listD)
def vx_at0 (own : String) (ic : Nat) (X : String) (names : List String) : List Cond := (Bundle.ownAtoms0 own ic X names).filter vx_no
def vx_atS (own : String) (ic : Nat) (X : String) (names : List String) : List Cond := (Bundle.ownAtoms own ic X names).filter vx_no
/-- a word that the tables alone decide, or a good one -/
def vx_ot (w : Cond) : Bool := w.onTables || goodWord w
theorem vx_ot_at {args a' : Array Value} {s U : State} {w : Cond} (hW : s.WarmedH U.vm) (hvm : s.vm = U.vm) (hg : vx_ot w = true) (h : w.before args s = true) : w.before a' U = true := by
  simp only [vx_ot, Bool.or_eq_true] at hg
  rcases hg with hg | hg
  · exact va_tabs hg hvm h
  · exact word_at hW (good_of_word hg) h
/-- a list's words: the good ones out of the method's own list, the others by premises of their own -/
theorem vx_hat {args : Array Value} {s : State} {L B : List Cond} (h1 : ∀ w ∈ L.filter goodWord, w.before args s = true) (h2 : ∀ w ∈ L.filter (fun w => !goodWord w), w ∈ B) (h3 : ∀ w ∈ B, w.before args s = true) : ∀ w ∈ L, w.before args s = true := by
  intro w hw
  by_cases g : goodWord w = true
  · exact h1 w (List.mem_filter.mpr ⟨hw, g⟩)
  · refine h3 w (h2 w (List.mem_filter.mpr ⟨hw, ?_⟩))
    show (!goodWord w) = true
    cases hgw : goodWord w
    · rfl
    · exact absurd hgw g
theorem vx_c {args : Array Value} {s : State} {w : Cond} {B : List Cond} (h : w.before args s = true) (t : ∀ w ∈ B, w.before args s = true) : ∀ w' ∈ w :: B, w'.before args s = true := fun w' h' => (List.mem_cons.mp h').elim (fun e => by rw [e]; exact h) (t w')
theorem vx_n {args : Array Value} {s : State} : ∀ w ∈ ([] : List Cond), w.before args s = true := fun _ h => nomatch h
theorem vx_own {args : Array Value} {s : State} {L : List Cond} (h1 : ∀ w ∈ L.filter vx_no, w.before args s = true)
    (hU : (Cond.isRef (.static Bundle.tN "UNASSIGNED_STACK" Bundle.steD)).before args s = true) (hN : (Cond.isRef (.static Bundle.tN "SUPPRESSED_SENTINEL" Bundle.listD)).before args s = true)
    (lU : (Cond.laysStatic Bundle.tN "UNASSIGNED_STACK" Bundle.steD).before args s = true) (lN : (Cond.laysStatic Bundle.tN "SUPPRESSED_SENTINEL" Bundle.listD).before args s = true) : ∀ w ∈ L, w.before args s = true := by
  intro w hw
  by_cases e1 : w = .isRef (.static Bundle.tN "UNASSIGNED_STACK" Bundle.steD)
  · rw [e1]; exact hU
  · by_cases e2 : w = .isRef (.static Bundle.tN "SUPPRESSED_SENTINEL" Bundle.listD)
    · rw [e2]; exact hN
    · by_cases e3 : w = .laysStatic Bundle.tN "UNASSIGNED_STACK" Bundle.steD
      · rw [e3]; exact lU
      · by_cases e4 : w = .laysStatic Bundle.tN "SUPPRESSED_SENTINEL" Bundle.listD
        · rw [e4]; exact lN
        · exact h1 w (List.mem_filter.mpr ⟨hw, by unfold vx_no; rw [decide_eq_true e1, decide_eq_true e2, decide_eq_true e3, decide_eq_true e4]; rfl⟩)
/-- where a static field lies, its class's statics cell in H -/
def vx_L (C n d : String) (A : Nat → Prop) (U : State) (H : Heap) : Prop := ∃ (c : ClassId) (k : Class) (i : Nat) (f : Field) (a : Nat) (cell : Cell), U.vm.findClass C = some c ∧ U.fieldFound? C n d = some (c, k, i, f) ∧ f.isStatic = true ∧ k.statics = some a ∧ H[a]? = some cell ∧ cell.vm.isStatics = true ∧ cell.cls = c ∧ f.slot < cell.slots.size ∧ k.staticTypes[f.slot]? = some f.type ∧ ¬ A a
theorem vx_L.moved {C n d : String} {A : Nat → Prop} {u U : State} {H : Heap} (hvm : u.vm.Alike U.vm) (h : vx_L C n d A u H) : vx_L C n d A U H := by
  obtain ⟨c, k, i, f, a, cell, h1, h2, h3, h4, h5, h6, h7, h8, h9, h10⟩ := h
  obtain ⟨k', hi', he⟩ := State.fieldFound?_setVm hvm h2
  exact ⟨c, k', i, f, a, cell, by rw [hvm.findClass]; exact h1, hi', h3, by rw [he]; exact h4, h5, h6, h7, h8, by rw [he]; exact h9, h10⟩
theorem vx_L.kept {C n d : String} {A : Nat → Prop} {U : State} {H H1 : Heap} (h : vx_L C n d A U H) (hq : ∀ a : Nat, a < H.size → ¬ A a → H1[a]? = H[a]?) : vx_L C n d A U H1 := by
  obtain ⟨c, k, i, f, a, cell, h1, h2, h3, h4, h5, h6, h7, h8, h9, h10⟩ := h
  exact ⟨c, k, i, f, a, cell, h1, h2, h3, h4, by rw [hq a (Array.getElem?_eq_some_iff.mp h5).1 h10]; exact h5, h6, h7, h8, h9, h10⟩
theorem vx_L.narrow {C n d : String} {A B : Nat → Prop} {U : State} {H : Heap} (h : vx_L C n d A U H) (hAB : ∀ q, B q → A q) : vx_L C n d B U H := by
  obtain ⟨c, k, i, f, a, cell, h1, h2, h3, h4, h5, h6, h7, h8, h9, h10⟩ := h
  exact ⟨c, k, i, f, a, cell, h1, h2, h3, h4, h5, h6, h7, h8, h9, fun z => h10 (hAB _ z)⟩
theorem vx_L.word {C n d : String} {A : Nat → Prop} {s : State} {args : Array Value} (h : vx_L C n d A s s.heap) : (Cond.laysStatic C n d).before args s = true := by
  obtain ⟨c, k, i, f, a, cell, h1, h2, h3, h4, h5, h6, h7, h8, h9, -⟩ := h
  show (Cond.laysStatic C n d).holds args s none s [] = true
  exact Cond.laysStatic_of h1 h2 h3 h4 h5 h6 h7 h8 h9
/-- .. and what it holds: null or some reference -/
def vx_Zq (C n d : String) (A : Nat → Prop) (U : State) (H : Heap) : Prop := va_Zq C n d A U H ∧ vx_L C n d A U H
theorem vx_Zq.moved {C n d : String} {A : Nat → Prop} {u U : State} {H : Heap} (hvm : u.vm.Alike U.vm) (h : vx_Zq C n d A u H) : vx_Zq C n d A U H := ⟨va_Zq.moved hvm h.1, vx_L.moved hvm h.2⟩
theorem vx_Zq.kept {C n d : String} {A : Nat → Prop} {U : State} {H H1 : Heap} (h : vx_Zq C n d A U H) (hq : ∀ a : Nat, a < H.size → ¬ A a → H1[a]? = H[a]?) : vx_Zq C n d A U H1 := ⟨va_Zq.kept h.1 hq, vx_L.kept h.2 hq⟩
theorem vx_Zq.narrow {C n d : String} {A B : Nat → Prop} {U : State} {H : Heap} (h : vx_Zq C n d A U H) (hAB : ∀ q, B q → A q) : vx_Zq C n d B U H := ⟨va_Zq.narrow h.1 hAB, vx_L.narrow h.2 hAB⟩
theorem vx_Zqof {args : Array Value} {s : State} {C n d : String} {A : Nat → Prop} (hl : (Cond.laysStatic C n d).before args s = true) (hini : (Cond.initialized C).before args s = true) (h : (Cond.isRef (.static C n d)).before args s = true) (hA : ∀ a : Nat, a < s.heap.size → ¬ A a) : vx_Zq C n d A s s.heap := by
  refine ⟨va_Zqof hl hini h hA, ?_⟩
  obtain ⟨c, k, i, f, a, cell, h1, h2, h3, h4, h5, h6, h7, h8, h9⟩ := Cond.laysStatic_spec hl
  exact ⟨c, k, i, f, a, cell, h1, h2, h3, h4, h5, h6, h7, h8, h9, hA a (Array.getElem?_eq_some_iff.mp h5).1⟩
theorem vx_isRef {C n d : String} {v : Value} {A : Nat → Prop} {s : State} {args : Array Value} (h : va_Z C n d v A s s.heap) (hv : v.isRef = true) : (Cond.isRef (.static C n d)).before args s = true := by
  obtain ⟨cf, kf, fi, f, a, cell, h1, h2, h3, h4, h5, h6, h7, -⟩ := h
  have he : (Term.static C n d).eval args s none [] s = some v := by
    simp [Term.eval, State.fieldNamed?, h1, h2, h4, h5, h6, h7]
  simp only [Cond.before, Cond.holds, Cond.value, he]
  cases v <;> simp_all [Value.isRef]
theorem vx_isRefq {C n d : String} {A : Nat → Prop} {s : State} {args : Array Value} (h : va_Zq C n d A s s.heap) : (Cond.isRef (.static C n d)).before args s = true := by
  rcases h with h | ⟨t, h⟩
  · exact vx_isRef h rfl
  · exact vx_isRef h rfl
/-- the same frame, seen from here: as if the method were called anew in this heap -/
theorem vx_rebase {T : State} (X : Stand p l e R s m args below meth c T locs cells slots) {R' : Room} (hf : R'.frames ≤ R.frames) (hl : R'.locals ≤ R.locals) (hc : cells + R'.cells ≤ R.cells) (hs : slots + R'.slots ≤ R.slots) :
    Stand p l e R' ((T.setVm s.vm).setFrames (.invoking m args :: below)) m args below meth c T [] 0 0 := by
  have htop : (T.setVm s.vm).topJava?.isSome := X.here.top
  have hF : ((T.setVm s.vm).setFrames (.invoking m args :: below)).frames = .invoking m args :: below := State.frames_setFrames _ (State.cur_lt_of_top htop)
  obtain ⟨g₀, hg0⟩ := Option.isSome_iff_exists.mp htop
  obtain ⟨r, hr⟩ := State.topJava?_eq_some.mp hg0
  have hl9 : e.platform.stackLimits (T.setVm s.vm).me = e.platform.stackLimits s.me := X.limits
  have hb9 : (T.setVm s.vm).me.stackBytes = s.me.stackBytes := X.bytes
  refine ⟨X.admits, X.cas, X.clock, hF, ?_, X.hears, X.method, X.code, X.here, X.tail, X.warmed, ?_, ?_, ?_⟩
  · have h := X.room
    have hU : ((T.setVm s.vm).setFrames (.invoking m args :: below)).localsInUse = s.localsInUse := by
      rw [State.localsInUse_invoking hF (meth := meth) (c := c) X.method X.code, State.localsInUse_invoking X.frames X.method X.code]
    simp only [State.hasRoom, Bool.and_eq_true, decide_eq_true_eq] at h ⊢
    obtain ⟨⟨⟨⟨h1, h2, h3, h4, h5, h6⟩, h7⟩, h8⟩, h9⟩ := h
    rw [X.frames, List.length_cons] at h2 h3
    have q1 := X.heapSize
    have q2 := X.used
    simp only [hF, hU, List.length_cons, State.stackLimits_setFrames, State.stackBytes_setFrames, hl9, hb9]
    refine ⟨⟨⟨⟨by omega, by omega, by omega, by omega, by omega, h6⟩, ?_⟩, ?_⟩, X.book⟩
    · show T.heap.size + R'.cells ≤ e.platform.maxCells
      omega
    · show T.slotsUsed + R'.slots ≤ e.platform.maxSlots
      omega
  · rw [State.stackLimits_setFrames]; rfl
  · rw [State.stackBytes_setFrames]; rfl
  · refine ⟨?_, Nat.le_refl _, Nat.le_refl _, ?_, ?_, fun a c9 h9 => ⟨c9, h9, rfl, rfl, fun _ _ => rfl⟩⟩
    · obtain ⟨t, ht, -⟩ := State.frames_cons hr
      show T.setVm s.vm = { ((T.setVm s.vm).setFrames (.invoking m args :: below)).setFrames (T.setVm s.vm).frames with heap := T.heap, slotsUsed := T.slotsUsed }
      rw [State.setFrames_setFrames, State.setFrames_self ht]
      rfl
    · show T.slotsUsed = T.slotsUsed + ((T.heap.toList.drop T.heap.size).map (·.slots.size)).sum
      rw [List.drop_eq_nil_of_le (Nat.le_of_eq Array.length_toList)]
      rfl
    · show ((T.heap.toList.drop T.heap.size).map (·.slots.size)).sum ≤ 0
      rw [List.drop_eq_nil_of_le (Nat.le_of_eq Array.length_toList)]
      exact Nat.le_refl _
/-- 'throw new E()': new; dup; invokespecial; athrow -/
theorem vx_throw0 {cc : ByteArray} {pc : Nat} (hexec : p.tables.exec = Jvm.exec) (hb : c.code = cc) (hl : l.stackTraces = false) {own cls : String} {names : List String} {ik ic mc ms : Nat} {A : Nat → Prop}
    (hown : s.vm.findClass own = some m.cls) (hcls : Bundle.fit cls = true) (hnames : ∀ n ∈ names, Bundle.fit n = true)
    (hk : (Cond.classLink own ik cls).before args s = true) (hini : (Cond.initialized cls).before args s = true) (hat : ∀ w ∈ vx_at0 own ic cls names, w.before args s = true)
    (hgood : ∀ w ∈ Cond.classLink own ik cls :: Cond.initialized cls :: vx_at0 own ic cls names, vx_ot w = true)
    (hU : vx_Zq Bundle.tN "UNASSIGNED_STACK" Bundle.steD A s s.heap) (hN : vx_Zq Bundle.tN "SUPPRESSED_SENTINEL" Bundle.listD A s s.heap) (hS : va_S A s.heap H locs) (hsize : ls.size = c.maxLocals)
    (d0 : decode cc pc = .ok (.new ik, 3)) (d3 : decode cc (pc + 3) = .ok (.dup, 1)) (d4 : decode cc (pc + 4) = .ok (.invokespecial ic, 3)) (d7 : decode cc (pc + 7) = .ok (.athrow, 1))
    (hout : ∀ x ∈ c.exceptionTable.toList, covers x (pc + 7) = false)
    (hRframes : names.length + 3 < R.frames) (hRlocals : (rest.map fun v => v.category).sum + (13 * (names.length + 1) + 42) ≤ R.locals) (hRcells : cells + 1 ≤ R.cells) (hRslots : slots + 6 ≤ R.slots) (hlocks : meth.locks = false)
    (hx : ∀ t : State, s.vm.Alike t.vm → H.size ≤ t.heap.size → (∀ q : Nat, q < H.size → t.heap[q]? = H[q]?) → XC cls s t)
    (hf : ∀ z ∈ locs, free z.base) (hc : cells + 1 ≤ mc) (hs : slots + 6 ≤ ms) :
    W p l e R s m args below meth c H locs cells slots (vx_MQ below Qc XC args s mc ms free) (F0 m pc ls rest) := by
  intro T hT X
  have htr : e.platform.stackTraces = false := (show e.platform.stackTraces = l.stackTraces by rw [X.admits.platform]).trans hl
  have Y := vx_rebase X (R' := { frames := R.frames, locals := R.locals, cells := 1, slots := 6 }) (Nat.le_refl _) (Nat.le_refl _) hRcells hRslots
  obtain ⟨s', hA⟩ : ∃ z, z = (T.setVm s.vm).setFrames (.invoking m args :: below) := ⟨_, rfl⟩
  rw [← hA] at Y
  have hvm : s'.vm = s.vm := by rw [hA]; rfl
  have hhp : s'.heap = H := by rw [hA]; exact hT
  have hW0 : s.WarmedH s'.vm := by rw [hvm]; exact State.WarmedH.refl s
  have hat' : ∀ w ∈ vx_at0 own ic cls names, w.before args s' = true := fun w hw => vx_ot_at hW0 hvm.symm (hgood w (List.mem_cons_of_mem _ (List.mem_cons_of_mem _ hw))) (hat w hw)
  have hk' : (Cond.classLink own ik cls).before args s' = true := vx_ot_at hW0 hvm.symm (hgood _ List.mem_cons_self) hk
  have hini' : (Cond.initialized cls).before args s' = true := vx_ot_at hW0 hvm.symm (hgood _ (List.mem_cons_of_mem _ List.mem_cons_self)) hini
  have hU' : vx_Zq Bundle.tN "UNASSIGNED_STACK" Bundle.steD A s' s'.heap := by rw [hhp]; exact vx_Zq.moved hW0.alike (hU.kept hS.2.1)
  have hN' : vx_Zq Bundle.tN "SUPPRESSED_SENTINEL" Bundle.listD A s' s'.heap := by rw [hhp]; exact vx_Zq.moved hW0.alike (hN.kept hS.2.1)
  have h : ∀ w ∈ Bundle.ownAtoms0 own ic cls names, w.before args s' = true := vx_own hat' (vx_isRefq hU'.1) (vx_isRefq hN'.1) hU'.2.word hN'.2.word
  have hown' : s'.vm.findClass own = some m.cls := by rw [hvm]; exact hown
  have hins : (Cond.instantiable cls 6).before args s' = true := h _ (by simp [Bundle.ownAtoms0])
  obtain ⟨vm₁, cX, kX, hfX, hkX, -, -, X₁, st1⟩ := Y.newCold hexec (own := own) (C := cls) (index := ik) (n := 6) hown' hk' hins hini'
    (g := F0 m pc ls rest) rfl (by rw [hb]; exact d0) (Nat.le_refl _) (Nat.le_refl _)
  generalize hT1 : (T.setVm vm₁).pushCell { cls := cX, slots := kX.instanceTypes.map defaultValue, vm := .none } = T1 at X₁ st1
  have hcat : (Value.ref T.heap.size).category = 1 := rfl
  have hcellA : T1.heap[T.heap.size]? = some (freshCell cX kX) := by rw [← hT1]; exact State.heap_pushCell_size _ _
  have d3' : decode c.code (pc + 3) = .ok (.dup, 1) := by rw [hb]; exact d3
  obtain ⟨U, hsteps, hrun, hend, hW, hsame, ce, hce, hO⟩ := X₁.ctorThrow0 hexec htr (own := own) (cls := cls) (names := names) (ic := ic) hown' hcls hnames h (fun x hx => nomatch hx) hfX hkX hcellA (by rw [hhp, hT]; exact Nat.le_refl _)
    (g := { method := m, pc := pc + 4, locals := ls, stack := .ref T.heap.size :: .ref T.heap.size :: rest, locked := none }) rfl hsize rfl rfl (rest := rest) rfl
    (by rw [hb]; exact d4) (by rw [hb]; exact d7) hout hRframes (by simp only [List.map_cons, List.sum_cons, hcat]; omega) hlocks
  obtain ⟨f1, f2⟩ := vx_frame hsame
  rw [hhp] at f1 f2
  have hWs : s.WarmedH U.vm := State.WarmedH.trans hW0 hW
  have hcl : s.vm.findClass cls = some ce.cls := by
    have h9 := hO.cls
    rw [hvm] at h9
    exact h9
  have hall : s.sameButNew ({ U with vm := s.vm } : State) locs mc ms := by
    subst hA
    obtain ⟨e1, e2⟩ := hsame
    rw [State.setFrames_setFrames] at e1
    have h2 : (T.setVm s.vm).sameButNew ({ U with vm := s.vm } : State) [] (0 + 1) (0 + 6) := ⟨e1, e2⟩
    have h3 := X.same.trans h2
    rw [List.append_nil] at h3
    exact h3.mono hc hs
  refine ⟨U, ?_, .threw T.heap.size, hrun, hend, Or.inr ⟨T.heap.size, rfl, cls, ce, locs, hx U hWs.alike f1 (fun q hq => f2 q hq (fun z hz => nomatch hz)), hce, hO.vm, hcl, hWs, hall, hf⟩⟩
  refine st1 _ ?_
  show Steps p.tables e below (T1.setTop { method := m, pc := pc + 3, locals := ls, stack := .ref T.heap.size :: rest, locked := none }) _
  jvm_step X₁.here [X₁.here.top, hexec, d3', Value.category]
  exact hsteps
/-- 'throw new E("text")': new; dup; ldc; invokespecial; athrow -/
theorem vx_throwS {cc : ByteArray} {pc : Nat} (hexec : p.tables.exec = Jvm.exec) (hb : c.code = cc) (hl : l.stackTraces = false) {own cls text : String} {names : List String} {ik is ic mc ms sa : Nat} {A : Nat → Prop}
    (hown : s.vm.findClass own = some m.cls) (hcls : Bundle.fit cls = true) (hnames : ∀ n ∈ names, Bundle.fit n = true)
    (hk : (Cond.classLink own ik cls).before args s = true) (hini : (Cond.initialized cls).before args s = true) (hstr : vk_R own is text sa s) (hat : ∀ w ∈ vx_atS own ic cls names, w.before args s = true)
    (hgood : ∀ w ∈ Cond.classLink own ik cls :: Cond.initialized cls :: vx_atS own ic cls names, vx_ot w = true)
    (hU : vx_Zq Bundle.tN "UNASSIGNED_STACK" Bundle.steD A s s.heap) (hN : vx_Zq Bundle.tN "SUPPRESSED_SENTINEL" Bundle.listD A s s.heap) (hS : va_S A s.heap H locs) (hsize : ls.size = c.maxLocals)
    (d0 : decode cc pc = .ok (.new ik, 3)) (d3 : decode cc (pc + 3) = .ok (.dup, 1)) (d4 : decode cc (pc + 4) = .ok (.ldc is, 2)) (d6 : decode cc (pc + 6) = .ok (.invokespecial ic, 3)) (d9 : decode cc (pc + 9) = .ok (.athrow, 1))
    (hout : ∀ x ∈ c.exceptionTable.toList, covers x (pc + 9) = false)
    (hRframes : names.length + 3 < R.frames) (hRlocals : (rest.map fun v => v.category).sum + (13 * (names.length + 1) + 43) ≤ R.locals) (hRcells : cells + 1 ≤ R.cells) (hRslots : slots + 6 ≤ R.slots) (hlocks : meth.locks = false)
    (hx : ∀ t : State, s.vm.Alike t.vm → H.size ≤ t.heap.size → (∀ q : Nat, q < H.size → t.heap[q]? = H[q]?) → XC cls s t)
    (hf : ∀ z ∈ locs, free z.base) (hc : cells + 1 ≤ mc) (hs : slots + 6 ≤ ms) :
    W p l e R s m args below meth c H locs cells slots (vx_MQ below Qc XC args s mc ms free) (F0 m pc ls rest) := by
  intro T hT X
  have htr : e.platform.stackTraces = false := (show e.platform.stackTraces = l.stackTraces by rw [X.admits.platform]).trans hl
  have Y := vx_rebase X (R' := { frames := R.frames, locals := R.locals, cells := 1, slots := 6 }) (Nat.le_refl _) (Nat.le_refl _) hRcells hRslots
  obtain ⟨s', hA⟩ : ∃ z, z = (T.setVm s.vm).setFrames (.invoking m args :: below) := ⟨_, rfl⟩
  rw [← hA] at Y
  have hvm : s'.vm = s.vm := by rw [hA]; rfl
  have hhp : s'.heap = H := by rw [hA]; exact hT
  have hW0 : s.WarmedH s'.vm := by rw [hvm]; exact State.WarmedH.refl s
  have hat' : ∀ w ∈ vx_atS own ic cls names, w.before args s' = true := fun w hw => vx_ot_at hW0 hvm.symm (hgood w (List.mem_cons_of_mem _ (List.mem_cons_of_mem _ hw))) (hat w hw)
  have hk' : (Cond.classLink own ik cls).before args s' = true := vx_ot_at hW0 hvm.symm (hgood _ List.mem_cons_self) hk
  have hini' : (Cond.initialized cls).before args s' = true := vx_ot_at hW0 hvm.symm (hgood _ (List.mem_cons_of_mem _ List.mem_cons_self)) hini
  have hU' : vx_Zq Bundle.tN "UNASSIGNED_STACK" Bundle.steD A s' s'.heap := by rw [hhp]; exact vx_Zq.moved hW0.alike (hU.kept hS.2.1)
  have hN' : vx_Zq Bundle.tN "SUPPRESSED_SENTINEL" Bundle.listD A s' s'.heap := by rw [hhp]; exact vx_Zq.moved hW0.alike (hN.kept hS.2.1)
  have h : ∀ w ∈ Bundle.ownAtoms own ic cls names, w.before args s' = true := vx_own hat' (vx_isRefq hU'.1) (vx_isRefq hN'.1) hU'.2.word hN'.2.word
  have hown' : s'.vm.findClass own = some m.cls := by rw [hvm]; exact hown
  have hins : (Cond.instantiable cls 6).before args s' = true := h _ (by simp [Bundle.ownAtoms])
  obtain ⟨vm₁, cX, kX, hfX, hkX, -, -, X₁, st1⟩ := Y.newCold hexec (own := own) (C := cls) (index := ik) (n := 6) hown' hk' hins hini'
    (g := F0 m pc ls rest) rfl (by rw [hb]; exact d0) (Nat.le_refl _) (Nat.le_refl _)
  generalize hT1 : (T.setVm vm₁).pushCell { cls := cX, slots := kX.instanceTypes.map defaultValue, vm := .none } = T1 at X₁ st1
  have hcat : (Value.ref T.heap.size).category = 1 := rfl
  have hcellA : T1.heap[T.heap.size]? = some (freshCell cX kX) := by rw [← hT1]; exact State.heap_pushCell_size _ _
  have d3' : decode c.code (pc + 3) = .ok (.dup, 1) := by rw [hb]; exact d3
  have d4' : decode c.code (pc + 4) = .ok (.ldc is, 2) := by rw [hb]; exact d4
  have hstr' : vk_R own is text sa s' := vk_R.warm hW0 hstr
  obtain ⟨U, hsteps, hrun, hend, hW, hsame, ce, hce, hO⟩ := X₁.ctorThrowS hexec htr (own := own) (cls := cls) (names := names) (ic := ic) hown' hcls hnames h (fun x hx => nomatch hx) hfX hkX hcellA (by rw [hhp, hT]; exact Nat.le_refl _) (msg := .ref sa) rfl
    (g := { method := m, pc := pc + 6, locals := ls, stack := .ref sa :: .ref T.heap.size :: .ref T.heap.size :: rest, locked := none }) rfl hsize rfl rfl (rest := rest) rfl
    (by rw [hb]; exact d6) (by rw [hb]; exact d9) hout hRframes (by simp only [List.map_cons, List.sum_cons, hcat]; omega) hlocks
  obtain ⟨f1, f2⟩ := vx_frame hsame
  rw [hhp] at f1 f2
  have hWs : s.WarmedH U.vm := State.WarmedH.trans hW0 hW
  have hcl : s.vm.findClass cls = some ce.cls := by
    have h9 := hO.cls
    rw [hvm] at h9
    exact h9
  have hall : s.sameButNew ({ U with vm := s.vm } : State) locs mc ms := by
    subst hA
    obtain ⟨e1, e2⟩ := hsame
    rw [State.setFrames_setFrames] at e1
    have h2 : (T.setVm s.vm).sameButNew ({ U with vm := s.vm } : State) [] (0 + 1) (0 + 6) := ⟨e1, e2⟩
    have h3 := X.same.trans h2
    rw [List.append_nil] at h3
    exact h3.mono hc hs
  refine ⟨U, ?_, .threw T.heap.size, hrun, hend, Or.inr ⟨T.heap.size, rfl, cls, ce, locs, hx U hWs.alike f1 (fun q hq => f2 q hq (fun z hz => nomatch hz)), hce, hO.vm, hcl, hWs, hall, hf⟩⟩
  refine st1 _ ?_
  show Steps p.tables e below (T1.setTop { method := m, pc := pc + 3, locals := ls, stack := .ref T.heap.size :: rest, locked := none }) _
  jvm_step X₁.here [X₁.here.top, hexec, d3', Value.category]
  exact X₁.ldcString hexec (own := own) (text := text) (index := is) (a := sa) hown' hstr'.1 hstr'.2
    (g := { method := m, pc := pc + 4, locals := ls, stack := .ref T.heap.size :: .ref T.heap.size :: rest, locked := none }) rfl d4' _ hsteps
/-- 'throw new E("text")', the text by a wide index -/
theorem vx_throwSW {cc : ByteArray} {pc : Nat} (hexec : p.tables.exec = Jvm.exec) (hb : c.code = cc) (hl : l.stackTraces = false) {own cls text : String} {names : List String} {ik is ic mc ms sa : Nat} {A : Nat → Prop}
    (hown : s.vm.findClass own = some m.cls) (hcls : Bundle.fit cls = true) (hnames : ∀ n ∈ names, Bundle.fit n = true)
    (hk : (Cond.classLink own ik cls).before args s = true) (hini : (Cond.initialized cls).before args s = true) (hstr : vk_R own is text sa s) (hat : ∀ w ∈ vx_atS own ic cls names, w.before args s = true)
    (hgood : ∀ w ∈ Cond.classLink own ik cls :: Cond.initialized cls :: vx_atS own ic cls names, vx_ot w = true)
    (hU : vx_Zq Bundle.tN "UNASSIGNED_STACK" Bundle.steD A s s.heap) (hN : vx_Zq Bundle.tN "SUPPRESSED_SENTINEL" Bundle.listD A s s.heap) (hS : va_S A s.heap H locs) (hsize : ls.size = c.maxLocals)
    (d0 : decode cc pc = .ok (.new ik, 3)) (d3 : decode cc (pc + 3) = .ok (.dup, 1)) (d4 : decode cc (pc + 4) = .ok (.ldc_w is, 3)) (d7 : decode cc (pc + 7) = .ok (.invokespecial ic, 3)) (d10 : decode cc (pc + 10) = .ok (.athrow, 1))
    (hout : ∀ x ∈ c.exceptionTable.toList, covers x (pc + 10) = false)
    (hRframes : names.length + 3 < R.frames) (hRlocals : (rest.map fun v => v.category).sum + (13 * (names.length + 1) + 43) ≤ R.locals) (hRcells : cells + 1 ≤ R.cells) (hRslots : slots + 6 ≤ R.slots) (hlocks : meth.locks = false)
    (hx : ∀ t : State, s.vm.Alike t.vm → H.size ≤ t.heap.size → (∀ q : Nat, q < H.size → t.heap[q]? = H[q]?) → XC cls s t)
    (hf : ∀ z ∈ locs, free z.base) (hc : cells + 1 ≤ mc) (hs : slots + 6 ≤ ms) :
    W p l e R s m args below meth c H locs cells slots (vx_MQ below Qc XC args s mc ms free) (F0 m pc ls rest) := by
  intro T hT X
  have htr : e.platform.stackTraces = false := (show e.platform.stackTraces = l.stackTraces by rw [X.admits.platform]).trans hl
  have Y := vx_rebase X (R' := { frames := R.frames, locals := R.locals, cells := 1, slots := 6 }) (Nat.le_refl _) (Nat.le_refl _) hRcells hRslots
  obtain ⟨s', hA⟩ : ∃ z, z = (T.setVm s.vm).setFrames (.invoking m args :: below) := ⟨_, rfl⟩
  rw [← hA] at Y
  have hvm : s'.vm = s.vm := by rw [hA]; rfl
  have hhp : s'.heap = H := by rw [hA]; exact hT
  have hW0 : s.WarmedH s'.vm := by rw [hvm]; exact State.WarmedH.refl s
  have hat' : ∀ w ∈ vx_atS own ic cls names, w.before args s' = true := fun w hw => vx_ot_at hW0 hvm.symm (hgood w (List.mem_cons_of_mem _ (List.mem_cons_of_mem _ hw))) (hat w hw)
  have hk' : (Cond.classLink own ik cls).before args s' = true := vx_ot_at hW0 hvm.symm (hgood _ List.mem_cons_self) hk
  have hini' : (Cond.initialized cls).before args s' = true := vx_ot_at hW0 hvm.symm (hgood _ (List.mem_cons_of_mem _ List.mem_cons_self)) hini
  have hU' : vx_Zq Bundle.tN "UNASSIGNED_STACK" Bundle.steD A s' s'.heap := by rw [hhp]; exact vx_Zq.moved hW0.alike (hU.kept hS.2.1)
  have hN' : vx_Zq Bundle.tN "SUPPRESSED_SENTINEL" Bundle.listD A s' s'.heap := by rw [hhp]; exact vx_Zq.moved hW0.alike (hN.kept hS.2.1)
  have h : ∀ w ∈ Bundle.ownAtoms own ic cls names, w.before args s' = true := vx_own hat' (vx_isRefq hU'.1) (vx_isRefq hN'.1) hU'.2.word hN'.2.word
  have hown' : s'.vm.findClass own = some m.cls := by rw [hvm]; exact hown
  have hins : (Cond.instantiable cls 6).before args s' = true := h _ (by simp [Bundle.ownAtoms])
  obtain ⟨vm₁, cX, kX, hfX, hkX, -, -, X₁, st1⟩ := Y.newCold hexec (own := own) (C := cls) (index := ik) (n := 6) hown' hk' hins hini'
    (g := F0 m pc ls rest) rfl (by rw [hb]; exact d0) (Nat.le_refl _) (Nat.le_refl _)
  generalize hT1 : (T.setVm vm₁).pushCell { cls := cX, slots := kX.instanceTypes.map defaultValue, vm := .none } = T1 at X₁ st1
  have hcat : (Value.ref T.heap.size).category = 1 := rfl
  have hcellA : T1.heap[T.heap.size]? = some (freshCell cX kX) := by rw [← hT1]; exact State.heap_pushCell_size _ _
  have d3' : decode c.code (pc + 3) = .ok (.dup, 1) := by rw [hb]; exact d3
  have d4' : decode c.code (pc + 4) = .ok (.ldc_w is, 3) := by rw [hb]; exact d4
  have hstr' : vk_R own is text sa s' := vk_R.warm hW0 hstr
  obtain ⟨U, hsteps, hrun, hend, hW, hsame, ce, hce, hO⟩ := X₁.ctorThrowS hexec htr (own := own) (cls := cls) (names := names) (ic := ic) hown' hcls hnames h (fun x hx => nomatch hx) hfX hkX hcellA (by rw [hhp, hT]; exact Nat.le_refl _) (msg := .ref sa) rfl
    (g := { method := m, pc := pc + 7, locals := ls, stack := .ref sa :: .ref T.heap.size :: .ref T.heap.size :: rest, locked := none }) rfl hsize rfl rfl (rest := rest) rfl
    (by rw [hb]; exact d7) (by rw [hb]; exact d10) hout hRframes (by simp only [List.map_cons, List.sum_cons, hcat]; omega) hlocks
  obtain ⟨f1, f2⟩ := vx_frame hsame
  rw [hhp] at f1 f2
  have hWs : s.WarmedH U.vm := State.WarmedH.trans hW0 hW
  have hcl : s.vm.findClass cls = some ce.cls := by
    have h9 := hO.cls
    rw [hvm] at h9
    exact h9
  have hall : s.sameButNew ({ U with vm := s.vm } : State) locs mc ms := by
    subst hA
    obtain ⟨e1, e2⟩ := hsame
    rw [State.setFrames_setFrames] at e1
    have h2 : (T.setVm s.vm).sameButNew ({ U with vm := s.vm } : State) [] (0 + 1) (0 + 6) := ⟨e1, e2⟩
    have h3 := X.same.trans h2
    rw [List.append_nil] at h3
    exact h3.mono hc hs
  refine ⟨U, ?_, .threw T.heap.size, hrun, hend, Or.inr ⟨T.heap.size, rfl, cls, ce, locs, hx U hWs.alike f1 (fun q hq => f2 q hq (fun z hz => nomatch hz)), hce, hO.vm, hcl, hWs, hall, hf⟩⟩
  refine st1 _ ?_
  show Steps p.tables e below (T1.setTop { method := m, pc := pc + 3, locals := ls, stack := .ref T.heap.size :: rest, locked := none }) _
  jvm_step X₁.here [X₁.here.top, hexec, d3', Value.category]
  exact X₁.ldcStringW hexec (own := own) (text := text) (index := is) (a := sa) hown' hstr'.1 hstr'.2
    (g := { method := m, pc := pc + 4, locals := ls, stack := .ref T.heap.size :: .ref T.heap.size :: rest, locked := none }) rfl d4' _ hsteps
end Ends
section Bodies
variable {l : Launch}
theorem vx_ofW {y : MethodName} {ws ws' : List Cond} {rm : Room} {Pc : Array Value → State → Prop} {Qc : Array Value → State → Outcome → State → Prop} {XC : String → State → State → Prop} {mc ms : Nat} {free : Addr → Prop} {cc : ByteArray} {maxL : Nat} {ret : Option FieldType}
    (hy : plainName y.cls = true) (hw : ws = Cond.code y cc maxL ret :: ws')
    (body : ∀ p e s m args below meth c s₁, BodyLoose p l y (headSpec ws rm) cc maxL ret e s m args below meth c s₁ → c.maxLocals = maxL → (∀ x ∈ c.exceptionTable.toList, False) → Pc args s →
      W p l e (headSpec ws rm).room s m args below meth c s.heap [] 0 0 (vx_MQ below Qc XC args s mc ms free) (entryFrame m args maxL)) : vx_Met l y ws rm Pc Qc XC mc ms free := by
  refine MetFree.of_bodyS (code := cc) (maxLocals := maxL) (ret := ret) hy ?_ ?_
  · intro args s m h hn
    obtain ⟨meth, c, h1, h2, h3, h4, h5, h6, -, -⟩ := Cond.code_spec hn (atoms_spec (ws := ws) h _ (by rw [hw]; exact List.mem_cons_self))
    exact ⟨meth, c, h1, h2, h3, h4, h5, h6⟩
  · intro p e s m args below meth c s₁ B hml hP _
    have hh0 : s₁.heap = s.heap := by rw [B.state]; rfl
    have ht : ∀ x ∈ c.exceptionTable.toList, False := by
      obtain ⟨meth9, c9, h1, h2, -, -, -, -, h7, -⟩ := Cond.code_spec B.named (atoms_spec (ws := ws) B.pre _ (by rw [hw]; exact List.mem_cons_self))
      cases Option.some.inj (h1.symm.trans B.method)
      cases Option.some.inj (h2.symm.trans (Stand.of_body B).code)
      intro x hx
      rw [Array.isEmpty_iff.mp h7] at hx
      cases hx
    obtain ⟨t, a1, o, b1, b2, b3⟩ := body p e s m args below meth c s₁ B hml ht hP s₁ hh0 (Stand.of_body B)
    exact ⟨t, o, a1, b1, b2, b3⟩
/-- the table of a body with handlers -/
theorem vx_table {p : Program} {x y : MethodName} {S : Spec} {cc bytes : ByteArray} {maxL maxL' : Nat} {ret ret' : Option FieldType} {e : Env} {s s₁ : State} {m : MethodId} {args : Array Value} {below : List Frame} {meth : Method} {c : Code} {hh : List (Nat × Nat × Nat × Nat)}
    (B : BodyLoose p l y S cc maxL ret e s m args below meth c s₁) (h : (Cond.codeWith y bytes maxL' ret' hh).before args s = true) : c.exceptionTable.toList = tableOf hh := by
  obtain ⟨m9, meth9, c9, hn9, h1, h2, -, -, h6, -⟩ := Cond.codeWith_spec h
  cases Option.some.inj (hn9.symm.trans B.named)
  cases Option.some.inj (h1.symm.trans B.method)
  cases Option.some.inj (h2.symm.trans (Stand.of_body B).code)
  rw [← h6, table_eq]
end Bodies
end VXA
/-! ===== END ===== -/
/-! ===== BEGIN a static call of a method with an exception table ===== -/
section VXS
variable {p : Program} {l : Launch} {e : Env} {R : Room} {s : State} {m : MethodId} {args : Array Value} {below : List Frame} {meth : Method} {c : Code} {T : State} {H : Heap} {locs : List Loc} {cells slots : Nat}
abbrev vx_CSW (R : Room) (s : State) (args : Array Value) (own : String) (index : Nat) (y : MethodName) (bytes : ByteArray) (maxL : Nat) (ret : Option FieldType) (hh : List (Nat × Nat × Nat × Nat)) (ws : List Cond) (rm : Room) (mc ms n : Nat) : Prop :=
  (rm.cells = mc ∧ rm.slots = ms ∧ rm.frames + 1 ≤ R.frames ∧ 8 + (maxL + 11) + rm.locals ≤ R.locals ∧ (∀ w ∈ ws, ∀ (a' : Array Value) (U : State), s.WarmedH U.vm → w.before a' U = true) ∧ Cond.codeWith y bytes maxL ret hh ∈ ws) ∧
  (Cond.codeWith y bytes maxL ret hh).before args s = true ∧ (Cond.initialized y.cls).before args s = true ∧ (y.cls ≠ "java/lang/invoke/MethodHandle" ∧ y.cls ≠ "java/lang/invoke/VarHandle") ∧
  (∀ sig, parseMethodDescriptor y.desc = some sig → n = sig.parameters.length) ∧ (Cond.methodLink own index y).before args s = true ∧ (Cond.static y).before args s = true
theorem vx_cwSW {own : String} {index maxL mc ms : Nat} {y : MethodName} {bytes : ByteArray} {ret : Option FieldType} {hh : List (Nat × Nat × Nat × Nat)} {Ts ws ws' : List Cond} {rm : Room} (n : Nat) (ht : ∀ w ∈ Ts, w.before args s = true) (hT : GoodIn Ts (va_wsS own index y ws)) (hw : ws = Cond.codeWith y bytes maxL ret hh :: ws') (hrc : rm.cells = mc) (hrs : rm.slots = ms)
    (hd : y.cls ≠ "java/lang/invoke/MethodHandle" ∧ y.cls ≠ "java/lang/invoke/VarHandle" ∧ (parseMethodDescriptor y.desc).map (fun d => d.parameters.length) = some n) (hR : rm.frames + 1 ≤ R.frames ∧ 8 + (maxL + 11) + rm.locals ≤ R.locals) :
    vx_CSW R s args own index y bytes maxL ret hh ws rm mc ms n := by
  have ok : ∀ w ∈ va_wsS own index y ws, w.before args s = true := fun w h => ht w (hT w h).1
  have hG : GoodIn Ts ws := fun w h => hT w (by unfold va_wsS; exact List.mem_append_right _ h)
  have hc : Cond.codeWith y bytes maxL ret hh ∈ ws := by rw [hw]; exact List.mem_cons_self
  refine ⟨⟨hrc, hrs, hR.1, hR.2, pay_in ht hG, hc⟩, ht _ (hG _ hc).1, ok _ (by simp [va_wsS]), ⟨hd.1, hd.2.1⟩, fun sig h => ?_, ok _ (by simp [va_wsS]), ok _ (by simp [va_wsS])⟩
  have h2 := hd.2.2
  rw [h] at h2
  exact (Option.some.inj h2).symm
theorem vx_callSW (X : Stand p l e R s m args below meth c T locs cells slots) (hexec : p.tables.exec = Jvm.exec) {own : String} {index : Nat} {y : MethodName} {bytes : ByteArray} {maxL : Nat} {ret : Option FieldType} {hh : List (Nat × Nat × Nat × Nat)}
    (hown : s.vm.findClass own = some m.cls) (hlink : (Cond.methodLink own index y).before args s = true) (hstat : (Cond.static y).before args s = true) (hinit : (Cond.initialized y.cls).before args s = true)
    (hcode : (Cond.codeWith y bytes maxL ret hh).before args s = true) (hy : y.cls ≠ "java/lang/invoke/MethodHandle" ∧ y.cls ≠ "java/lang/invoke/VarHandle")
    {W9 : Nat} {Pre : Pt → Array Value → Prop} {Post : Pt → Array Value → Option Value → Pt → Prop} (hK : Back l R p e below s args y 3 W9 Pre Post)
    {g : JFrame} (hg : g.method = m) (hsize : g.locals.size = c.maxLocals) {argsL rest : List Value} (hlen : ∀ sig, parseMethodDescriptor y.desc = some sig → argsL.length = sig.parameters.length)
    (hstack : g.stack = argsL.reverse ++ rest) (hW : 2 * g.monitorRoom + (rest.map fun v => v.category).sum ≤ W9) (hdg : decode c.code g.pc = .ok (.invokestatic index, 3))
    (hpre : ∀ vm₁, s.WarmedH vm₁ → Pre ⟨T.setVm vm₁, locs, cells, slots⟩ argsL.toArray) :
    ∃ (v : Option Value) (vm₁ : Vm) (B : Pt), s.WarmedH vm₁ ∧ Stand p l e R s m args below meth c B.U B.locs B.cells B.slots ∧ Post ⟨T.setVm vm₁, locs, cells, slots⟩ argsL.toArray v B ∧
      ∀ target, Steps p.tables e below (B.U.setTop { g with pc := g.pc + 3, stack := v.toList ++ rest }) target → Steps p.tables e below (T.setTop g) target := by
  obtain ⟨mk, methM, cM, hnamed, hmethM, -, -, -, -, -, -, hsigM⟩ := Cond.codeWith_spec hcode
  have hstatic : methM.isStatic = true := Cond.static_spec hnamed hmethM hstat
  obtain ⟨kP, hkP, -⟩ := className_of_methodNamed hnamed
  have hinitP : kP.init = .initialized := Cond.initialized_spec (findClass_of_methodNamed hnamed) hkP hinit
  obtain ⟨vm₁, X₁, hstep₁⟩ := X.invokestatic hexec hown hlink hnamed hmethM hstatic hkP hinitP hy (g := g) hg (argsL := argsL) (rest := rest) (hlen _ hsigM) hstack hdg
  obtain ⟨v, B, X', hpost, hsteps⟩ := hK m meth c ⟨T.setVm vm₁, locs, cells, slots⟩ { g with stack := rest } (.invokestatic index) mk argsL.toArray X₁ hg hsize hdg hW (X₁.named hnamed) (hpre vm₁ X₁.warmed)
  exact ⟨v, vm₁, B, X₁.warmed, X', hpost, fun target h => hstep₁ _ fun acts => by rw [doInvoke_state]; exact hsteps.trans h⟩
theorem vx_runSW {y : MethodName} {bytes cc : ByteArray} {maxL nL mc ms n index : Nat} {ret : Option FieldType} {hh : List (Nat × Nat × Nat × Nat)} {ws : List Cond} {rm : Room} {Pc : Array Value → State → Prop} {Qc : Array Value → State → Outcome → State → Prop} {free : Addr → Prop} {Ts : List Cond} {own : String} {As rest : List Value} {g : JFrame}
    (S : CallFix p m c cc nL s args Ts own) (hM : Met l y ws rm Pc Qc mc ms free) (cw : vx_CSW R s args own index y bytes maxL ret hh ws rm mc ms n) (hp : PreS s H Pc As)
    (hg : g.method = m) (hn : As.length = n) (hsize : g.locals.size = nL) (hstack : g.stack = As.reverse ++ rest) (hW : 2 * g.monitorRoom + (rest.map fun v => v.category).sum ≤ 8) (hdg : decode cc g.pc = .ok (.invokestatic index, 3)) (hf : cells + mc ≤ R.cells ∧ slots + ms ≤ R.slots) :
    va_Run p l e R s m args below meth c H locs cells slots mc ms g rest (Qc As.toArray) (free) := by
  obtain ⟨⟨hrc, hrs, hfr, hlo, hws, hcw⟩, hcode, hini, hy, hlen, hl, hstt⟩ := cw
  have hK : Back l R p e below s args y 3 8 (PreOf R mc ms Pc) (PostOf Qc mc ms free) := va_backW (hh := hh) (bytes := bytes) (maxL := maxL) (ret := ret) hM hp.1 hrc hrs hfr hlo hws hcw (fun a' U hW => word_at hW (Or.inl (by first | rfl | simp [Cond.onTables, Cond.keeps, Cond.steady])) hini)
  obtain ⟨hx, hb, hml, ho, -⟩ := S
  intro T hT X
  obtain ⟨v, vm₁, ⟨U', l2, c2, s2⟩, hW₁, X', ⟨g', mk, t, L, e1, e2, hq, h1, hL, h2, h3⟩, st⟩ := vx_callSW X hx (hh := hh) (bytes := bytes) (maxL := maxL) (ret := ret) ho hl hstt hini hcode hy hK hg (hsize.trans hml.symm) (argsL := As) (rest := rest) (fun sig h => hn.trans (hlen sig h)) hstack hW (by rw [hb]; exact hdg)
    (fun vm₁ hW₁ => ⟨hf.1, hf.2, hp.2 (T.setVm vm₁) hT hW₁⟩)
  dsimp only [Pt.U, Pt.locs, Pt.cells, Pt.slots] at X' e1 e2 h1 h2 h3 st
  subst h1; subst h2; subst h3
  exact ⟨v, (T.setVm vm₁).calling g' mk As.toArray, t, U', L, hT, X', hL, e1, e2, hq, st⟩
/-- not caught here, past rows that name other classes: it goes on to the caller -/
theorem vx_outP {p : Program} {l : Launch} {e : Env} {R : Room} {s : State} {m : MethodId} {args : Array Value} {below : List Frame} {meth : Method} {c : Code} {H : Heap} {locs : List Loc} {cells slots : Nat} {free : Addr → Prop} {ls : Array Slot} {rest : List Value} {Qc : Array Value → State → Outcome → State → Prop} {XC : String → State → State → Prop}
    {pc : Nat} {own E : String} {ce : Cell} {q : Addr} {mc ms : Nat} (hown : s.vm.findClass own = some m.cls) (hlocks : meth.locks = false)
    (hpass : ∀ z ∈ c.exceptionTable.toList, covers z pc = false ∨ (z.catchType ≠ 0 ∧ ∃ nm : String, (Cond.classLink own z.catchType nm).before args s = true ∧ va_Nc E nm s)) (hcell : H[q]? = some ce) (hv : ce.vm = .none) (hcl : s.vm.findClass E = some ce.cls)
    (hx : ∀ t : State, t.heap = H → s.vm.Alike t.vm → XC E s t) (hf : ∀ z ∈ locs, free z.base) (hc : cells ≤ mc) (hs : slots ≤ ms) :
    vx_W p l e R s m args below meth c H locs cells slots (vx_MQ below Qc XC args s mc ms free) (F0 m pc ls rest) q := by
  intro T hT X
  have hpl : e.platform.magicAccessors = ({} : Platform).magicAccessors := by rw [X.admits.platform]
  obtain ⟨vm', hW', X', st⟩ := X.outThrough hlocks q (g := F0 m pc ls rest) rfl rfl rfl (cell := ce) (by rw [hT]; exact hcell) (by rw [hv]; rfl)
    (by obtain ⟨k9, h9, -⟩ := Vm.findClass_spec hcl; exact ⟨k9, h9⟩) (fun z hz => by
      rcases hpass z hz with h | ⟨hz0, nm, hl1, hn1⟩
      · exact Or.inl h
      · obtain ⟨c6, hc6, hcl6⟩ := Cond.classLink_spec hown hl1 e.platform hpl
        obtain ⟨a8, b8, h1, h2, h3⟩ := hn1
        cases Option.some.inj (h1.symm.trans hcl)
        cases Option.some.inj (h2.symm.trans hc6)
        exact Or.inr ⟨hz0, _, hcl6, h3⟩)
  obtain ⟨g₀, hfr⟩ := X'.frames_eq
  have hcell9 : ((T.setVm vm').setFrames (.throwing q :: below)).heap[q]? = some ce := by
    show T.heap[q]? = some ce
    rw [hT]; exact hcell
  have hend : Ended ((T.setVm vm').setFrames (.throwing q :: below)) below (.threw q) := State.frames_setFrames _ (State.cur_lt_of_frames hfr)
  refine ⟨(T.setVm vm').setFrames (.throwing q :: below), ?_, .threw q, X'.here.running, hend, Or.inr ⟨q, rfl, E, ce, locs, hx _ hT (X'.ends _).1.alike, hcell9, hv, hcl, (X'.ends _).1, (X'.ends _).2.mono hc hs, hf⟩⟩
  rw [X.pushThrowing_eq]
  exact st
/-- a thing of a world lies in the heap -/
theorem vx_lt {D : va_G} {cl : List vw_C} {ws : va_W} {H1 : Heap} (h : va_P D cl ws H1) {k : Nat} {q : Nat × va_E} (hk : ws[k]? = some q) : q.1 < H1.size := (h k q hk).lt
end VXS
/-! ===== END ===== -/
/-! ===== BEGIN methods with a table of their own: called by a name, returning or throwing ===== -/
section VXH
/-! vx_backW, vx_callVX, vx_callSX, vx_callVW, vx_runVW, vx_runVX, vx_runSX, vx_ofWH follow the same proofs as their sisters above (Free/Laws.lean, Shelf42/LK1.lean); vx_outP calls Shelf42/NT130.lean (outThrough). -/
section
variable {l : Launch} {R : Room} {p : Program} {e : Env} {below : List Frame} {s : State} {sargs : Array Value} {y : MethodName} {len W9 : Nat}
theorem vx_backW {ws : List Cond} {rm : Room} {Pc : Array Value → State → Prop} {Qc : Array Value → State → Outcome → State → Prop} {XC : String → State → State → Prop} {mc ms : Nat} {free : Addr → Prop} {bytes : ByteArray} {maxL : Nat} {ret : Option FieldType} {hh : List (Nat × Nat × Nat × Nat)}
    (hM : vx_Met l y ws rm Pc Qc XC mc ms free) (hblind : FrameBlind Pc) (hrc : rm.cells = mc) (hrs : rm.slots = ms)
    (hframes : rm.frames + 1 ≤ R.frames) (hlocals : W9 + (maxL + 11) + rm.locals ≤ R.locals)
    (hws : ∀ w ∈ ws, ∀ a' U, s.WarmedH U.vm → w.before a' U = true) (hcode : Cond.codeWith y bytes maxL ret hh ∈ ws) (hinit : ∀ a' U, s.WarmedH U.vm → (Cond.initialized y.cls).before a' U = true) :
    vx_Back l R p e below s sargs y len W9 (PreOf R mc ms Pc) (PostOf Qc mc ms free) (vx_Post XC mc ms free) := by
  intro m meth c A g ig mk a X hg hsize hdg hW hn hp
  have h1 : (headSpec ws rm).pre.before a A.U = true := atoms_intro fun w hw => hws w hw _ _ X.warmed
  have h2 : (Cond.codeWith y bytes maxL ret hh).before a A.U = true := hws _ hcode _ _ X.warmed
  have h3 : (Cond.initialized y.cls).before a A.U = true := hinit _ _ X.warmed
  have h4 : A.cells + (headSpec ws rm).room.cells ≤ R.cells := by rw [show (headSpec ws rm).room.cells = mc from hrc]; exact hp.1
  have h5 : A.slots + (headSpec ws rm).room.slots ≤ R.slots := by rw [show (headSpec ws rm).room.slots = ms from hrs]; exact hp.2.1
  have hPc : Pc a (A.U.calling g mk a) := hblind _ _ _ _ hp.2.2
  obtain ⟨U, Ls, c0, s0⟩ := A
  dsimp only [Pt.U, Pt.locs, Pt.cells, Pt.slots] at h1 h2 h3 h4 h5 X hn hPc ⊢
  obtain ⟨m9, methY, cY, hn9, hmY, hcY, -, hlY, -⟩ := Cond.codeWith_spec h2
  cases Option.some.inj (hn9.symm.trans hn)
  obtain ⟨kY, hkY, -⟩ := className_of_methodNamed hn
  have hinitY : kY.init = .initialized := Cond.initialized_spec (findClass_of_methodNamed hn) hkY h3
  have h : At U g.method c below := by rw [hg]; exact X.here
  have hlocals9 : W9 + (maxL + 11) + (headSpec ws rm).room.locals ≤ R.locals := hlocals
  have happ : (headSpec ws rm).appliesLoose y e.platform (U.calling g mk a) = true :=
    Spec.appliesLoose_calling (g := g) h hdg hn hkY hinitY
      (X.room_calling (g := g) (R' := (headSpec ws rm).room) hsize hmY hcY hframes (by rw [hlY]; omega) h4 h5) h1
  obtain ⟨mid, hmid⟩ := h.above
  have hfr : (U.setTop g).frames = (.java g :: mid) ++ below := by rw [State.frames_setTop' g h.top, hmid]; rfl
  obtain ⟨o, s₂, hsteps, -, hend, hq⟩ := Steps.callFree hM p X.admits X.cas X.clock (acts := []) hfr happ hPc trivial
  have hq' : vx_Q Qc XC mc ms free a (U.calling g mk a) o s₂ := hq
  rw [State.frames_setTop' g h.top] at hend
  obtain ⟨g₀, hg0⟩ := Option.isSome_iff_exists.mp h.top
  obtain ⟨r, hr⟩ := State.topJava?_eq_some.mp hg0
  have hr' : (({ U with heap := s₂.heap, slotsUsed := s₂.slotsUsed } : State).setVm s₂.vm).frames = .java g₀ :: r := hr
  rcases hq' with ⟨hqc, L, hfe, hL⟩ | ⟨q, rfl, E, ce, L, hx, hce, hcv, hcl, hW₂, hsm, hL⟩
  · obtain ⟨⟨v, rfl⟩, hW₂, e2, q2, q3, q4, q5, q6⟩ := id hfe
    have e3 : s₂ = ({ (U.calling g mk a).setFrames s₂.frames with heap := s₂.heap, slotsUsed := s₂.slotsUsed } : State).setVm s₂.vm := by
      have : s₂ = ({ s₂ with vm := (U.calling g mk a).vm } : State).setVm s₂.vm := rfl
      rw [e2] at this
      exact this
    obtain ⟨c₂, i₂, len₂, hc₂, hd₂, hf₂⟩ := hend
    have hW' : U.WarmedH s₂.vm := hW₂
    have hcc : c₂ = c := by
      have h1 : s₂.code? g.method = U.code? g.method := by
        rw [State.code?_eq, State.code?_eq, hW'.alike.method?]
      exact Option.some.inj (hc₂.symm.trans (h1.trans h.code))
    subst hcc
    have hlen : len₂ = len := by rw [hdg] at hd₂; cases hd₂; rfl
    subst hlen
    have hs₂ : s₂ = (({ U with heap := s₂.heap, slotsUsed := s₂.slotsUsed } : State).setVm s₂.vm).setTop { g with pc := g.pc + len₂, stack := v.toList ++ g.stack } := by
      refine e3.trans ?_
      rw [hf₂, State.calling_eq h.top, State.setFrames_setFrames, State.setTop_of_frames _ hr', hr]
      rfl
    have hsame : U.sameButNew ({ U with heap := s₂.heap, slotsUsed := s₂.slotsUsed } : State) L mc ms := by
      refine ⟨?_, q2, q3, q4, q5, q6⟩
      obtain ⟨t, ht, -⟩ := State.frames_cons hr
      show ({ U with heap := s₂.heap, slotsUsed := s₂.slotsUsed } : State) = { U.setFrames U.frames with heap := s₂.heap, slotsUsed := s₂.slotsUsed }
      rw [State.setFrames_self ht]
    subst hg
    refine Or.inl ⟨v, ⟨(({ U with heap := s₂.heap, slotsUsed := s₂.slotsUsed } : State).setVm s₂.vm), Ls ++ L, c0 + mc, s0 + ms⟩,
      ⟨X.admits, X.cas, X.clock, X.frames, X.room, X.hears, X.method, X.code, (X.here.setHeapUsed s₂.heap s₂.slotsUsed).setVm hW'.alike, X.tail, State.WarmedH.trans X.warmed hW', X.limits, X.bytes, X.same.trans (hsame.setVm s.vm)⟩,
      ⟨g, mk, s₂, L, rfl, rfl, hqc, rfl, hL, rfl, rfl⟩, ?_⟩
    show Steps p.tables e below _ ((({ U with heap := s₂.heap, slotsUsed := s₂.slotsUsed } : State).setVm s₂.vm).setTop { g with pc := g.pc + len₂, stack := v.toList ++ g.stack })
    rw [← hs₂]
    exact hsteps
  · obtain ⟨e2, q2, q3, q4, q5, q6⟩ := id hsm
    have e3 : s₂ = ({ (U.calling g mk a).setFrames s₂.frames with heap := s₂.heap, slotsUsed := s₂.slotsUsed } : State).setVm s₂.vm := by
      have : s₂ = ({ s₂ with vm := (U.calling g mk a).vm } : State).setVm s₂.vm := rfl
      rw [e2] at this
      exact this
    have hf₂ : s₂.frames = .throwing q :: .java g :: U.frames.tail := hend
    have hW' : U.WarmedH s₂.vm := hW₂
    have hs₂ : s₂ = ((({ U with heap := s₂.heap, slotsUsed := s₂.slotsUsed } : State).setVm s₂.vm).setTop g).pushFrame (.throwing q) := by
      refine e3.trans ?_
      rw [hf₂, State.calling_eq h.top, State.setFrames_setFrames, State.pushFrame, State.frames_setTop _ hr', State.setTop_of_frames _ hr', State.setFrames_setFrames, hr]
      rfl
    have hsame : U.sameButNew ({ U with heap := s₂.heap, slotsUsed := s₂.slotsUsed } : State) L mc ms := by
      refine ⟨?_, q2, q3, q4, q5, q6⟩
      obtain ⟨t, ht, -⟩ := State.frames_cons hr
      show ({ U with heap := s₂.heap, slotsUsed := s₂.slotsUsed } : State) = { U.setFrames U.frames with heap := s₂.heap, slotsUsed := s₂.slotsUsed }
      rw [State.setFrames_self ht]
    subst hg
    refine Or.inr ⟨q, ⟨(({ U with heap := s₂.heap, slotsUsed := s₂.slotsUsed } : State).setVm s₂.vm), Ls ++ L, c0 + mc, s0 + ms⟩,
      ⟨X.admits, X.cas, X.clock, X.frames, X.room, X.hears, X.method, X.code, (X.here.setHeapUsed s₂.heap s₂.slotsUsed).setVm hW'.alike, X.tail, State.WarmedH.trans X.warmed hW', X.limits, X.bytes, X.same.trans (hsame.setVm s.vm)⟩,
      ⟨g, mk, s₂, L, E, ce, rfl, rfl, hx, hce, hcv, hcl, rfl, hL, rfl, rfl⟩, ?_⟩
    show Steps p.tables e below _ (((({ U with heap := s₂.heap, slotsUsed := s₂.slotsUsed } : State).setVm s₂.vm).setTop g).pushFrame (.throwing q))
    rw [← hs₂]
    exact hsteps
end
variable {p : Program} {l : Launch} {e : Env} {R : Room} {s : State} {m : MethodId} {args : Array Value} {below : List Frame} {meth : Method} {c : Code} {T : State} {H : Heap} {locs : List Loc} {cells slots : Nat}
theorem vx_callVX (X : Stand p l e R s m args below meth c T locs cells slots) (hexec : p.tables.exec = Jvm.exec) {own C : String} {index : Nat} {y : MethodName} {bytes : ByteArray} {maxL : Nat} {ret : Option FieldType} {hh : List (Nat × Nat × Nat × Nat)}
    (hown : s.vm.findClass own = some m.cls) (hlink : (Cond.methodLink own index y).before args s = true) (hinst : (Cond.instanceMethod y).before args s = true) (hsel : (Cond.selects C y y).before args s = true)
    (hcode : (Cond.codeWith y bytes maxL ret hh).before args s = true) (hy : y.cls ≠ "java/lang/invoke/MethodHandle" ∧ y.cls ≠ "java/lang/invoke/VarHandle")
    {W9 : Nat} {Pre : Pt → Array Value → Prop} {Post : Pt → Array Value → Option Value → Pt → Prop} {PostX : Pt → Array Value → Addr → Pt → Prop} (hK : vx_Back l R p e below s args y 3 W9 Pre Post PostX)
    {b : Addr} {cellB : Cell} (hcell : T.heap[b]? = some cellB) (hobj : cellB.vm.isStatics = false) (hcls : s.vm.findClass C = some cellB.cls)
    {g : JFrame} (hg : g.method = m) (hsize : g.locals.size = c.maxLocals) {argsL rest : List Value} (hlen : ∀ sig, parseMethodDescriptor y.desc = some sig → argsL.length = sig.parameters.length)
    (hstack : g.stack = argsL.reverse ++ .ref b :: rest) (hW : 2 * g.monitorRoom + (rest.map fun v => v.category).sum ≤ W9) (hdg : decode c.code g.pc = .ok (.invokevirtual index, 3))
    (hpre : ∀ vm₁, s.WarmedH vm₁ → Pre ⟨T.setVm vm₁, locs, cells, slots⟩ (Value.ref b :: argsL).toArray) :
    (∃ (v : Option Value) (vm₁ : Vm) (B : Pt), s.WarmedH vm₁ ∧ Stand p l e R s m args below meth c B.U B.locs B.cells B.slots ∧ Post ⟨T.setVm vm₁, locs, cells, slots⟩ (Value.ref b :: argsL).toArray v B ∧
      ∀ target, Steps p.tables e below (B.U.setTop { g with pc := g.pc + 3, stack := v.toList ++ rest }) target → Steps p.tables e below (T.setTop g) target) ∨
    (∃ (q : Addr) (vm₁ : Vm) (B : Pt), s.WarmedH vm₁ ∧ Stand p l e R s m args below meth c B.U B.locs B.cells B.slots ∧ PostX ⟨T.setVm vm₁, locs, cells, slots⟩ (Value.ref b :: argsL).toArray q B ∧
      Steps p.tables e below (T.setTop g) ((B.U.setTop { g with stack := rest }).pushFrame (.throwing q))) := by
  obtain ⟨mk, methM, hnamed, hmethM, hstM, habM⟩ := Cond.instanceMethod_spec hinst
  obtain ⟨m8, methM', cM, hn8, hmethM', -, -, -, -, -, -, hsigM⟩ := Cond.codeWith_spec hcode
  cases Option.some.inj (hn8.symm.trans hnamed)
  cases hmethM.symm.trans hmethM'
  obtain ⟨c2, r2, m2, q1, q2, q3, q4, kP, hkP, hkPi⟩ := Cond.selects_spec hsel
  cases hcls.symm.trans q1
  cases (State.methodFound?_of_named hnamed hy).symm.trans q2
  cases hnamed.symm.trans q3
  have hselP : selectMethod e.platform s.vm cellB.cls mk = .method mk := by rw [Launch.admits_selectMethod X.admits]; exact q4
  obtain ⟨vm₁, X₁, hstep₁⟩ := X.invokevirtual hexec hown hlink hnamed hmethM hstM hkP hkPi hy (a := b) (cell := cellB) hcell
    (fun z h => by rw [h] at hobj; cases hobj) hselP hmethM habM hkP hkPi (g := g) hg (argsL := argsL) (rest := rest) (hlen _ hsigM) hstack hdg
  rcases hK m meth c ⟨T.setVm vm₁, locs, cells, slots⟩ { g with stack := rest } (.invokevirtual index) mk (Value.ref b :: argsL).toArray X₁ hg hsize hdg hW (X₁.named hnamed) (hpre vm₁ X₁.warmed) with ⟨v, B, X', hpost, hsteps⟩ | ⟨q, B, X', hpost, hsteps⟩
  · exact Or.inl ⟨v, vm₁, B, X₁.warmed, X', hpost, fun target h => hstep₁ _ fun acts => by rw [doInvoke_state]; exact hsteps.trans h⟩
  · exact Or.inr ⟨q, vm₁, B, X₁.warmed, X', hpost, hstep₁ _ fun acts => by rw [doInvoke_state]; exact hsteps⟩
theorem vx_callSX (X : Stand p l e R s m args below meth c T locs cells slots) (hexec : p.tables.exec = Jvm.exec) {own : String} {index : Nat} {y : MethodName} {bytes : ByteArray} {maxL : Nat} {ret : Option FieldType} {hh : List (Nat × Nat × Nat × Nat)}
    (hown : s.vm.findClass own = some m.cls) (hlink : (Cond.methodLink own index y).before args s = true) (hstat : (Cond.static y).before args s = true) (hinit : (Cond.initialized y.cls).before args s = true)
    (hcode : (Cond.codeWith y bytes maxL ret hh).before args s = true) (hy : y.cls ≠ "java/lang/invoke/MethodHandle" ∧ y.cls ≠ "java/lang/invoke/VarHandle")
    {W9 : Nat} {Pre : Pt → Array Value → Prop} {Post : Pt → Array Value → Option Value → Pt → Prop} {PostX : Pt → Array Value → Addr → Pt → Prop} (hK : vx_Back l R p e below s args y 3 W9 Pre Post PostX)
    {g : JFrame} (hg : g.method = m) (hsize : g.locals.size = c.maxLocals) {argsL rest : List Value} (hlen : ∀ sig, parseMethodDescriptor y.desc = some sig → argsL.length = sig.parameters.length)
    (hstack : g.stack = argsL.reverse ++ rest) (hW : 2 * g.monitorRoom + (rest.map fun v => v.category).sum ≤ W9) (hdg : decode c.code g.pc = .ok (.invokestatic index, 3))
    (hpre : ∀ vm₁, s.WarmedH vm₁ → Pre ⟨T.setVm vm₁, locs, cells, slots⟩ argsL.toArray) :
    (∃ (v : Option Value) (vm₁ : Vm) (B : Pt), s.WarmedH vm₁ ∧ Stand p l e R s m args below meth c B.U B.locs B.cells B.slots ∧ Post ⟨T.setVm vm₁, locs, cells, slots⟩ argsL.toArray v B ∧
      ∀ target, Steps p.tables e below (B.U.setTop { g with pc := g.pc + 3, stack := v.toList ++ rest }) target → Steps p.tables e below (T.setTop g) target) ∨
    (∃ (q : Addr) (vm₁ : Vm) (B : Pt), s.WarmedH vm₁ ∧ Stand p l e R s m args below meth c B.U B.locs B.cells B.slots ∧ PostX ⟨T.setVm vm₁, locs, cells, slots⟩ argsL.toArray q B ∧
      Steps p.tables e below (T.setTop g) ((B.U.setTop { g with stack := rest }).pushFrame (.throwing q))) := by
  obtain ⟨mk, methM, cM, hnamed, hmethM, -, -, -, -, -, -, hsigM⟩ := Cond.codeWith_spec hcode
  have hstatic : methM.isStatic = true := Cond.static_spec hnamed hmethM hstat
  obtain ⟨kP, hkP, -⟩ := className_of_methodNamed hnamed
  have hinitP : kP.init = .initialized := Cond.initialized_spec (findClass_of_methodNamed hnamed) hkP hinit
  obtain ⟨vm₁, X₁, hstep₁⟩ := X.invokestatic hexec hown hlink hnamed hmethM hstatic hkP hinitP hy (g := g) hg (argsL := argsL) (rest := rest) (hlen _ hsigM) hstack hdg
  rcases hK m meth c ⟨T.setVm vm₁, locs, cells, slots⟩ { g with stack := rest } (.invokestatic index) mk argsL.toArray X₁ hg hsize hdg hW (X₁.named hnamed) (hpre vm₁ X₁.warmed) with ⟨v, B, X', hpost, hsteps⟩ | ⟨q, B, X', hpost, hsteps⟩
  · exact Or.inl ⟨v, vm₁, B, X₁.warmed, X', hpost, fun target h => hstep₁ _ fun acts => by rw [doInvoke_state]; exact hsteps.trans h⟩
  · exact Or.inr ⟨q, vm₁, B, X₁.warmed, X', hpost, hstep₁ _ fun acts => by rw [doInvoke_state]; exact hsteps⟩
theorem vx_callVW (X : Stand p l e R s m args below meth c T locs cells slots) (hexec : p.tables.exec = Jvm.exec) {own C : String} {index : Nat} {y : MethodName} {bytes : ByteArray} {maxL : Nat} {ret : Option FieldType} {hh : List (Nat × Nat × Nat × Nat)}
    (hown : s.vm.findClass own = some m.cls) (hlink : (Cond.methodLink own index y).before args s = true) (hinst : (Cond.instanceMethod y).before args s = true) (hsel : (Cond.selects C y y).before args s = true)
    (hcode : (Cond.codeWith y bytes maxL ret hh).before args s = true) (hy : y.cls ≠ "java/lang/invoke/MethodHandle" ∧ y.cls ≠ "java/lang/invoke/VarHandle")
    {W9 : Nat} {Pre : Pt → Array Value → Prop} {Post : Pt → Array Value → Option Value → Pt → Prop} (hK : Back l R p e below s args y 3 W9 Pre Post)
    {b : Addr} {cellB : Cell} (hcell : T.heap[b]? = some cellB) (hobj : cellB.vm.isStatics = false) (hcls : s.vm.findClass C = some cellB.cls)
    {g : JFrame} (hg : g.method = m) (hsize : g.locals.size = c.maxLocals) {argsL rest : List Value} (hlen : ∀ sig, parseMethodDescriptor y.desc = some sig → argsL.length = sig.parameters.length)
    (hstack : g.stack = argsL.reverse ++ .ref b :: rest) (hW : 2 * g.monitorRoom + (rest.map fun v => v.category).sum ≤ W9) (hdg : decode c.code g.pc = .ok (.invokevirtual index, 3))
    (hpre : ∀ vm₁, s.WarmedH vm₁ → Pre ⟨T.setVm vm₁, locs, cells, slots⟩ (Value.ref b :: argsL).toArray) :
    ∃ (v : Option Value) (vm₁ : Vm) (B : Pt), s.WarmedH vm₁ ∧ Stand p l e R s m args below meth c B.U B.locs B.cells B.slots ∧ Post ⟨T.setVm vm₁, locs, cells, slots⟩ (Value.ref b :: argsL).toArray v B ∧
      ∀ target, Steps p.tables e below (B.U.setTop { g with pc := g.pc + 3, stack := v.toList ++ rest }) target → Steps p.tables e below (T.setTop g) target := by
  obtain ⟨mk, methM, hnamed, hmethM, hstM, habM⟩ := Cond.instanceMethod_spec hinst
  obtain ⟨m8, methM', cM, hn8, hmethM', -, -, -, -, -, -, hsigM⟩ := Cond.codeWith_spec hcode
  cases Option.some.inj (hn8.symm.trans hnamed)
  cases hmethM.symm.trans hmethM'
  obtain ⟨c2, r2, m2, q1, q2, q3, q4, kP, hkP, hkPi⟩ := Cond.selects_spec hsel
  cases hcls.symm.trans q1
  cases (State.methodFound?_of_named hnamed hy).symm.trans q2
  cases hnamed.symm.trans q3
  have hselP : selectMethod e.platform s.vm cellB.cls mk = .method mk := by rw [Launch.admits_selectMethod X.admits]; exact q4
  obtain ⟨vm₁, X₁, hstep₁⟩ := X.invokevirtual hexec hown hlink hnamed hmethM hstM hkP hkPi hy (a := b) (cell := cellB) hcell
    (fun z h => by rw [h] at hobj; cases hobj) hselP hmethM habM hkP hkPi (g := g) hg (argsL := argsL) (rest := rest) (hlen _ hsigM) hstack hdg
  obtain ⟨v, B, X', hpost, hsteps⟩ := hK m meth c ⟨T.setVm vm₁, locs, cells, slots⟩ { g with stack := rest } (.invokevirtual index) mk (Value.ref b :: argsL).toArray X₁ hg hsize hdg hW (X₁.named hnamed) (hpre vm₁ X₁.warmed)
  exact ⟨v, vm₁, B, X₁.warmed, X', hpost, fun target h => hstep₁ _ fun acts => by rw [doInvoke_state]; exact hsteps.trans h⟩
abbrev vx_CVW (R : Room) (s : State) (args : Array Value) (own C : String) (index : Nat) (y : MethodName) (bytes : ByteArray) (maxL : Nat) (ret : Option FieldType) (hh : List (Nat × Nat × Nat × Nat)) (ws : List Cond) (rm : Room) (mc ms n : Nat) : Prop :=
  (rm.cells = mc ∧ rm.slots = ms ∧ rm.frames + 1 ≤ R.frames ∧ 8 + (maxL + 11) + rm.locals ≤ R.locals ∧ (∀ w ∈ ws, ∀ (a' : Array Value) (U : State), s.WarmedH U.vm → w.before a' U = true) ∧ Cond.codeWith y bytes maxL ret hh ∈ ws) ∧
  (Cond.codeWith y bytes maxL ret hh).before args s = true ∧ (Cond.initialized y.cls).before args s = true ∧ (y.cls ≠ "java/lang/invoke/MethodHandle" ∧ y.cls ≠ "java/lang/invoke/VarHandle") ∧
  (∀ sig, parseMethodDescriptor y.desc = some sig → n = sig.parameters.length) ∧ (Cond.methodLink own index y).before args s = true ∧ (Cond.instanceMethod y).before args s = true ∧ (Cond.selects C y y).before args s = true
theorem vx_cwVW {own C : String} {index maxL mc ms : Nat} {y : MethodName} {bytes : ByteArray} {ret : Option FieldType} {hh : List (Nat × Nat × Nat × Nat)} {Ts ws ws' : List Cond} {rm : Room} (n : Nat) (ht : ∀ w ∈ Ts, w.before args s = true) (hT : GoodIn Ts (wsV own index C y ws)) (hw : ws = Cond.codeWith y bytes maxL ret hh :: ws') (hrc : rm.cells = mc) (hrs : rm.slots = ms)
    (hd : y.cls = C ∧ y.cls ≠ "java/lang/invoke/MethodHandle" ∧ y.cls ≠ "java/lang/invoke/VarHandle" ∧ (parseMethodDescriptor y.desc).map (fun d => d.parameters.length) = some n) (hR : rm.frames + 1 ≤ R.frames ∧ 8 + (maxL + 11) + rm.locals ≤ R.locals) :
    vx_CVW R s args own C index y bytes maxL ret hh ws rm mc ms n := by
  obtain ⟨hC, hd⟩ := hd
  subst hC
  have ok : ∀ w ∈ wsV own index y.cls y ws, w.before args s = true := fun w h => ht w (hT w h).1
  have hG : GoodIn Ts ws := fun w h => hT w (by unfold wsV; exact List.mem_append_right _ h)
  have hc : Cond.codeWith y bytes maxL ret hh ∈ ws := by rw [hw]; exact List.mem_cons_self
  refine ⟨⟨hrc, hrs, hR.1, hR.2, pay_in ht hG, hc⟩, ht _ (hG _ hc).1, ok _ (by simp [wsV]), ⟨hd.1, hd.2.1⟩, fun sig h => ?_, ok _ (by simp [wsV]), ok _ (by simp [wsV]), ok _ (by simp [wsV])⟩
  have h2 := hd.2.2
  rw [h] at h2
  exact (Option.some.inj h2).symm
theorem vx_runVW {y : MethodName} {bytes cc : ByteArray} {maxL nL mc ms n index : Nat} {ret : Option FieldType} {hh : List (Nat × Nat × Nat × Nat)} {ws : List Cond} {rm : Room} {Pc : Array Value → State → Prop} {Qc : Array Value → State → Outcome → State → Prop} {free : Addr → Prop} {Ts : List Cond} {own C : String} {b : Addr} {As rest : List Value} {g : JFrame}
    (S : CallFix p m c cc nL s args Ts own) (hM : Met l y ws rm Pc Qc mc ms free) (cw : vx_CVW R s args own C index y bytes maxL ret hh ws rm mc ms n) (hp : PreV s H C b Pc As)
    (hg : g.method = m) (hn : As.length = n) (hsize : g.locals.size = nL) (hstack : g.stack = As.reverse ++ .ref b :: rest) (hW : 2 * g.monitorRoom + (rest.map fun v => v.category).sum ≤ 8) (hdg : decode cc g.pc = .ok (.invokevirtual index, 3)) (hf : cells + mc ≤ R.cells ∧ slots + ms ≤ R.slots) :
    va_Run p l e R s m args below meth c H locs cells slots mc ms g rest (Qc (Value.ref b :: As).toArray) free := by
  obtain ⟨⟨hrc, hrs, hfr, hlo, hws, hcw⟩, hcode, hini, hy, hlen, hl, hin, hse⟩ := cw
  have hK : Back l R p e below s args y 3 8 (PreOf R mc ms Pc) (PostOf Qc mc ms free) := va_backW (hh := hh) (bytes := bytes) (maxL := maxL) (ret := ret) hM hp.1 hrc hrs hfr hlo hws hcw (fun a' U hW => word_at hW (Or.inl (by first | rfl | simp [Cond.onTables, Cond.keeps, Cond.steady])) hini)
  obtain ⟨hx, hb, hml, ho, -⟩ := S
  obtain ⟨-, ⟨cellB, hcB, hoB, hclB⟩, hPc⟩ := hp
  intro T hT X
  obtain ⟨v, vm₁, ⟨U', l2, c2, s2⟩, hW₁, X', ⟨g', mk, t, L, e1, e2, hq, h1, hL, h2, h3⟩, st⟩ := vx_callVW X hx (C := C) (hh := hh) (bytes := bytes) (maxL := maxL) (ret := ret) ho hl hin hse hcode hy hK (by rw [hT]; exact hcB) hoB hclB hg (hsize.trans hml.symm) (argsL := As) (rest := rest) (fun sig h => hn.trans (hlen sig h)) hstack hW (by rw [hb]; exact hdg)
    (fun vm₁ hW₁ => ⟨hf.1, hf.2, hPc (T.setVm vm₁) hT hW₁⟩)
  dsimp only [Pt.U, Pt.locs, Pt.cells, Pt.slots] at X' e1 e2 h1 h2 h3 st
  subst h1; subst h2; subst h3
  exact ⟨v, (T.setVm vm₁).calling g' mk (Value.ref b :: As).toArray, t, U', L, hT, X', hL, e1, e2, hq, st⟩
section
variable {y : MethodName} {bytes cc : ByteArray} {maxL nL mc ms n index : Nat} {ret : Option FieldType} {ws : List Cond} {rm : Room} {Pc : Array Value → State → Prop} {Qc : Array Value → State → Outcome → State → Prop} {XC : String → State → State → Prop} {free : Addr → Prop} {Ts : List Cond} {own C : String} {b : Addr} {As rest : List Value} {g : JFrame}
theorem vx_runVX {hh : List (Nat × Nat × Nat × Nat)} (S : CallFix p m c cc nL s args Ts own) (hM : vx_Met l y ws rm Pc Qc XC mc ms free) (cw : vx_CVW R s args own C index y bytes maxL ret hh ws rm mc ms n) (hp : PreV s H C b Pc As)
    (hg : g.method = m) (hn : As.length = n) (hsize : g.locals.size = nL) (hstack : g.stack = As.reverse ++ .ref b :: rest) (hW : 2 * g.monitorRoom + (rest.map fun v => v.category).sum ≤ 8) (hdg : decode cc g.pc = .ok (.invokevirtual index, 3)) (hf : cells + mc ≤ R.cells ∧ slots + ms ≤ R.slots) :
    vx_Run p l e R s m args below meth c H locs cells slots mc ms g rest (Qc (Value.ref b :: As).toArray) XC free := by
  obtain ⟨⟨hrc, hrs, hfr, hlo, hws, hcw⟩, hcode, hini, hy, hlen, hl, hin, hse⟩ := cw
  have hK : vx_Back l R p e below s args y 3 8 (PreOf R mc ms Pc) (PostOf Qc mc ms free) (vx_Post XC mc ms free) := vx_backW (hh := hh) (bytes := bytes) (maxL := maxL) (ret := ret) hM hp.1 hrc hrs hfr hlo hws hcw (fun a' U hW => word_at hW (Or.inl (by first | rfl | simp [Cond.onTables, Cond.keeps, Cond.steady])) hini)
  obtain ⟨hx, hb, hml, ho, -⟩ := S
  obtain ⟨-, ⟨cellB, hcB, hoB, hclB⟩, hPc⟩ := hp
  intro T hT X
  rcases vx_callVX X hx (C := C) (hh := hh) (bytes := bytes) (maxL := maxL) (ret := ret) ho hl hin hse hcode hy hK (by rw [hT]; exact hcB) hoB hclB hg (hsize.trans hml.symm) (argsL := As) (rest := rest) (fun sig h => hn.trans (hlen sig h)) hstack hW (by rw [hb]; exact hdg)
    (fun vm₁ hW₁ => ⟨hf.1, hf.2, hPc (T.setVm vm₁) hT hW₁⟩) with ⟨v, vm₁, ⟨U', l2, c2, s2⟩, hW₁, X', ⟨g', mk, t, L, e1, e2, hq, h1, hL, h2, h3⟩, st⟩ | ⟨q, vm₁, ⟨U', l2, c2, s2⟩, hW₁, X', ⟨g', mk, t, L, E, ce, e1, e2, hq, hce, hcv, hcl, h1, hL, h2, h3⟩, st⟩
  · dsimp only [Pt.U, Pt.locs, Pt.cells, Pt.slots] at X' e1 e2 h1 h2 h3 st
    subst h1; subst h2; subst h3
    exact Or.inl ⟨v, (T.setVm vm₁).calling g' mk (Value.ref b :: As).toArray, t, U', L, hT, X', hL, e1, e2, hq, st⟩
  · dsimp only [Pt.U, Pt.locs, Pt.cells, Pt.slots] at X' e1 e2 h1 h2 h3 st hcl
    subst h1; subst h2; subst h3
    exact Or.inr ⟨q, (T.setVm vm₁).calling g' mk (Value.ref b :: As).toArray, t, U', L, E, ce, hT, X', hL, e1, e2, hq, hce, hcv, vx_cls hW₁ hcl, st⟩
theorem vx_runSX {hh : List (Nat × Nat × Nat × Nat)} (S : CallFix p m c cc nL s args Ts own) (hM : vx_Met l y ws rm Pc Qc XC mc ms free) (cw : vx_CSW R s args own index y bytes maxL ret hh ws rm mc ms n) (hp : PreS s H Pc As)
    (hg : g.method = m) (hn : As.length = n) (hsize : g.locals.size = nL) (hstack : g.stack = As.reverse ++ rest) (hW : 2 * g.monitorRoom + (rest.map fun v => v.category).sum ≤ 8) (hdg : decode cc g.pc = .ok (.invokestatic index, 3)) (hf : cells + mc ≤ R.cells ∧ slots + ms ≤ R.slots) :
    vx_Run p l e R s m args below meth c H locs cells slots mc ms g rest (Qc As.toArray) XC free := by
  obtain ⟨⟨hrc, hrs, hfr, hlo, hws, hcw⟩, hcode, hini, hy, hlen, hl, hstt⟩ := cw
  have hK : vx_Back l R p e below s args y 3 8 (PreOf R mc ms Pc) (PostOf Qc mc ms free) (vx_Post XC mc ms free) := vx_backW (hh := hh) (bytes := bytes) (maxL := maxL) (ret := ret) hM hp.1 hrc hrs hfr hlo hws hcw (fun a' U hW => word_at hW (Or.inl (by first | rfl | simp [Cond.onTables, Cond.keeps, Cond.steady])) hini)
  obtain ⟨hx, hb, hml, ho, -⟩ := S
  intro T hT X
  rcases vx_callSX X hx (hh := hh) (bytes := bytes) (maxL := maxL) (ret := ret) ho hl hstt hini hcode hy hK hg (hsize.trans hml.symm) (argsL := As) (rest := rest) (fun sig h => hn.trans (hlen sig h)) hstack hW (by rw [hb]; exact hdg)
    (fun vm₁ hW₁ => ⟨hf.1, hf.2, hp.2 (T.setVm vm₁) hT hW₁⟩) with ⟨v, vm₁, ⟨U', l2, c2, s2⟩, hW₁, X', ⟨g', mk, t, L, e1, e2, hq, h1, hL, h2, h3⟩, st⟩ | ⟨q, vm₁, ⟨U', l2, c2, s2⟩, hW₁, X', ⟨g', mk, t, L, E, ce, e1, e2, hq, hce, hcv, hcl, h1, hL, h2, h3⟩, st⟩
  · dsimp only [Pt.U, Pt.locs, Pt.cells, Pt.slots] at X' e1 e2 h1 h2 h3 st
    subst h1; subst h2; subst h3
    exact Or.inl ⟨v, (T.setVm vm₁).calling g' mk As.toArray, t, U', L, hT, X', hL, e1, e2, hq, st⟩
  · dsimp only [Pt.U, Pt.locs, Pt.cells, Pt.slots] at X' e1 e2 h1 h2 h3 st hcl
    subst h1; subst h2; subst h3
    exact Or.inr ⟨q, (T.setVm vm₁).calling g' mk As.toArray, t, U', L, E, ce, hT, X', hL, e1, e2, hq, hce, hcv, vx_cls hW₁ hcl, st⟩
end
end VXH
theorem vx_ofWH {l : Launch} {y : MethodName} {ws ws' : List Cond} {rm : Room} {Pc : Array Value → State → Prop} {Qc : Array Value → State → Outcome → State → Prop} {XC : String → State → State → Prop} {mc ms : Nat} {free : Addr → Prop} {cc : ByteArray} {maxL : Nat} {ret : Option FieldType} {hh : List (Nat × Nat × Nat × Nat)}
    (hy : plainName y.cls = true) (hw : ws = Cond.codeWith y cc maxL ret hh :: ws')
    (body : ∀ p e s m args below meth c s₁, BodyLoose p l y (headSpec ws rm) cc maxL ret e s m args below meth c s₁ → c.maxLocals = maxL → Pc args s →
      W p l e (headSpec ws rm).room s m args below meth c s.heap [] 0 0 (vx_MQ below Qc XC args s mc ms free) (entryFrame m args maxL)) : vx_Met l y ws rm Pc Qc XC mc ms free := by
  refine MetFree.of_bodyS (code := cc) (maxLocals := maxL) (ret := ret) hy ?_ ?_
  · intro args s m h hn
    obtain ⟨m9, meth, c, hn9, h1, h2, h3, h4, -, h5, h6, -⟩ := Cond.codeWith_spec (atoms_spec (ws := ws) h _ (by rw [hw]; exact List.mem_cons_self))
    cases hn.symm.trans hn9
    exact ⟨meth, c, h1, h2, h3, h4, h5, h6⟩
  · intro p e s m args below meth c s₁ B hml hP _
    have hh0 : s₁.heap = s.heap := by rw [B.state]; rfl
    obtain ⟨t, a1, o, b1, b2, b3⟩ := body p e s m args below meth c s₁ B hml hP s₁ hh0 (Stand.of_body B)
    exact ⟨t, o, a1, b1, b2, b3⟩
/-! ===== END ===== -/
end
section
def RX0 : String := "Eddyhall$Counts"
def TX0 : u_T := fun k => match k with
  | 0 => ("Eddyhall$Counts", "rows", "[[I", true)
  | 1 => ("Eddyhall$Counts", "moved", "[[I", true)
  | 2 => ("Eddyhall$Counts", "all", "I", false)
  | _ => ("Eddyhall$Counts", "rounds", "J", false)
def tyX0 : Nat → FieldType := fun k => match k with
  | 0 => .array (.array .int)
  | 1 => .array (.array .int)
  | 2 => .int
  | _ => .long
theorem nmX0 : ∀ a, a < 4 → ∀ b, b < 4 → a ≠ b → (TX0 a).2.1 ≠ (TX0 b).2.1 := by decide +kernel
theorem tyX0_ok : ∀ k, k < 4 → parseFieldDescriptor (TX0 k).2.2.1 = some (tyX0 k) := by decide +kernel
abbrev cX0_init : ByteArray := prog_2_method_1_code
def yX0_init : MethodName := ⟨RX0, "<init>", "()V"⟩
abbrev cX0_areAt : ByteArray := prog_2_method_2_code
def yX0_areAt : MethodName := ⟨RX0, "areAt", "(I)Z"⟩
abbrev cX0_numberAt : ByteArray := prog_2_method_3_code
def yX0_numberAt : MethodName := ⟨RX0, "numberAt", "(II)I"⟩
abbrev cX0_passRound : ByteArray := prog_2_method_4_code
def yX0_passRound : MethodName := ⟨RX0, "passRound", "(LEddyhall$Water;)V"⟩
abbrev cX0_evenOut : ByteArray := prog_2_method_5_code
def yX0_evenOut : MethodName := ⟨RX0, "evenOut", "(I)V"⟩
abbrev cX0_shiftToUpright : ByteArray := prog_2_method_6_code
def yX0_shiftToUpright : MethodName := ⟨RX0, "shiftToUpright", "(II)V"⟩
abbrev cX0_moveAll : ByteArray := prog_2_method_7_code
def yX0_moveAll : MethodName := ⟨RX0, "moveAll", "(LEddyhall$Water;I)V"⟩
def RX1 : String := "Eddyhall$Probes"
def TX1 : u_T := fun k => match k with
  | 0 => ("Eddyhall$Probes", "cells", "[I", true)
  | 1 => ("Eddyhall$Probes", "recorded", "[I", true)
  | 2 => ("Eddyhall$Probes", "rows", "[[B", true)
  | _ => ("Eddyhall$Probes", "many", "I", false)
def tyX1 : Nat → FieldType := fun k => match k with
  | 0 => .array .int
  | 1 => .array .int
  | 2 => .array (.array .byte)
  | _ => .int
theorem nmX1 : ∀ a, a < 4 → ∀ b, b < 4 → a ≠ b → (TX1 a).2.1 ≠ (TX1 b).2.1 := by decide +kernel
theorem tyX1_ok : ∀ k, k < 4 → parseFieldDescriptor (TX1 k).2.2.1 = some (tyX1 k) := by decide +kernel
abbrev cX1_init : ByteArray := prog_3_method_1_code
def yX1_init : MethodName := ⟨RX1, "<init>", "()V"⟩
abbrev cX1_setInto : ByteArray := prog_3_method_2_code
def yX1_setInto : MethodName := ⟨RX1, "setInto", "(I)I"⟩
abbrev cX1_areAt : ByteArray := prog_3_method_3_code
def yX1_areAt : MethodName := ⟨RX1, "areAt", "(I)Z"⟩
abbrev cX1_recordAll : ByteArray := prog_3_method_4_code
def yX1_recordAll : MethodName := ⟨RX1, "recordAll", "(LEddyhall$Water;)V"⟩
abbrev cX1_loseLatest : ByteArray := prog_3_method_5_code
def yX1_loseLatest : MethodName := ⟨RX1, "loseLatest", "()V"⟩
abbrev cX1_changesOfSign : ByteArray := prog_3_method_6_code
def yX1_changesOfSign : MethodName := ⟨RX1, "changesOfSign", "(I)I"⟩
def RX2 : String := "Eddyhall$Tally"
def TX2 : u_T := fun k => match k with
  | 0 => ("Eddyhall$Tally", "cells", "J", false)
  | 1 => ("Eddyhall$Tally", "total", "J", false)
  | _ => ("Eddyhall$Tally", "squares", "J", false)
def tyX2 : Nat → FieldType := fun k => match k with
  | 0 => .long
  | 1 => .long
  | _ => .long
theorem nmX2 : ∀ a, a < 3 → ∀ b, b < 3 → a ≠ b → (TX2 a).2.1 ≠ (TX2 b).2.1 := by decide +kernel
theorem tyX2_ok : ∀ k, k < 3 → parseFieldDescriptor (TX2 k).2.2.1 = some (tyX2 k) := by decide +kernel
abbrev cX2_init : ByteArray := prog_4_method_1_code
def yX2_init : MethodName := ⟨RX2, "<init>", "()V"⟩
abbrev cX2_take : ByteArray := prog_4_method_2_code
def yX2_take : MethodName := ⟨RX2, "take", "(J)V"⟩
def RX3 : String := "Eddyhall$Water"
def TX3 : u_T := fun k => match k with
  | 0 => ("Eddyhall$Water", "kinds", "[I", true)
  | 1 => ("Eddyhall$Water", "bodies", "[I", true)
  | 2 => ("Eddyhall$Water", "particles", "[I", true)
  | 3 => ("Eddyhall$Water", "dyed", "[I", true)
  | 4 => ("Eddyhall$Water", "hoppedParticles", "[I", true)
  | 5 => ("Eddyhall$Water", "hoppedDyed", "[I", true)
  | 6 => ("Eddyhall$Water", "hits", "[I", true)
  | 7 => ("Eddyhall$Water", "pushRight", "[I", true)
  | 8 => ("Eddyhall$Water", "pushUp", "[I", true)
  | 9 => ("Eddyhall$Water", "came", "[I", true)
  | 10 => ("Eddyhall$Water", "gone", "[I", true)
  | 11 => ("Eddyhall$Water", "struck", "[I", true)
  | _ => ("Eddyhall$Water", "meetings", "I", false)
def tyX3 : Nat → FieldType := fun k => match k with
  | 0 => .array .int
  | 1 => .array .int
  | 2 => .array .int
  | 3 => .array .int
  | 4 => .array .int
  | 5 => .array .int
  | 6 => .array .int
  | 7 => .array .int
  | 8 => .array .int
  | 9 => .array .int
  | 10 => .array .int
  | 11 => .array .int
  | _ => .int
theorem nmX3 : ∀ a, a < 13 → ∀ b, b < 13 → a ≠ b → (TX3 a).2.1 ≠ (TX3 b).2.1 := by decide +kernel
theorem tyX3_ok : ∀ k, k < 13 → parseFieldDescriptor (TX3 k).2.2.1 = some (tyX3 k) := by decide +kernel
abbrev cX3_init : ByteArray := prog_5_method_1_code
def yX3_init : MethodName := ⟨RX3, "<init>", "()V"⟩
abbrev cX3_becomeLike : ByteArray := prog_5_method_2_code
def yX3_becomeLike : MethodName := ⟨RX3, "becomeLike", "(LEddyhall$Water;)V"⟩
abbrev cX3_makeFree : ByteArray := prog_5_method_3_code
def yX3_makeFree : MethodName := ⟨RX3, "makeFree", "(I)V"⟩
abbrev cX3_letIn : ByteArray := prog_5_method_4_code
def yX3_letIn : MethodName := ⟨RX3, "letIn", "(II)V"⟩
abbrev cX3_isShut : ByteArray := prog_5_method_5_code
def yX3_isShut : MethodName := ⟨RX3, "isShut", "(I)Z"⟩
abbrev cX3_isClosed : ByteArray := prog_5_method_6_code
def yX3_isClosed : MethodName := ⟨RX3, "isClosed", "()Z"⟩
abbrev cX3_isAllDyed : ByteArray := prog_5_method_7_code
def yX3_isAllDyed : MethodName := ⟨RX3, "isAllDyed", "(I)Z"⟩
abbrev cX3_isAllPlain : ByteArray := prog_5_method_8_code
def yX3_isAllPlain : MethodName := ⟨RX3, "isAllPlain", "(I)Z"⟩
abbrev cX3_cellsOfBody : ByteArray := prog_5_method_9_code
def yX3_cellsOfBody : MethodName := ⟨RX3, "cellsOfBody", "(I)I"⟩
abbrev cX3_numberAt : ByteArray := prog_5_method_10_code
def yX3_numberAt : MethodName := ⟨RX3, "numberAt", "(II)I"⟩
abbrev cX3_moreAt : ByteArray := prog_5_method_11_code
def yX3_moreAt : MethodName := ⟨RX3, "moreAt", "(II)I"⟩
abbrev cX3_goingMore : ByteArray := prog_5_method_12_code
def yX3_goingMore : MethodName := ⟨RX3, "goingMore", "(I)I"⟩
abbrev cX3_passStep : ByteArray := prog_5_method_13_code
def yX3_passStep : MethodName := ⟨RX3, "passStep", "()V"⟩
abbrev cX3_undoStep : ByteArray := prog_5_method_14_code
def yX3_undoStep : MethodName := ⟨RX3, "undoStep", "()V"⟩
abbrev cX3_turnMeetings : ByteArray := prog_5_method_15_code
def yX3_turnMeetings : MethodName := ⟨RX3, "turnMeetings", "(I)V"⟩
abbrev cX3_turnRound : ByteArray := prog_5_method_16_code
def yX3_turnRound : MethodName := ⟨RX3, "turnRound", "()V"⟩
abbrev cX3_hopAll : ByteArray := prog_5_method_17_code
def yX3_hopAll : MethodName := ⟨RX3, "hopAll", "(I)V"⟩
abbrev cX3_hopOne : ByteArray := prog_5_method_18_code
def yX3_hopOne : MethodName := ⟨RX3, "hopOne", "(III)V"⟩
abbrev cX3_countHit : ByteArray := prog_5_method_19_code
def yX3_countHit : MethodName := ⟨RX3, "countHit", "(III)V"⟩
abbrev cX3_emptyOutlets : ByteArray := prog_5_method_20_code
def yX3_emptyOutlets : MethodName := ⟨RX3, "emptyOutlets", "()V"⟩
abbrev cX3_fillInlets : ByteArray := prog_5_method_21_code
def yX3_fillInlets : MethodName := ⟨RX3, "fillInlets", "()V"⟩
def RX4 : String := "Eddyhall$Window"
def TX4 : u_T := fun k => match k with
  | 0 => ("Eddyhall$Window", "top", "I", true)
  | 1 => ("Eddyhall$Window", "leftmost", "I", true)
  | 2 => ("Eddyhall$Window", "rows", "I", true)
  | _ => ("Eddyhall$Window", "columns", "I", true)
def tyX4 : Nat → FieldType := fun k => match k with
  | 0 => .int
  | 1 => .int
  | 2 => .int
  | _ => .int
theorem nmX4 : ∀ a, a < 4 → ∀ b, b < 4 → a ≠ b → (TX4 a).2.1 ≠ (TX4 b).2.1 := by decide +kernel
theorem tyX4_ok : ∀ k, k < 4 → parseFieldDescriptor (TX4 k).2.2.1 = some (tyX4 k) := by decide +kernel
abbrev cX4_init : ByteArray := prog_6_method_1_code
def yX4_init : MethodName := ⟨RX4, "<init>", "(IIII)V"⟩
abbrev cX4_holds : ByteArray := prog_6_method_2_code
def yX4_holds : MethodName := ⟨RX4, "holds", "(I)Z"⟩
def RX5 : String := "Eddyhall"
def TX5 : u_T := fun k => match k with
  | 0 => ("Eddyhall", "water", "LEddyhall$Water;", true)
  | 1 => ("Eddyhall", "trial", "LEddyhall$Water;", true)
  | 2 => ("Eddyhall", "counts", "LEddyhall$Counts;", true)
  | 3 => ("Eddyhall", "probes", "LEddyhall$Probes;", true)
  | 4 => ("Eddyhall", "faults", "[I", true)
  | 5 => ("Eddyhall", "stepsSoFar", "I", false)
  | _ => ("Eddyhall", "reach", "I", false)
def tyX5 : Nat → FieldType := fun k => match k with
  | 0 => .object "Eddyhall$Water"
  | 1 => .object "Eddyhall$Water"
  | 2 => .object "Eddyhall$Counts"
  | 3 => .object "Eddyhall$Probes"
  | 4 => .array .int
  | 5 => .int
  | _ => .int
theorem nmX5 : ∀ a, a < 7 → ∀ b, b < 7 → a ≠ b → (TX5 a).2.1 ≠ (TX5 b).2.1 := by decide +kernel
theorem tyX5_ok : ∀ k, k < 7 → parseFieldDescriptor (TX5 k).2.2.1 = some (tyX5 k) := by decide +kernel
abbrev cX5_init : ByteArray := prog_1_method_1_code
def yX5_init : MethodName := ⟨RX5, "<init>", "()V"⟩
abbrev cX5_wall : ByteArray := prog_1_method_2_code
def yX5_wall : MethodName := ⟨RX5, "wall", "(II)V"⟩
abbrev cX5_clear : ByteArray := prog_1_method_3_code
def yX5_clear : MethodName := ⟨RX5, "clear", "(I)I"⟩
abbrev cX5_open : ByteArray := prog_1_method_4_code
def yX5_open : MethodName := ⟨RX5, "open", "(II)V"⟩
abbrev cX5_particle : ByteArray := prog_1_method_5_code
def yX5_particle : MethodName := ⟨RX5, "particle", "(II)I"⟩
abbrev cX5_ink : ByteArray := prog_1_method_6_code
def yX5_ink : MethodName := ⟨RX5, "ink", "(I)I"⟩
abbrev cX5_probe : ByteArray := prog_1_method_7_code
def yX5_probe : MethodName := ⟨RX5, "probe", "(I)I"⟩
abbrev cX5_fault : ByteArray := prog_1_method_8_code
def yX5_fault : MethodName := ⟨RX5, "fault", "(II)I"⟩
abbrev cX5_bring : ByteArray := prog_1_method_9_code
def yX5_bring : MethodName := ⟨RX5, "bring", "(III)I"⟩
abbrev cX5_step : ByteArray := prog_1_method_10_code
def yX5_step : MethodName := ⟨RX5, "step", "(I)I"⟩
abbrev cX5_back : ByteArray := prog_1_method_11_code
def yX5_back : MethodName := ⟨RX5, "back", "(I)I"⟩
abbrev cX5_flow : ByteArray := prog_1_method_12_code
def yX5_flow : MethodName := ⟨RX5, "flow", "(I)J"⟩
abbrev cX5_cellOf : ByteArray := prog_1_method_13_code
def yX5_cellOf : MethodName := ⟨RX5, "cellOf", "(II)I"⟩
abbrev cX5_bodyOf : ByteArray := prog_1_method_14_code
def yX5_bodyOf : MethodName := ⟨RX5, "bodyOf", "(II)I"⟩
abbrev cX5_sum : ByteArray := prog_1_method_15_code
def yX5_sum : MethodName := ⟨RX5, "sum", "(I)J"⟩
abbrev cX5_left : ByteArray := prog_1_method_16_code
def yX5_left : MethodName := ⟨RX5, "left", "(Z)J"⟩
abbrev cX5_average : ByteArray := prog_1_method_17_code
def yX5_average : MethodName := ⟨RX5, "average", "(ZIIIII)J"⟩
abbrev cX5_scatter : ByteArray := prog_1_method_18_code
def yX5_scatter : MethodName := ⟨RX5, "scatter", "(ZIIIII)J"⟩
abbrev cX5_likeness : ByteArray := prog_1_method_19_code
def yX5_likeness : MethodName := ⟨RX5, "likeness", "(IIII)F"⟩
abbrev cX5_ahead : ByteArray := prog_1_method_20_code
def yX5_ahead : MethodName := ⟨RX5, "ahead", "(II)I"⟩
abbrev cX5_aheadAnew : ByteArray := prog_1_method_21_code
def yX5_aheadAnew : MethodName := ⟨RX5, "aheadAnew", "(II)I"⟩
abbrev cX5_mixed : ByteArray := prog_1_method_22_code
def yX5_mixed : MethodName := ⟨RX5, "mixed", "(I)J"⟩
abbrev cX5_record : ByteArray := prog_1_method_23_code
def yX5_record : MethodName := ⟨RX5, "record", "(II)I"⟩
abbrev cX5_beat : ByteArray := prog_1_method_24_code
def yX5_beat : MethodName := ⟨RX5, "beat", "(I)I"⟩
abbrev cX5_better : ByteArray := prog_1_method_25_code
def yX5_better : MethodName := ⟨RX5, "better", "(II)I"⟩
abbrev cX5_isOutside : ByteArray := prog_1_method_26_code
def yX5_isOutside : MethodName := ⟨RX5, "isOutside", "(III)Z"⟩
abbrev cX5_isNoCell : ByteArray := prog_1_method_27_code
def yX5_isNoCell : MethodName := ⟨RX5, "isNoCell", "(I)Z"⟩
abbrev cX5_isNoBody : ByteArray := prog_1_method_28_code
def yX5_isNoBody : MethodName := ⟨RX5, "isNoBody", "(I)Z"⟩
abbrev cX5_isNoWindow : ByteArray := prog_1_method_29_code
def yX5_isNoWindow : MethodName := ⟨RX5, "isNoWindow", "(IIII)Z"⟩
abbrev cX5_opposite : ByteArray := prog_1_method_30_code
def yX5_opposite : MethodName := ⟨RX5, "opposite", "(I)I"⟩
abbrev cX5_has : ByteArray := prog_1_method_31_code
def yX5_has : MethodName := ⟨RX5, "has", "(II)Z"⟩
abbrev cX5_turned : ByteArray := prog_1_method_32_code
def yX5_turned : MethodName := ⟨RX5, "turned", "(II)I"⟩
abbrev cX5_isMeeting : ByteArray := prog_1_method_33_code
def yX5_isMeeting : MethodName := ⟨RX5, "isMeeting", "(I)Z"⟩
abbrev cX5_beside : ByteArray := prog_1_method_34_code
def yX5_beside : MethodName := ⟨RX5, "beside", "(II)I"⟩
abbrev cX5_bitsOf : ByteArray := prog_1_method_35_code
def yX5_bitsOf : MethodName := ⟨RX5, "bitsOf", "([I)I"⟩
abbrev cX5_mayBeWall : ByteArray := prog_1_method_36_code
def yX5_mayBeWall : MethodName := ⟨RX5, "mayBeWall", "(I)Z"⟩
abbrev cX5_tallyOf : ByteArray := prog_1_method_37_code
def yX5_tallyOf : MethodName := ⟨RX5, "tallyOf", "(ZILEddyhall$Window;)LEddyhall$Tally;"⟩
abbrev cX5_arrived : ByteArray := prog_1_method_38_code
def yX5_arrived : MethodName := ⟨RX5, "arrived", "(LEddyhall$Water;II)I"⟩
abbrev cX5_edgesOfInk : ByteArray := prog_1_method_39_code
def yX5_edgesOfInk : MethodName := ⟨RX5, "edgesOfInk", "()I"⟩
abbrev cX5_isEdgeOfInk : ByteArray := prog_1_method_40_code
def yX5_isEdgeOfInk : MethodName := ⟨RX5, "isEdgeOfInk", "(II)Z"⟩
abbrev cX5_unevenInk : ByteArray := prog_1_method_41_code
def yX5_unevenInk : MethodName := ⟨RX5, "unevenInk", "()J"⟩
abbrev cX5_bitsWithin : ByteArray := prog_1_method_42_code
def yX5_bitsWithin : MethodName := ⟨RX5, "bitsWithin", "(LEddyhall$Window;[I)I"⟩
abbrev cX5_pushWithout : ByteArray := prog_1_method_43_code
def yX5_pushWithout : MethodName := ⟨RX5, "pushWithout", "(III)I"⟩
def RX6 : String := "EddyhallModel"
def TX6 : u_T := fun k => match k with
  | 0 => ("EddyhallModel", "refusal", "I", false)
  | 1 => ("EddyhallModel", "kind", "[I", true)
  | 2 => ("EddyhallModel", "bodyAt", "[I", true)
  | 3 => ("EddyhallModel", "here", "[I", true)
  | 4 => ("EddyhallModel", "dyed", "[I", true)
  | 5 => ("EddyhallModel", "nextHere", "[I", true)
  | 6 => ("EddyhallModel", "nextDyed", "[I", true)
  | 7 => ("EddyhallModel", "tryHere", "[I", true)
  | 8 => ("EddyhallModel", "tryDyed", "[I", true)
  | 9 => ("EddyhallModel", "counts", "[I", true)
  | 10 => ("EddyhallModel", "nextCounts", "[I", true)
  | 11 => ("EddyhallModel", "pushed", "[I", true)
  | 12 => ("EddyhallModel", "faults", "[I", true)
  | 13 => ("EddyhallModel", "tally", "[I", true)
  | 14 => ("EddyhallModel", "met", "I", false)
  | 15 => ("EddyhallModel", "steps", "I", false)
  | 16 => ("EddyhallModel", "reach", "I", false)
  | 17 => ("EddyhallModel", "meetings", "J", false)
  | 18 => ("EddyhallModel", "rounds", "J", false)
  | 19 => ("EddyhallModel", "probes", "I", false)
  | 20 => ("EddyhallModel", "probeAt", "[I", true)
  | 21 => ("EddyhallModel", "records", "[I", true)
  | 22 => ("EddyhallModel", "record", "[I", true)
  | 23 => ("EddyhallModel", "cells", "J", false)
  | 24 => ("EddyhallModel", "sum", "J", false)
  | _ => ("EddyhallModel", "squares", "J", false)
def tyX6 : Nat → FieldType := fun k => match k with
  | 0 => .int
  | 1 => .array .int
  | 2 => .array .int
  | 3 => .array .int
  | 4 => .array .int
  | 5 => .array .int
  | 6 => .array .int
  | 7 => .array .int
  | 8 => .array .int
  | 9 => .array .int
  | 10 => .array .int
  | 11 => .array .int
  | 12 => .array .int
  | 13 => .array .int
  | 14 => .int
  | 15 => .int
  | 16 => .int
  | 17 => .long
  | 18 => .long
  | 19 => .int
  | 20 => .array .int
  | 21 => .array .int
  | 22 => .array .int
  | 23 => .long
  | 24 => .long
  | _ => .long
theorem nmX6 : ∀ a, a < 26 → ∀ b, b < 26 → a ≠ b → (TX6 a).2.1 ≠ (TX6 b).2.1 := by decide +kernel
theorem tyX6_ok : ∀ k, k < 26 → parseFieldDescriptor (TX6 k).2.2.1 = some (tyX6 k) := by decide +kernel
abbrev cX6_init : ByteArray := prog_8_method_1_code
def yX6_init : MethodName := ⟨RX6, "<init>", "()V"⟩
abbrev cX6_thrown : ByteArray := prog_8_method_2_code
def yX6_thrown : MethodName := ⟨RX6, "thrown", "()I"⟩
abbrev cX6_refused : ByteArray := prog_8_method_3_code
def yX6_refused : MethodName := ⟨RX6, "refused", "(I)Z"⟩
abbrev cX6_within : ByteArray := prog_8_method_4_code
def yX6_within : MethodName := ⟨RX6, "within", "(III)Z"⟩
abbrev cX6_isCell : ByteArray := prog_8_method_5_code
def yX6_isCell : MethodName := ⟨RX6, "isCell", "(I)Z"⟩
abbrev cX6_beside : ByteArray := prog_8_method_6_code
def yX6_beside : MethodName := ⟨RX6, "beside", "(II)I"⟩
abbrev cX6_blocks : ByteArray := prog_8_method_7_code
def yX6_blocks : MethodName := ⟨RX6, "blocks", "(I)Z"⟩
abbrev cX6_many : ByteArray := prog_8_method_8_code
def yX6_many : MethodName := ⟨RX6, "many", "(I)I"⟩
abbrev cX6_opposite : ByteArray := prog_8_method_9_code
def yX6_opposite : MethodName := ⟨RX6, "opposite", "(I)I"⟩
abbrev cX6_cellsOf : ByteArray := prog_8_method_10_code
def yX6_cellsOf : MethodName := ⟨RX6, "cellsOf", "(I)I"⟩
abbrev cX6_hasProbe : ByteArray := prog_8_method_11_code
def yX6_hasProbe : MethodName := ⟨RX6, "hasProbe", "(I)Z"⟩
abbrev cX6_canBeWall : ByteArray := prog_8_method_12_code
def yX6_canBeWall : MethodName := ⟨RX6, "canBeWall", "(II)Z"⟩
abbrev cX6_wall : ByteArray := prog_8_method_13_code
def yX6_wall : MethodName := ⟨RX6, "wall", "(II)V"⟩
abbrev cX6_clear : ByteArray := prog_8_method_14_code
def yX6_clear : MethodName := ⟨RX6, "clear", "(I)I"⟩
abbrev cX6_open : ByteArray := prog_8_method_15_code
def yX6_open : MethodName := ⟨RX6, "open", "(II)V"⟩
abbrev cX6_particle : ByteArray := prog_8_method_16_code
def yX6_particle : MethodName := ⟨RX6, "particle", "(II)I"⟩
abbrev cX6_ink : ByteArray := prog_8_method_17_code
def yX6_ink : MethodName := ⟨RX6, "ink", "(I)I"⟩
abbrev cX6_probe : ByteArray := prog_8_method_18_code
def yX6_probe : MethodName := ⟨RX6, "probe", "(I)I"⟩
abbrev cX6_fault : ByteArray := prog_8_method_19_code
def yX6_fault : MethodName := ⟨RX6, "fault", "(II)I"⟩
abbrev cX6_allCounts : ByteArray := prog_8_method_20_code
def yX6_allCounts : MethodName := ⟨RX6, "allCounts", "()J"⟩
abbrev cX6_bring : ByteArray := prog_8_method_21_code
def yX6_bring : MethodName := ⟨RX6, "bring", "(III)I"⟩
abbrev cX6_turned : ByteArray := prog_8_method_22_code
def yX6_turned : MethodName := ⟨RX6, "turned", "(I)I"⟩
abbrev cX6_meets : ByteArray := prog_8_method_23_code
def yX6_meets : MethodName := ⟨RX6, "meets", "(I)Z"⟩
abbrev cX6_advance : ByteArray := prog_8_method_24_code
def yX6_advance : MethodName := ⟨RX6, "advance", "([I[I)V"⟩
abbrev cX6_hit : ByteArray := prog_8_method_25_code
def yX6_hit : MethodName := ⟨RX6, "hit", "(II)V"⟩
abbrev cX6_hasOpen : ByteArray := prog_8_method_26_code
def yX6_hasOpen : MethodName := ⟨RX6, "hasOpen", "()Z"⟩
abbrev cX6_step : ByteArray := prog_8_method_27_code
def yX6_step : MethodName := ⟨RX6, "step", "(I)I"⟩
abbrev cX6_unhop : ByteArray := prog_8_method_28_code
def yX6_unhop : MethodName := ⟨RX6, "unhop", "(II)V"⟩
abbrev cX6_retreat : ByteArray := prog_8_method_29_code
def yX6_retreat : MethodName := ⟨RX6, "retreat", "()V"⟩
abbrev cX6_back : ByteArray := prog_8_method_30_code
def yX6_back : MethodName := ⟨RX6, "back", "(I)I"⟩
abbrev cX6_meet : ByteArray := prog_8_method_31_code
def yX6_meet : MethodName := ⟨RX6, "meet", "(I)V"⟩
abbrev cX6_flow : ByteArray := prog_8_method_32_code
def yX6_flow : MethodName := ⟨RX6, "flow", "(I)J"⟩
abbrev cX6_cellOf : ByteArray := prog_8_method_33_code
def yX6_cellOf : MethodName := ⟨RX6, "cellOf", "(II)I"⟩
abbrev cX6_bodyOf : ByteArray := prog_8_method_34_code
def yX6_bodyOf : MethodName := ⟨RX6, "bodyOf", "(II)I"⟩
abbrev cX6_rightOf : ByteArray := prog_8_method_35_code
def yX6_rightOf : MethodName := ⟨RX6, "rightOf", "(I)I"⟩
abbrev cX6_upOf : ByteArray := prog_8_method_36_code
def yX6_upOf : MethodName := ⟨RX6, "upOf", "(I)I"⟩
abbrev cX6_sum : ByteArray := prog_8_method_37_code
def yX6_sum : MethodName := ⟨RX6, "sum", "(I)J"⟩
abbrev cX6_left : ByteArray := prog_8_method_38_code
def yX6_left : MethodName := ⟨RX6, "left", "(Z)J"⟩
abbrev cX6_isWindow : ByteArray := prog_8_method_39_code
def yX6_isWindow : MethodName := ⟨RX6, "isWindow", "(IIII)Z"⟩
abbrev cX6_seen : ByteArray := prog_8_method_40_code
def yX6_seen : MethodName := ⟨RX6, "seen", "(ZII)J"⟩
abbrev cX6_look : ByteArray := prog_8_method_41_code
def yX6_look : MethodName := ⟨RX6, "look", "(ZIIIII)V"⟩
abbrev cX6_average : ByteArray := prog_8_method_42_code
def yX6_average : MethodName := ⟨RX6, "average", "(ZIIIII)J"⟩
abbrev cX6_scatter : ByteArray := prog_8_method_43_code
def yX6_scatter : MethodName := ⟨RX6, "scatter", "(ZIIIII)J"⟩
abbrev cX6_likeness : ByteArray := prog_8_method_44_code
def yX6_likeness : MethodName := ⟨RX6, "likeness", "(IIII)F"⟩
abbrev cX6_copy : ByteArray := prog_8_method_45_code
def yX6_copy : MethodName := ⟨RX6, "copy", "()V"⟩
abbrev cX6_ahead : ByteArray := prog_8_method_46_code
def yX6_ahead : MethodName := ⟨RX6, "ahead", "(II)I"⟩
abbrev cX6_aheadAnew : ByteArray := prog_8_method_47_code
def yX6_aheadAnew : MethodName := ⟨RX6, "aheadAnew", "(II)I"⟩
abbrev cX6_shade : ByteArray := prog_8_method_48_code
def yX6_shade : MethodName := ⟨RX6, "shade", "(I)I"⟩
abbrev cX6_pairs : ByteArray := prog_8_method_49_code
def yX6_pairs : MethodName := ⟨RX6, "pairs", "()J"⟩
abbrev cX6_blocksOff : ByteArray := prog_8_method_50_code
def yX6_blocksOff : MethodName := ⟨RX6, "blocksOff", "()J"⟩
abbrev cX6_mixed : ByteArray := prog_8_method_51_code
def yX6_mixed : MethodName := ⟨RX6, "mixed", "(I)J"⟩
abbrev cX6_record : ByteArray := prog_8_method_52_code
def yX6_record : MethodName := ⟨RX6, "record", "(II)I"⟩
abbrev cX6_beat : ByteArray := prog_8_method_53_code
def yX6_beat : MethodName := ⟨RX6, "beat", "(I)I"⟩
abbrev cX6_pushIn : ByteArray := prog_8_method_54_code
def yX6_pushIn : MethodName := ⟨RX6, "pushIn", "(II)I"⟩
abbrev cX6_better : ByteArray := prog_8_method_55_code
def yX6_better : MethodName := ⟨RX6, "better", "(II)I"⟩
def RJx145de : String := "java/io/Serializable"
def TJx145de : u_T := fun k => match k with
  | _ => ("", "", "", false)
def tyJx145de : Nat → FieldType := fun k => match k with
  | _ => .int
theorem nmJx145de : ∀ a, a < 0 → ∀ b, b < 0 → a ≠ b → (TJx145de a).2.1 ≠ (TJx145de b).2.1 := by decide +kernel
theorem tyJx145de_ok : ∀ k, k < 0 → parseFieldDescriptor (TJx145de k).2.2.1 = some (tyJx145de k) := by decide +kernel
def RJ6 : String := "java/lang/Integer"
def TJ6 : u_T := fun k => match k with
  | _ => ("", "", "", false)
def tyJ6 : Nat → FieldType := fun k => match k with
  | _ => .int
theorem nmJ6 : ∀ a, a < 0 → ∀ b, b < 0 → a ≠ b → (TJ6 a).2.1 ≠ (TJ6 b).2.1 := by decide +kernel
theorem tyJ6_ok : ∀ k, k < 0 → parseFieldDescriptor (TJ6 k).2.2.1 = some (tyJ6 k) := by decide +kernel
abbrev cJ6_bitCount_0f7a4 : ByteArray := prog_13_method_49_code
def yJ6_bitCount_0f7a4 : MethodName := ⟨RJ6, "bitCount", "(I)I"⟩
def RJ9 : String := "java/lang/Math"
def TJ9 : u_T := fun k => match k with
  | _ => ("", "", "", false)
def tyJ9 : Nat → FieldType := fun k => match k with
  | _ => .int
theorem nmJ9 : ∀ a, a < 0 → ∀ b, b < 0 → a ≠ b → (TJ9 a).2.1 ≠ (TJ9 b).2.1 := by decide +kernel
theorem tyJ9_ok : ∀ k, k < 0 → parseFieldDescriptor (TJ9 k).2.2.1 = some (tyJ9 k) := by decide +kernel
abbrev cJ9_floorDiv_f86c9 : ByteArray := prog_14_method_49_code
def yJ9_floorDiv_f86c9 : MethodName := ⟨RJ9, "floorDiv", "(JJ)J"⟩
abbrev cJ9_floorMod_7cf53 : ByteArray := prog_14_method_50_code
def yJ9_floorMod_7cf53 : MethodName := ⟨RJ9, "floorMod", "(II)I"⟩
abbrev cJ9_abs_067f4 : ByteArray := prog_14_method_61_code
def yJ9_abs_067f4 : MethodName := ⟨RJ9, "abs", "(J)J"⟩
abbrev cJ9_min_7cf53 : ByteArray := prog_14_method_69_code
def yJ9_min_7cf53 : MethodName := ⟨RJ9, "min", "(II)I"⟩
def RJ10 : String := "java/lang/System"
def TJ10 : u_T := fun k => match k with
  | _ => ("", "", "", false)
def tyJ10 : Nat → FieldType := fun k => match k with
  | _ => .int
theorem nmJ10 : ∀ a, a < 0 → ∀ b, b < 0 → a ≠ b → (TJ10 a).2.1 ≠ (TJ10 b).2.1 := by decide +kernel
theorem tyJ10_ok : ∀ k, k < 0 → parseFieldDescriptor (TJ10 k).2.2.1 = some (tyJ10 k) := by decide +kernel
def RJ7 : String := "java/util/Arrays"
def TJ7 : u_T := fun k => match k with
  | _ => ("", "", "", false)
def tyJ7 : Nat → FieldType := fun k => match k with
  | _ => .int
theorem nmJ7 : ∀ a, a < 0 → ∀ b, b < 0 → a ≠ b → (TJ7 a).2.1 ≠ (TJ7 b).2.1 := by decide +kernel
theorem tyJ7_ok : ∀ k, k < 0 → parseFieldDescriptor (TJ7 k).2.2.1 = some (tyJ7 k) := by decide +kernel
abbrev cJ7_fill_53178 : ByteArray := prog_18_method_103_code
def yJ7_fill_53178 : MethodName := ⟨RJ7, "fill", "([II)V"⟩
def RL : String := "EddyhallLaw"
abbrev cL_wall : ByteArray := method_3_code
def yL_wall : MethodName := ⟨RL, "wall", "(LEddyhall;II)I"⟩
abbrev cL_clear : ByteArray := method_4_code
def yL_clear : MethodName := ⟨RL, "clear", "(LEddyhall;I[J)I"⟩
abbrev cL_open : ByteArray := method_5_code
def yL_open : MethodName := ⟨RL, "open", "(LEddyhall;II)I"⟩
abbrev cL_particle : ByteArray := method_6_code
def yL_particle : MethodName := ⟨RL, "particle", "(LEddyhall;II[J)I"⟩
abbrev cL_ink : ByteArray := method_7_code
def yL_ink : MethodName := ⟨RL, "ink", "(LEddyhall;I[J)I"⟩
abbrev cL_probe : ByteArray := method_8_code
def yL_probe : MethodName := ⟨RL, "probe", "(LEddyhall;I[J)I"⟩
abbrev cL_fault : ByteArray := method_9_code
def yL_fault : MethodName := ⟨RL, "fault", "(LEddyhall;II[J)I"⟩
abbrev cL_bring : ByteArray := method_10_code
def yL_bring : MethodName := ⟨RL, "bring", "(LEddyhall;III[J)I"⟩
abbrev cL_step : ByteArray := method_11_code
def yL_step : MethodName := ⟨RL, "step", "(LEddyhall;I[J)I"⟩
abbrev cL_back : ByteArray := method_12_code
def yL_back : MethodName := ⟨RL, "back", "(LEddyhall;I[J)I"⟩
abbrev cL_flow : ByteArray := method_13_code
def yL_flow : MethodName := ⟨RL, "flow", "(LEddyhall;I[J)I"⟩
abbrev cL_cellOf : ByteArray := method_14_code
def yL_cellOf : MethodName := ⟨RL, "cellOf", "(LEddyhall;II[J)I"⟩
abbrev cL_bodyOf : ByteArray := method_15_code
def yL_bodyOf : MethodName := ⟨RL, "bodyOf", "(LEddyhall;II[J)I"⟩
abbrev cL_sum : ByteArray := method_16_code
def yL_sum : MethodName := ⟨RL, "sum", "(LEddyhall;I[J)I"⟩
abbrev cL_average : ByteArray := method_17_code
def yL_average : MethodName := ⟨RL, "average", "(LEddyhall;ZIIIII[J)I"⟩
abbrev cL_scatter : ByteArray := method_18_code
def yL_scatter : MethodName := ⟨RL, "scatter", "(LEddyhall;ZIIIII[J)I"⟩
abbrev cL_likeness : ByteArray := method_19_code
def yL_likeness : MethodName := ⟨RL, "likeness", "(LEddyhall;IIII[D)I"⟩
abbrev cL_ahead : ByteArray := method_20_code
def yL_ahead : MethodName := ⟨RL, "ahead", "(LEddyhall;II[J)I"⟩
abbrev cL_aheadAnew : ByteArray := method_21_code
def yL_aheadAnew : MethodName := ⟨RL, "aheadAnew", "(LEddyhall;II[J)I"⟩
abbrev cL_mixed : ByteArray := method_22_code
def yL_mixed : MethodName := ⟨RL, "mixed", "(LEddyhall;I[J)I"⟩
abbrev cL_record : ByteArray := method_23_code
def yL_record : MethodName := ⟨RL, "record", "(LEddyhall;II[J)I"⟩
abbrev cL_beat : ByteArray := method_24_code
def yL_beat : MethodName := ⟨RL, "beat", "(LEddyhall;I[J)I"⟩
abbrev cL_better : ByteArray := method_25_code
def yL_better : MethodName := ⟨RL, "better", "(LEddyhall;II[J)I"⟩
abbrev cL_law : ByteArray := code
def yL_law : MethodName := ⟨RL, "law", "([I)Z"⟩
end
section
theorem dX0_init_0 : decode cX0_init 0 = .ok (.aload_n 0, 1) := by decide +kernel
theorem dX0_init_1 : decode cX0_init 1 = .ok (.invokespecial 3, 3) := by decide +kernel
theorem dX0_init_4 : decode cX0_init 4 = .ok (.aload_n 0, 1) := by decide +kernel
theorem dX0_init_5 : decode cX0_init 5 = .ok (.iconst 4, 1) := by decide +kernel
theorem dX0_init_6 : decode cX0_init 6 = .ok (.bipush 96, 2) := by decide +kernel
theorem dX0_init_8 : decode cX0_init 8 = .ok (.multianewarray 9 2, 4) := by decide +kernel
theorem dX0_init_12 : decode cX0_init 12 = .ok (.putfield 11, 3) := by decide +kernel
theorem dX0_init_15 : decode cX0_init 15 = .ok (.aload_n 0, 1) := by decide +kernel
theorem dX0_init_16 : decode cX0_init 16 = .ok (.iconst 4, 1) := by decide +kernel
theorem dX0_init_17 : decode cX0_init 17 = .ok (.bipush 96, 2) := by decide +kernel
theorem dX0_init_19 : decode cX0_init 19 = .ok (.multianewarray 9 2, 4) := by decide +kernel
theorem dX0_init_23 : decode cX0_init 23 = .ok (.putfield 16, 3) := by decide +kernel
theorem dX0_init_26 : decode cX0_init 26 = .ok (.return_, 1) := by decide +kernel
theorem dX0_areAt_0 : decode cX0_areAt 0 = .ok (.aload_n 0, 1) := by decide +kernel
theorem dX0_areAt_1 : decode cX0_areAt 1 = .ok (.getfield 11, 3) := by decide +kernel
theorem dX0_areAt_4 : decode cX0_areAt 4 = .ok (.astore_n 2, 1) := by decide +kernel
theorem dX0_areAt_5 : decode cX0_areAt 5 = .ok (.aload_n 2, 1) := by decide +kernel
theorem dX0_areAt_6 : decode cX0_areAt 6 = .ok (.arraylength, 1) := by decide +kernel
theorem dX0_areAt_7 : decode cX0_areAt 7 = .ok (.istore_n 3, 1) := by decide +kernel
theorem dX0_areAt_8 : decode cX0_areAt 8 = .ok (.iconst 0, 1) := by decide +kernel
theorem dX0_areAt_9 : decode cX0_areAt 9 = .ok (.istore 4, 2) := by decide +kernel
theorem dX0_areAt_11 : decode cX0_areAt 11 = .ok (.iload 4, 2) := by decide +kernel
theorem dX0_areAt_13 : decode cX0_areAt 13 = .ok (.iload_n 3, 1) := by decide +kernel
theorem dX0_areAt_14 : decode cX0_areAt 14 = .ok (.if_icmp .ge 24, 3) := by decide +kernel
theorem dX0_areAt_17 : decode cX0_areAt 17 = .ok (.aload_n 2, 1) := by decide +kernel
theorem dX0_areAt_18 : decode cX0_areAt 18 = .ok (.iload 4, 2) := by decide +kernel
theorem dX0_areAt_20 : decode cX0_areAt 20 = .ok (.aaload, 1) := by decide +kernel
theorem dX0_areAt_21 : decode cX0_areAt 21 = .ok (.astore 5, 2) := by decide +kernel
theorem dX0_areAt_23 : decode cX0_areAt 23 = .ok (.aload 5, 2) := by decide +kernel
theorem dX0_areAt_25 : decode cX0_areAt 25 = .ok (.iload_n 1, 1) := by decide +kernel
theorem dX0_areAt_26 : decode cX0_areAt 26 = .ok (.iaload, 1) := by decide +kernel
theorem dX0_areAt_27 : decode cX0_areAt 27 = .ok (.ifCond .le 5, 3) := by decide +kernel
theorem dX0_areAt_30 : decode cX0_areAt 30 = .ok (.iconst 1, 1) := by decide +kernel
theorem dX0_areAt_31 : decode cX0_areAt 31 = .ok (.ireturn, 1) := by decide +kernel
theorem dX0_areAt_32 : decode cX0_areAt 32 = .ok (.iinc 4 1, 3) := by decide +kernel
theorem dX0_areAt_35 : decode cX0_areAt 35 = .ok (.goto (-24), 3) := by decide +kernel
theorem dX0_areAt_38 : decode cX0_areAt 38 = .ok (.iconst 0, 1) := by decide +kernel
theorem dX0_areAt_39 : decode cX0_areAt 39 = .ok (.ireturn, 1) := by decide +kernel
theorem dX0_numberAt_0 : decode cX0_numberAt 0 = .ok (.aload_n 0, 1) := by decide +kernel
theorem dX0_numberAt_1 : decode cX0_numberAt 1 = .ok (.getfield 11, 3) := by decide +kernel
theorem dX0_numberAt_4 : decode cX0_numberAt 4 = .ok (.iconst 0, 1) := by decide +kernel
theorem dX0_numberAt_5 : decode cX0_numberAt 5 = .ok (.aaload, 1) := by decide +kernel
theorem dX0_numberAt_6 : decode cX0_numberAt 6 = .ok (.iload_n 1, 1) := by decide +kernel
theorem dX0_numberAt_7 : decode cX0_numberAt 7 = .ok (.iaload, 1) := by decide +kernel
theorem dX0_numberAt_8 : decode cX0_numberAt 8 = .ok (.aload_n 0, 1) := by decide +kernel
theorem dX0_numberAt_9 : decode cX0_numberAt 9 = .ok (.getfield 11, 3) := by decide +kernel
theorem dX0_numberAt_12 : decode cX0_numberAt 12 = .ok (.iconst 2, 1) := by decide +kernel
theorem dX0_numberAt_13 : decode cX0_numberAt 13 = .ok (.aaload, 1) := by decide +kernel
theorem dX0_numberAt_14 : decode cX0_numberAt 14 = .ok (.iload_n 1, 1) := by decide +kernel
theorem dX0_numberAt_15 : decode cX0_numberAt 15 = .ok (.iaload, 1) := by decide +kernel
theorem dX0_numberAt_16 : decode cX0_numberAt 16 = .ok (.iadd, 1) := by decide +kernel
theorem dX0_numberAt_17 : decode cX0_numberAt 17 = .ok (.istore_n 3, 1) := by decide +kernel
theorem dX0_numberAt_18 : decode cX0_numberAt 18 = .ok (.aload_n 0, 1) := by decide +kernel
theorem dX0_numberAt_19 : decode cX0_numberAt 19 = .ok (.getfield 11, 3) := by decide +kernel
theorem dX0_numberAt_22 : decode cX0_numberAt 22 = .ok (.iconst 1, 1) := by decide +kernel
theorem dX0_numberAt_23 : decode cX0_numberAt 23 = .ok (.aaload, 1) := by decide +kernel
theorem dX0_numberAt_24 : decode cX0_numberAt 24 = .ok (.iload_n 1, 1) := by decide +kernel
theorem dX0_numberAt_25 : decode cX0_numberAt 25 = .ok (.iaload, 1) := by decide +kernel
theorem dX0_numberAt_26 : decode cX0_numberAt 26 = .ok (.aload_n 0, 1) := by decide +kernel
theorem dX0_numberAt_27 : decode cX0_numberAt 27 = .ok (.getfield 11, 3) := by decide +kernel
theorem dX0_numberAt_30 : decode cX0_numberAt 30 = .ok (.iconst 3, 1) := by decide +kernel
theorem dX0_numberAt_31 : decode cX0_numberAt 31 = .ok (.aaload, 1) := by decide +kernel
theorem dX0_numberAt_32 : decode cX0_numberAt 32 = .ok (.iload_n 1, 1) := by decide +kernel
theorem dX0_numberAt_33 : decode cX0_numberAt 33 = .ok (.iaload, 1) := by decide +kernel
theorem dX0_numberAt_34 : decode cX0_numberAt 34 = .ok (.iadd, 1) := by decide +kernel
theorem dX0_numberAt_35 : decode cX0_numberAt 35 = .ok (.istore 4, 2) := by decide +kernel
theorem dX0_numberAt_37 : decode cX0_numberAt 37 = .ok (.iload_n 2, 1) := by decide +kernel
theorem dX0_numberAt_38 : decode cX0_numberAt 38 = .ok (.ifCond .ne 8, 3) := by decide +kernel
theorem dX0_numberAt_41 : decode cX0_numberAt 41 = .ok (.iload_n 3, 1) := by decide +kernel
theorem dX0_numberAt_42 : decode cX0_numberAt 42 = .ok (.iload 4, 2) := by decide +kernel
theorem dX0_numberAt_44 : decode cX0_numberAt 44 = .ok (.iadd, 1) := by decide +kernel
theorem dX0_numberAt_45 : decode cX0_numberAt 45 = .ok (.ireturn, 1) := by decide +kernel
theorem dX0_numberAt_46 : decode cX0_numberAt 46 = .ok (.iload_n 2, 1) := by decide +kernel
theorem dX0_numberAt_47 : decode cX0_numberAt 47 = .ok (.iconst 1, 1) := by decide +kernel
theorem dX0_numberAt_48 : decode cX0_numberAt 48 = .ok (.if_icmp .ne 23, 3) := by decide +kernel
theorem dX0_numberAt_51 : decode cX0_numberAt 51 = .ok (.aload_n 0, 1) := by decide +kernel
theorem dX0_numberAt_52 : decode cX0_numberAt 52 = .ok (.getfield 11, 3) := by decide +kernel
theorem dX0_numberAt_55 : decode cX0_numberAt 55 = .ok (.iconst 0, 1) := by decide +kernel
theorem dX0_numberAt_56 : decode cX0_numberAt 56 = .ok (.aaload, 1) := by decide +kernel
theorem dX0_numberAt_57 : decode cX0_numberAt 57 = .ok (.iload_n 1, 1) := by decide +kernel
theorem dX0_numberAt_58 : decode cX0_numberAt 58 = .ok (.iaload, 1) := by decide +kernel
theorem dX0_numberAt_59 : decode cX0_numberAt 59 = .ok (.aload_n 0, 1) := by decide +kernel
theorem dX0_numberAt_60 : decode cX0_numberAt 60 = .ok (.getfield 11, 3) := by decide +kernel
theorem dX0_numberAt_63 : decode cX0_numberAt 63 = .ok (.iconst 2, 1) := by decide +kernel
theorem dX0_numberAt_64 : decode cX0_numberAt 64 = .ok (.aaload, 1) := by decide +kernel
theorem dX0_numberAt_65 : decode cX0_numberAt 65 = .ok (.iload_n 1, 1) := by decide +kernel
theorem dX0_numberAt_66 : decode cX0_numberAt 66 = .ok (.iaload, 1) := by decide +kernel
theorem dX0_numberAt_67 : decode cX0_numberAt 67 = .ok (.isub, 1) := by decide +kernel
theorem dX0_numberAt_68 : decode cX0_numberAt 68 = .ok (.goto 20, 3) := by decide +kernel
theorem dX0_numberAt_71 : decode cX0_numberAt 71 = .ok (.aload_n 0, 1) := by decide +kernel
theorem dX0_numberAt_72 : decode cX0_numberAt 72 = .ok (.getfield 11, 3) := by decide +kernel
theorem dX0_numberAt_75 : decode cX0_numberAt 75 = .ok (.iconst 1, 1) := by decide +kernel
theorem dX0_numberAt_76 : decode cX0_numberAt 76 = .ok (.aaload, 1) := by decide +kernel
theorem dX0_numberAt_77 : decode cX0_numberAt 77 = .ok (.iload_n 1, 1) := by decide +kernel
theorem dX0_numberAt_78 : decode cX0_numberAt 78 = .ok (.iaload, 1) := by decide +kernel
theorem dX0_numberAt_79 : decode cX0_numberAt 79 = .ok (.aload_n 0, 1) := by decide +kernel
theorem dX0_numberAt_80 : decode cX0_numberAt 80 = .ok (.getfield 11, 3) := by decide +kernel
theorem dX0_numberAt_83 : decode cX0_numberAt 83 = .ok (.iconst 3, 1) := by decide +kernel
theorem dX0_numberAt_84 : decode cX0_numberAt 84 = .ok (.aaload, 1) := by decide +kernel
theorem dX0_numberAt_85 : decode cX0_numberAt 85 = .ok (.iload_n 1, 1) := by decide +kernel
theorem dX0_numberAt_86 : decode cX0_numberAt 86 = .ok (.iaload, 1) := by decide +kernel
theorem dX0_numberAt_87 : decode cX0_numberAt 87 = .ok (.isub, 1) := by decide +kernel
theorem dX0_numberAt_88 : decode cX0_numberAt 88 = .ok (.ireturn, 1) := by decide +kernel
theorem dX0_passRound_0 : decode cX0_passRound 0 = .ok (.iconst 0, 1) := by decide +kernel
theorem dX0_passRound_1 : decode cX0_passRound 1 = .ok (.istore_n 2, 1) := by decide +kernel
theorem dX0_passRound_2 : decode cX0_passRound 2 = .ok (.iload_n 2, 1) := by decide +kernel
theorem dX0_passRound_3 : decode cX0_passRound 3 = .ok (.bipush 96, 2) := by decide +kernel
theorem dX0_passRound_5 : decode cX0_passRound 5 = .ok (.if_icmp .ge 14, 3) := by decide +kernel
theorem dX0_passRound_8 : decode cX0_passRound 8 = .ok (.aload_n 0, 1) := by decide +kernel
theorem dX0_passRound_9 : decode cX0_passRound 9 = .ok (.iload_n 2, 1) := by decide +kernel
theorem dX0_passRound_10 : decode cX0_passRound 10 = .ok (.invokevirtual 19, 3) := by decide +kernel
theorem dX0_passRound_13 : decode cX0_passRound 13 = .ok (.iinc 2 1, 3) := by decide +kernel
theorem dX0_passRound_16 : decode cX0_passRound 16 = .ok (.goto (-14), 3) := by decide +kernel
theorem dX0_passRound_19 : decode cX0_passRound 19 = .ok (.iconst 0, 1) := by decide +kernel
theorem dX0_passRound_20 : decode cX0_passRound 20 = .ok (.istore_n 2, 1) := by decide +kernel
theorem dX0_passRound_21 : decode cX0_passRound 21 = .ok (.iload_n 2, 1) := by decide +kernel
theorem dX0_passRound_22 : decode cX0_passRound 22 = .ok (.iconst 4, 1) := by decide +kernel
theorem dX0_passRound_23 : decode cX0_passRound 23 = .ok (.if_icmp .ge 15, 3) := by decide +kernel
theorem dX0_passRound_26 : decode cX0_passRound 26 = .ok (.aload_n 0, 1) := by decide +kernel
theorem dX0_passRound_27 : decode cX0_passRound 27 = .ok (.aload_n 1, 1) := by decide +kernel
theorem dX0_passRound_28 : decode cX0_passRound 28 = .ok (.iload_n 2, 1) := by decide +kernel
theorem dX0_passRound_29 : decode cX0_passRound 29 = .ok (.invokevirtual 23, 3) := by decide +kernel
theorem dX0_passRound_32 : decode cX0_passRound 32 = .ok (.iinc 2 1, 3) := by decide +kernel
theorem dX0_passRound_35 : decode cX0_passRound 35 = .ok (.goto (-14), 3) := by decide +kernel
theorem dX0_passRound_38 : decode cX0_passRound 38 = .ok (.iconst 0, 1) := by decide +kernel
theorem dX0_passRound_39 : decode cX0_passRound 39 = .ok (.istore_n 2, 1) := by decide +kernel
theorem dX0_passRound_40 : decode cX0_passRound 40 = .ok (.iload_n 2, 1) := by decide +kernel
theorem dX0_passRound_41 : decode cX0_passRound 41 = .ok (.iconst 4, 1) := by decide +kernel
theorem dX0_passRound_42 : decode cX0_passRound 42 = .ok (.if_icmp .ge 38, 3) := by decide +kernel
theorem dX0_passRound_45 : decode cX0_passRound 45 = .ok (.aload_n 0, 1) := by decide +kernel
theorem dX0_passRound_46 : decode cX0_passRound 46 = .ok (.getfield 16, 3) := by decide +kernel
theorem dX0_passRound_49 : decode cX0_passRound 49 = .ok (.iload_n 2, 1) := by decide +kernel
theorem dX0_passRound_50 : decode cX0_passRound 50 = .ok (.aaload, 1) := by decide +kernel
theorem dX0_passRound_51 : decode cX0_passRound 51 = .ok (.iconst 0, 1) := by decide +kernel
theorem dX0_passRound_52 : decode cX0_passRound 52 = .ok (.aload_n 0, 1) := by decide +kernel
theorem dX0_passRound_53 : decode cX0_passRound 53 = .ok (.getfield 11, 3) := by decide +kernel
theorem dX0_passRound_56 : decode cX0_passRound 56 = .ok (.iload_n 2, 1) := by decide +kernel
theorem dX0_passRound_57 : decode cX0_passRound 57 = .ok (.aaload, 1) := by decide +kernel
theorem dX0_passRound_58 : decode cX0_passRound 58 = .ok (.iconst 0, 1) := by decide +kernel
theorem dX0_passRound_59 : decode cX0_passRound 59 = .ok (.bipush 96, 2) := by decide +kernel
theorem dX0_passRound_61 : decode cX0_passRound 61 = .ok (.invokestatic 27, 3) := by decide +kernel
theorem dX0_passRound_64 : decode cX0_passRound 64 = .ok (.aload_n 0, 1) := by decide +kernel
theorem dX0_passRound_65 : decode cX0_passRound 65 = .ok (.getfield 16, 3) := by decide +kernel
theorem dX0_passRound_68 : decode cX0_passRound 68 = .ok (.iload_n 2, 1) := by decide +kernel
theorem dX0_passRound_69 : decode cX0_passRound 69 = .ok (.aaload, 1) := by decide +kernel
theorem dX0_passRound_70 : decode cX0_passRound 70 = .ok (.iconst 0, 1) := by decide +kernel
theorem dX0_passRound_71 : decode cX0_passRound 71 = .ok (.invokestatic 33, 3) := by decide +kernel
theorem dX0_passRound_74 : decode cX0_passRound 74 = .ok (.iinc 2 1, 3) := by decide +kernel
theorem dX0_passRound_77 : decode cX0_passRound 77 = .ok (.goto (-37), 3) := by decide +kernel
theorem dX0_passRound_80 : decode cX0_passRound 80 = .ok (.aload_n 0, 1) := by decide +kernel
theorem dX0_passRound_81 : decode cX0_passRound 81 = .ok (.dup, 1) := by decide +kernel
theorem dX0_passRound_82 : decode cX0_passRound 82 = .ok (.getfield 39, 3) := by decide +kernel
theorem dX0_passRound_85 : decode cX0_passRound 85 = .ok (.lconst 1, 1) := by decide +kernel
theorem dX0_passRound_86 : decode cX0_passRound 86 = .ok (.ladd, 1) := by decide +kernel
theorem dX0_passRound_87 : decode cX0_passRound 87 = .ok (.putfield 39, 3) := by decide +kernel
theorem dX0_passRound_90 : decode cX0_passRound 90 = .ok (.return_, 1) := by decide +kernel
theorem dX0_evenOut_0 : decode cX0_evenOut 0 = .ok (.aload_n 0, 1) := by decide +kernel
theorem dX0_evenOut_1 : decode cX0_evenOut 1 = .ok (.getfield 11, 3) := by decide +kernel
theorem dX0_evenOut_4 : decode cX0_evenOut 4 = .ok (.iconst 0, 1) := by decide +kernel
theorem dX0_evenOut_5 : decode cX0_evenOut 5 = .ok (.aaload, 1) := by decide +kernel
theorem dX0_evenOut_6 : decode cX0_evenOut 6 = .ok (.iload_n 1, 1) := by decide +kernel
theorem dX0_evenOut_7 : decode cX0_evenOut 7 = .ok (.iaload, 1) := by decide +kernel
theorem dX0_evenOut_8 : decode cX0_evenOut 8 = .ok (.aload_n 0, 1) := by decide +kernel
theorem dX0_evenOut_9 : decode cX0_evenOut 9 = .ok (.getfield 11, 3) := by decide +kernel
theorem dX0_evenOut_12 : decode cX0_evenOut 12 = .ok (.iconst 2, 1) := by decide +kernel
theorem dX0_evenOut_13 : decode cX0_evenOut 13 = .ok (.aaload, 1) := by decide +kernel
theorem dX0_evenOut_14 : decode cX0_evenOut 14 = .ok (.iload_n 1, 1) := by decide +kernel
theorem dX0_evenOut_15 : decode cX0_evenOut 15 = .ok (.iaload, 1) := by decide +kernel
theorem dX0_evenOut_16 : decode cX0_evenOut 16 = .ok (.iadd, 1) := by decide +kernel
theorem dX0_evenOut_17 : decode cX0_evenOut 17 = .ok (.istore_n 2, 1) := by decide +kernel
theorem dX0_evenOut_18 : decode cX0_evenOut 18 = .ok (.aload_n 0, 1) := by decide +kernel
theorem dX0_evenOut_19 : decode cX0_evenOut 19 = .ok (.getfield 11, 3) := by decide +kernel
theorem dX0_evenOut_22 : decode cX0_evenOut 22 = .ok (.iconst 1, 1) := by decide +kernel
theorem dX0_evenOut_23 : decode cX0_evenOut 23 = .ok (.aaload, 1) := by decide +kernel
theorem dX0_evenOut_24 : decode cX0_evenOut 24 = .ok (.iload_n 1, 1) := by decide +kernel
theorem dX0_evenOut_25 : decode cX0_evenOut 25 = .ok (.iaload, 1) := by decide +kernel
theorem dX0_evenOut_26 : decode cX0_evenOut 26 = .ok (.aload_n 0, 1) := by decide +kernel
theorem dX0_evenOut_27 : decode cX0_evenOut 27 = .ok (.getfield 11, 3) := by decide +kernel
theorem dX0_evenOut_30 : decode cX0_evenOut 30 = .ok (.iconst 3, 1) := by decide +kernel
theorem dX0_evenOut_31 : decode cX0_evenOut 31 = .ok (.aaload, 1) := by decide +kernel
theorem dX0_evenOut_32 : decode cX0_evenOut 32 = .ok (.iload_n 1, 1) := by decide +kernel
theorem dX0_evenOut_33 : decode cX0_evenOut 33 = .ok (.iaload, 1) := by decide +kernel
theorem dX0_evenOut_34 : decode cX0_evenOut 34 = .ok (.iadd, 1) := by decide +kernel
theorem dX0_evenOut_35 : decode cX0_evenOut 35 = .ok (.istore_n 3, 1) := by decide +kernel
theorem dX0_evenOut_36 : decode cX0_evenOut 36 = .ok (.iload_n 2, 1) := by decide +kernel
theorem dX0_evenOut_37 : decode cX0_evenOut 37 = .ok (.iload_n 3, 1) := by decide +kernel
theorem dX0_evenOut_38 : decode cX0_evenOut 38 = .ok (.isub, 1) := by decide +kernel
theorem dX0_evenOut_39 : decode cX0_evenOut 39 = .ok (.iconst 4, 1) := by decide +kernel
theorem dX0_evenOut_40 : decode cX0_evenOut 40 = .ok (.idiv, 1) := by decide +kernel
theorem dX0_evenOut_41 : decode cX0_evenOut 41 = .ok (.istore 4, 2) := by decide +kernel
theorem dX0_evenOut_43 : decode cX0_evenOut 43 = .ok (.iload 4, 2) := by decide +kernel
theorem dX0_evenOut_45 : decode cX0_evenOut 45 = .ok (.ifCond .le 39, 3) := by decide +kernel
theorem dX0_evenOut_48 : decode cX0_evenOut 48 = .ok (.aload_n 0, 1) := by decide +kernel
theorem dX0_evenOut_49 : decode cX0_evenOut 49 = .ok (.getfield 11, 3) := by decide +kernel
theorem dX0_evenOut_52 : decode cX0_evenOut 52 = .ok (.iconst 0, 1) := by decide +kernel
theorem dX0_evenOut_53 : decode cX0_evenOut 53 = .ok (.aaload, 1) := by decide +kernel
theorem dX0_evenOut_54 : decode cX0_evenOut 54 = .ok (.iload_n 1, 1) := by decide +kernel
theorem dX0_evenOut_55 : decode cX0_evenOut 55 = .ok (.iaload, 1) := by decide +kernel
theorem dX0_evenOut_56 : decode cX0_evenOut 56 = .ok (.aload_n 0, 1) := by decide +kernel
theorem dX0_evenOut_57 : decode cX0_evenOut 57 = .ok (.getfield 11, 3) := by decide +kernel
theorem dX0_evenOut_60 : decode cX0_evenOut 60 = .ok (.iconst 2, 1) := by decide +kernel
theorem dX0_evenOut_61 : decode cX0_evenOut 61 = .ok (.aaload, 1) := by decide +kernel
theorem dX0_evenOut_62 : decode cX0_evenOut 62 = .ok (.iload_n 1, 1) := by decide +kernel
theorem dX0_evenOut_63 : decode cX0_evenOut 63 = .ok (.iaload, 1) := by decide +kernel
theorem dX0_evenOut_64 : decode cX0_evenOut 64 = .ok (.invokestatic 43, 3) := by decide +kernel
theorem dX0_evenOut_67 : decode cX0_evenOut 67 = .ok (.istore 5, 2) := by decide +kernel
theorem dX0_evenOut_69 : decode cX0_evenOut 69 = .ok (.aload_n 0, 1) := by decide +kernel
theorem dX0_evenOut_70 : decode cX0_evenOut 70 = .ok (.iload_n 1, 1) := by decide +kernel
theorem dX0_evenOut_71 : decode cX0_evenOut 71 = .ok (.iload 4, 2) := by decide +kernel
theorem dX0_evenOut_73 : decode cX0_evenOut 73 = .ok (.iload 5, 2) := by decide +kernel
theorem dX0_evenOut_75 : decode cX0_evenOut 75 = .ok (.invokestatic 43, 3) := by decide +kernel
theorem dX0_evenOut_78 : decode cX0_evenOut 78 = .ok (.invokevirtual 49, 3) := by decide +kernel
theorem dX0_evenOut_81 : decode cX0_evenOut 81 = .ok (.goto 43, 3) := by decide +kernel
theorem dX0_evenOut_84 : decode cX0_evenOut 84 = .ok (.iload 4, 2) := by decide +kernel
theorem dX0_evenOut_86 : decode cX0_evenOut 86 = .ok (.ifCond .ge 38, 3) := by decide +kernel
theorem dX0_evenOut_89 : decode cX0_evenOut 89 = .ok (.aload_n 0, 1) := by decide +kernel
theorem dX0_evenOut_90 : decode cX0_evenOut 90 = .ok (.getfield 11, 3) := by decide +kernel
theorem dX0_evenOut_93 : decode cX0_evenOut 93 = .ok (.iconst 1, 1) := by decide +kernel
theorem dX0_evenOut_94 : decode cX0_evenOut 94 = .ok (.aaload, 1) := by decide +kernel
theorem dX0_evenOut_95 : decode cX0_evenOut 95 = .ok (.iload_n 1, 1) := by decide +kernel
theorem dX0_evenOut_96 : decode cX0_evenOut 96 = .ok (.iaload, 1) := by decide +kernel
theorem dX0_evenOut_97 : decode cX0_evenOut 97 = .ok (.aload_n 0, 1) := by decide +kernel
theorem dX0_evenOut_98 : decode cX0_evenOut 98 = .ok (.getfield 11, 3) := by decide +kernel
theorem dX0_evenOut_101 : decode cX0_evenOut 101 = .ok (.iconst 3, 1) := by decide +kernel
theorem dX0_evenOut_102 : decode cX0_evenOut 102 = .ok (.aaload, 1) := by decide +kernel
theorem dX0_evenOut_103 : decode cX0_evenOut 103 = .ok (.iload_n 1, 1) := by decide +kernel
theorem dX0_evenOut_104 : decode cX0_evenOut 104 = .ok (.iaload, 1) := by decide +kernel
theorem dX0_evenOut_105 : decode cX0_evenOut 105 = .ok (.invokestatic 43, 3) := by decide +kernel
theorem dX0_evenOut_108 : decode cX0_evenOut 108 = .ok (.istore 5, 2) := by decide +kernel
theorem dX0_evenOut_110 : decode cX0_evenOut 110 = .ok (.aload_n 0, 1) := by decide +kernel
theorem dX0_evenOut_111 : decode cX0_evenOut 111 = .ok (.iload_n 1, 1) := by decide +kernel
theorem dX0_evenOut_112 : decode cX0_evenOut 112 = .ok (.iload 4, 2) := by decide +kernel
theorem dX0_evenOut_114 : decode cX0_evenOut 114 = .ok (.ineg, 1) := by decide +kernel
theorem dX0_evenOut_115 : decode cX0_evenOut 115 = .ok (.iload 5, 2) := by decide +kernel
theorem dX0_evenOut_117 : decode cX0_evenOut 117 = .ok (.invokestatic 43, 3) := by decide +kernel
theorem dX0_evenOut_120 : decode cX0_evenOut 120 = .ok (.ineg, 1) := by decide +kernel
theorem dX0_evenOut_121 : decode cX0_evenOut 121 = .ok (.invokevirtual 49, 3) := by decide +kernel
theorem dX0_evenOut_124 : decode cX0_evenOut 124 = .ok (.return_, 1) := by decide +kernel
theorem dX0_shiftToUpright_0 : decode cX0_shiftToUpright 0 = .ok (.aload_n 0, 1) := by decide +kernel
theorem dX0_shiftToUpright_1 : decode cX0_shiftToUpright 1 = .ok (.getfield 11, 3) := by decide +kernel
theorem dX0_shiftToUpright_4 : decode cX0_shiftToUpright 4 = .ok (.iconst 0, 1) := by decide +kernel
theorem dX0_shiftToUpright_5 : decode cX0_shiftToUpright 5 = .ok (.aaload, 1) := by decide +kernel
theorem dX0_shiftToUpright_6 : decode cX0_shiftToUpright 6 = .ok (.iload_n 1, 1) := by decide +kernel
theorem dX0_shiftToUpright_7 : decode cX0_shiftToUpright 7 = .ok (.dup2, 1) := by decide +kernel
theorem dX0_shiftToUpright_8 : decode cX0_shiftToUpright 8 = .ok (.iaload, 1) := by decide +kernel
theorem dX0_shiftToUpright_9 : decode cX0_shiftToUpright 9 = .ok (.iload_n 2, 1) := by decide +kernel
theorem dX0_shiftToUpright_10 : decode cX0_shiftToUpright 10 = .ok (.isub, 1) := by decide +kernel
theorem dX0_shiftToUpright_11 : decode cX0_shiftToUpright 11 = .ok (.iastore, 1) := by decide +kernel
theorem dX0_shiftToUpright_12 : decode cX0_shiftToUpright 12 = .ok (.aload_n 0, 1) := by decide +kernel
theorem dX0_shiftToUpright_13 : decode cX0_shiftToUpright 13 = .ok (.getfield 11, 3) := by decide +kernel
theorem dX0_shiftToUpright_16 : decode cX0_shiftToUpright 16 = .ok (.iconst 2, 1) := by decide +kernel
theorem dX0_shiftToUpright_17 : decode cX0_shiftToUpright 17 = .ok (.aaload, 1) := by decide +kernel
theorem dX0_shiftToUpright_18 : decode cX0_shiftToUpright 18 = .ok (.iload_n 1, 1) := by decide +kernel
theorem dX0_shiftToUpright_19 : decode cX0_shiftToUpright 19 = .ok (.dup2, 1) := by decide +kernel
theorem dX0_shiftToUpright_20 : decode cX0_shiftToUpright 20 = .ok (.iaload, 1) := by decide +kernel
theorem dX0_shiftToUpright_21 : decode cX0_shiftToUpright 21 = .ok (.iload_n 2, 1) := by decide +kernel
theorem dX0_shiftToUpright_22 : decode cX0_shiftToUpright 22 = .ok (.isub, 1) := by decide +kernel
theorem dX0_shiftToUpright_23 : decode cX0_shiftToUpright 23 = .ok (.iastore, 1) := by decide +kernel
theorem dX0_shiftToUpright_24 : decode cX0_shiftToUpright 24 = .ok (.aload_n 0, 1) := by decide +kernel
theorem dX0_shiftToUpright_25 : decode cX0_shiftToUpright 25 = .ok (.getfield 11, 3) := by decide +kernel
theorem dX0_shiftToUpright_28 : decode cX0_shiftToUpright 28 = .ok (.iconst 1, 1) := by decide +kernel
theorem dX0_shiftToUpright_29 : decode cX0_shiftToUpright 29 = .ok (.aaload, 1) := by decide +kernel
theorem dX0_shiftToUpright_30 : decode cX0_shiftToUpright 30 = .ok (.iload_n 1, 1) := by decide +kernel
theorem dX0_shiftToUpright_31 : decode cX0_shiftToUpright 31 = .ok (.dup2, 1) := by decide +kernel
theorem dX0_shiftToUpright_32 : decode cX0_shiftToUpright 32 = .ok (.iaload, 1) := by decide +kernel
theorem dX0_shiftToUpright_33 : decode cX0_shiftToUpright 33 = .ok (.iload_n 2, 1) := by decide +kernel
theorem dX0_shiftToUpright_34 : decode cX0_shiftToUpright 34 = .ok (.iadd, 1) := by decide +kernel
theorem dX0_shiftToUpright_35 : decode cX0_shiftToUpright 35 = .ok (.iastore, 1) := by decide +kernel
theorem dX0_shiftToUpright_36 : decode cX0_shiftToUpright 36 = .ok (.aload_n 0, 1) := by decide +kernel
theorem dX0_shiftToUpright_37 : decode cX0_shiftToUpright 37 = .ok (.getfield 11, 3) := by decide +kernel
theorem dX0_shiftToUpright_40 : decode cX0_shiftToUpright 40 = .ok (.iconst 3, 1) := by decide +kernel
theorem dX0_shiftToUpright_41 : decode cX0_shiftToUpright 41 = .ok (.aaload, 1) := by decide +kernel
theorem dX0_shiftToUpright_42 : decode cX0_shiftToUpright 42 = .ok (.iload_n 1, 1) := by decide +kernel
theorem dX0_shiftToUpright_43 : decode cX0_shiftToUpright 43 = .ok (.dup2, 1) := by decide +kernel
theorem dX0_shiftToUpright_44 : decode cX0_shiftToUpright 44 = .ok (.iaload, 1) := by decide +kernel
theorem dX0_shiftToUpright_45 : decode cX0_shiftToUpright 45 = .ok (.iload_n 2, 1) := by decide +kernel
theorem dX0_shiftToUpright_46 : decode cX0_shiftToUpright 46 = .ok (.iadd, 1) := by decide +kernel
theorem dX0_shiftToUpright_47 : decode cX0_shiftToUpright 47 = .ok (.iastore, 1) := by decide +kernel
theorem dX0_shiftToUpright_48 : decode cX0_shiftToUpright 48 = .ok (.return_, 1) := by decide +kernel
theorem dX0_moveAll_0 : decode cX0_moveAll 0 = .ok (.iconst 0, 1) := by decide +kernel
theorem dX0_moveAll_1 : decode cX0_moveAll 1 = .ok (.istore_n 3, 1) := by decide +kernel
theorem dX0_moveAll_2 : decode cX0_moveAll 2 = .ok (.iload_n 3, 1) := by decide +kernel
theorem dX0_moveAll_3 : decode cX0_moveAll 3 = .ok (.bipush 96, 2) := by decide +kernel
theorem dX0_moveAll_5 : decode cX0_moveAll 5 = .ok (.if_icmp .ge 70, 3) := by decide +kernel
theorem dX0_moveAll_8 : decode cX0_moveAll 8 = .ok (.iload_n 3, 1) := by decide +kernel
theorem dX0_moveAll_9 : decode cX0_moveAll 9 = .ok (.iload_n 2, 1) := by decide +kernel
theorem dX0_moveAll_10 : decode cX0_moveAll 10 = .ok (.invokestatic 53, 3) := by decide +kernel
theorem dX0_moveAll_13 : decode cX0_moveAll 13 = .ok (.istore 4, 2) := by decide +kernel
theorem dX0_moveAll_15 : decode cX0_moveAll 15 = .ok (.aload_n 1, 1) := by decide +kernel
theorem dX0_moveAll_16 : decode cX0_moveAll 16 = .ok (.iload 4, 2) := by decide +kernel
theorem dX0_moveAll_18 : decode cX0_moveAll 18 = .ok (.invokevirtual 56, 3) := by decide +kernel
theorem dX0_moveAll_21 : decode cX0_moveAll 21 = .ok (.ifCond .eq 28, 3) := by decide +kernel
theorem dX0_moveAll_24 : decode cX0_moveAll 24 = .ok (.aload_n 0, 1) := by decide +kernel
theorem dX0_moveAll_25 : decode cX0_moveAll 25 = .ok (.getfield 16, 3) := by decide +kernel
theorem dX0_moveAll_28 : decode cX0_moveAll 28 = .ok (.iload_n 2, 1) := by decide +kernel
theorem dX0_moveAll_29 : decode cX0_moveAll 29 = .ok (.invokestatic 62, 3) := by decide +kernel
theorem dX0_moveAll_32 : decode cX0_moveAll 32 = .ok (.aaload, 1) := by decide +kernel
theorem dX0_moveAll_33 : decode cX0_moveAll 33 = .ok (.iload_n 3, 1) := by decide +kernel
theorem dX0_moveAll_34 : decode cX0_moveAll 34 = .ok (.dup2, 1) := by decide +kernel
theorem dX0_moveAll_35 : decode cX0_moveAll 35 = .ok (.iaload, 1) := by decide +kernel
theorem dX0_moveAll_36 : decode cX0_moveAll 36 = .ok (.aload_n 0, 1) := by decide +kernel
theorem dX0_moveAll_37 : decode cX0_moveAll 37 = .ok (.getfield 11, 3) := by decide +kernel
theorem dX0_moveAll_40 : decode cX0_moveAll 40 = .ok (.iload_n 2, 1) := by decide +kernel
theorem dX0_moveAll_41 : decode cX0_moveAll 41 = .ok (.aaload, 1) := by decide +kernel
theorem dX0_moveAll_42 : decode cX0_moveAll 42 = .ok (.iload_n 3, 1) := by decide +kernel
theorem dX0_moveAll_43 : decode cX0_moveAll 43 = .ok (.iaload, 1) := by decide +kernel
theorem dX0_moveAll_44 : decode cX0_moveAll 44 = .ok (.iadd, 1) := by decide +kernel
theorem dX0_moveAll_45 : decode cX0_moveAll 45 = .ok (.iastore, 1) := by decide +kernel
theorem dX0_moveAll_46 : decode cX0_moveAll 46 = .ok (.goto 23, 3) := by decide +kernel
theorem dX0_moveAll_49 : decode cX0_moveAll 49 = .ok (.aload_n 0, 1) := by decide +kernel
theorem dX0_moveAll_50 : decode cX0_moveAll 50 = .ok (.getfield 16, 3) := by decide +kernel
theorem dX0_moveAll_53 : decode cX0_moveAll 53 = .ok (.iload_n 2, 1) := by decide +kernel
theorem dX0_moveAll_54 : decode cX0_moveAll 54 = .ok (.aaload, 1) := by decide +kernel
theorem dX0_moveAll_55 : decode cX0_moveAll 55 = .ok (.iload 4, 2) := by decide +kernel
theorem dX0_moveAll_57 : decode cX0_moveAll 57 = .ok (.dup2, 1) := by decide +kernel
theorem dX0_moveAll_58 : decode cX0_moveAll 58 = .ok (.iaload, 1) := by decide +kernel
theorem dX0_moveAll_59 : decode cX0_moveAll 59 = .ok (.aload_n 0, 1) := by decide +kernel
theorem dX0_moveAll_60 : decode cX0_moveAll 60 = .ok (.getfield 11, 3) := by decide +kernel
theorem dX0_moveAll_63 : decode cX0_moveAll 63 = .ok (.iload_n 2, 1) := by decide +kernel
theorem dX0_moveAll_64 : decode cX0_moveAll 64 = .ok (.aaload, 1) := by decide +kernel
theorem dX0_moveAll_65 : decode cX0_moveAll 65 = .ok (.iload_n 3, 1) := by decide +kernel
theorem dX0_moveAll_66 : decode cX0_moveAll 66 = .ok (.iaload, 1) := by decide +kernel
theorem dX0_moveAll_67 : decode cX0_moveAll 67 = .ok (.iadd, 1) := by decide +kernel
theorem dX0_moveAll_68 : decode cX0_moveAll 68 = .ok (.iastore, 1) := by decide +kernel
theorem dX0_moveAll_69 : decode cX0_moveAll 69 = .ok (.iinc 3 1, 3) := by decide +kernel
theorem dX0_moveAll_72 : decode cX0_moveAll 72 = .ok (.goto (-70), 3) := by decide +kernel
theorem dX0_moveAll_75 : decode cX0_moveAll 75 = .ok (.return_, 1) := by decide +kernel
theorem dX1_init_0 : decode cX1_init 0 = .ok (.aload_n 0, 1) := by decide +kernel
theorem dX1_init_1 : decode cX1_init 1 = .ok (.invokespecial 3, 3) := by decide +kernel
theorem dX1_init_4 : decode cX1_init 4 = .ok (.aload_n 0, 1) := by decide +kernel
theorem dX1_init_5 : decode cX1_init 5 = .ok (.iconst 4, 1) := by decide +kernel
theorem dX1_init_6 : decode cX1_init 6 = .ok (.newarray .int, 2) := by decide +kernel
theorem dX1_init_8 : decode cX1_init 8 = .ok (.putfield 9, 3) := by decide +kernel
theorem dX1_init_11 : decode cX1_init 11 = .ok (.aload_n 0, 1) := by decide +kernel
theorem dX1_init_12 : decode cX1_init 12 = .ok (.iconst 4, 1) := by decide +kernel
theorem dX1_init_13 : decode cX1_init 13 = .ok (.newarray .int, 2) := by decide +kernel
theorem dX1_init_15 : decode cX1_init 15 = .ok (.putfield 15, 3) := by decide +kernel
theorem dX1_init_18 : decode cX1_init 18 = .ok (.aload_n 0, 1) := by decide +kernel
theorem dX1_init_19 : decode cX1_init 19 = .ok (.iconst 4, 1) := by decide +kernel
theorem dX1_init_20 : decode cX1_init 20 = .ok (.sipush 5000, 3) := by decide +kernel
theorem dX1_init_23 : decode cX1_init 23 = .ok (.multianewarray 18 2, 4) := by decide +kernel
theorem dX1_init_27 : decode cX1_init 27 = .ok (.putfield 20, 3) := by decide +kernel
theorem dX1_init_30 : decode cX1_init 30 = .ok (.return_, 1) := by decide +kernel
theorem dX1_setInto_0 : decode cX1_setInto 0 = .ok (.aload_n 0, 1) := by decide +kernel
theorem dX1_setInto_1 : decode cX1_setInto 1 = .ok (.getfield 23, 3) := by decide +kernel
theorem dX1_setInto_4 : decode cX1_setInto 4 = .ok (.iconst 4, 1) := by decide +kernel
theorem dX1_setInto_5 : decode cX1_setInto 5 = .ok (.if_icmp .lt 5, 3) := by decide +kernel
theorem dX1_setInto_8 : decode cX1_setInto 8 = .ok (.iconst (-1), 1) := by decide +kernel
theorem dX1_setInto_9 : decode cX1_setInto 9 = .ok (.ireturn, 1) := by decide +kernel
theorem dX1_setInto_10 : decode cX1_setInto 10 = .ok (.aload_n 0, 1) := by decide +kernel
theorem dX1_setInto_11 : decode cX1_setInto 11 = .ok (.getfield 9, 3) := by decide +kernel
theorem dX1_setInto_14 : decode cX1_setInto 14 = .ok (.aload_n 0, 1) := by decide +kernel
theorem dX1_setInto_15 : decode cX1_setInto 15 = .ok (.getfield 23, 3) := by decide +kernel
theorem dX1_setInto_18 : decode cX1_setInto 18 = .ok (.iload_n 1, 1) := by decide +kernel
theorem dX1_setInto_19 : decode cX1_setInto 19 = .ok (.iastore, 1) := by decide +kernel
theorem dX1_setInto_20 : decode cX1_setInto 20 = .ok (.aload_n 0, 1) := by decide +kernel
theorem dX1_setInto_21 : decode cX1_setInto 21 = .ok (.dup, 1) := by decide +kernel
theorem dX1_setInto_22 : decode cX1_setInto 22 = .ok (.getfield 23, 3) := by decide +kernel
theorem dX1_setInto_25 : decode cX1_setInto 25 = .ok (.iconst 1, 1) := by decide +kernel
theorem dX1_setInto_26 : decode cX1_setInto 26 = .ok (.iadd, 1) := by decide +kernel
theorem dX1_setInto_27 : decode cX1_setInto 27 = .ok (.putfield 23, 3) := by decide +kernel
theorem dX1_setInto_30 : decode cX1_setInto 30 = .ok (.aload_n 0, 1) := by decide +kernel
theorem dX1_setInto_31 : decode cX1_setInto 31 = .ok (.getfield 23, 3) := by decide +kernel
theorem dX1_setInto_34 : decode cX1_setInto 34 = .ok (.iconst 1, 1) := by decide +kernel
theorem dX1_setInto_35 : decode cX1_setInto 35 = .ok (.isub, 1) := by decide +kernel
theorem dX1_setInto_36 : decode cX1_setInto 36 = .ok (.ireturn, 1) := by decide +kernel
theorem dX1_areAt_0 : decode cX1_areAt 0 = .ok (.iconst 0, 1) := by decide +kernel
theorem dX1_areAt_1 : decode cX1_areAt 1 = .ok (.istore_n 2, 1) := by decide +kernel
theorem dX1_areAt_2 : decode cX1_areAt 2 = .ok (.iload_n 2, 1) := by decide +kernel
theorem dX1_areAt_3 : decode cX1_areAt 3 = .ok (.aload_n 0, 1) := by decide +kernel
theorem dX1_areAt_4 : decode cX1_areAt 4 = .ok (.getfield 23, 3) := by decide +kernel
theorem dX1_areAt_7 : decode cX1_areAt 7 = .ok (.if_icmp .ge 26, 3) := by decide +kernel
theorem dX1_areAt_10 : decode cX1_areAt 10 = .ok (.iload_n 2, 1) := by decide +kernel
theorem dX1_areAt_11 : decode cX1_areAt 11 = .ok (.iconst 4, 1) := by decide +kernel
theorem dX1_areAt_12 : decode cX1_areAt 12 = .ok (.if_icmp .ge 21, 3) := by decide +kernel
theorem dX1_areAt_15 : decode cX1_areAt 15 = .ok (.aload_n 0, 1) := by decide +kernel
theorem dX1_areAt_16 : decode cX1_areAt 16 = .ok (.getfield 9, 3) := by decide +kernel
theorem dX1_areAt_19 : decode cX1_areAt 19 = .ok (.iload_n 2, 1) := by decide +kernel
theorem dX1_areAt_20 : decode cX1_areAt 20 = .ok (.iaload, 1) := by decide +kernel
theorem dX1_areAt_21 : decode cX1_areAt 21 = .ok (.iload_n 1, 1) := by decide +kernel
theorem dX1_areAt_22 : decode cX1_areAt 22 = .ok (.if_icmp .ne 5, 3) := by decide +kernel
theorem dX1_areAt_25 : decode cX1_areAt 25 = .ok (.iconst 1, 1) := by decide +kernel
theorem dX1_areAt_26 : decode cX1_areAt 26 = .ok (.ireturn, 1) := by decide +kernel
theorem dX1_areAt_27 : decode cX1_areAt 27 = .ok (.iinc 2 1, 3) := by decide +kernel
theorem dX1_areAt_30 : decode cX1_areAt 30 = .ok (.goto (-28), 3) := by decide +kernel
theorem dX1_areAt_33 : decode cX1_areAt 33 = .ok (.iconst 0, 1) := by decide +kernel
theorem dX1_areAt_34 : decode cX1_areAt 34 = .ok (.ireturn, 1) := by decide +kernel
theorem dX1_recordAll_0 : decode cX1_recordAll 0 = .ok (.iconst 0, 1) := by decide +kernel
theorem dX1_recordAll_1 : decode cX1_recordAll 1 = .ok (.istore_n 2, 1) := by decide +kernel
theorem dX1_recordAll_2 : decode cX1_recordAll 2 = .ok (.iload_n 2, 1) := by decide +kernel
theorem dX1_recordAll_3 : decode cX1_recordAll 3 = .ok (.aload_n 0, 1) := by decide +kernel
theorem dX1_recordAll_4 : decode cX1_recordAll 4 = .ok (.getfield 23, 3) := by decide +kernel
theorem dX1_recordAll_7 : decode cX1_recordAll 7 = .ok (.if_icmp .ge 61, 3) := by decide +kernel
theorem dX1_recordAll_10 : decode cX1_recordAll 10 = .ok (.iload_n 2, 1) := by decide +kernel
theorem dX1_recordAll_11 : decode cX1_recordAll 11 = .ok (.iconst 4, 1) := by decide +kernel
theorem dX1_recordAll_12 : decode cX1_recordAll 12 = .ok (.if_icmp .ge 56, 3) := by decide +kernel
theorem dX1_recordAll_15 : decode cX1_recordAll 15 = .ok (.aload_n 0, 1) := by decide +kernel
theorem dX1_recordAll_16 : decode cX1_recordAll 16 = .ok (.getfield 15, 3) := by decide +kernel
theorem dX1_recordAll_19 : decode cX1_recordAll 19 = .ok (.iload_n 2, 1) := by decide +kernel
theorem dX1_recordAll_20 : decode cX1_recordAll 20 = .ok (.iaload, 1) := by decide +kernel
theorem dX1_recordAll_21 : decode cX1_recordAll 21 = .ok (.sipush 5000, 3) := by decide +kernel
theorem dX1_recordAll_24 : decode cX1_recordAll 24 = .ok (.if_icmp .ge 38, 3) := by decide +kernel
theorem dX1_recordAll_27 : decode cX1_recordAll 27 = .ok (.aload_n 0, 1) := by decide +kernel
theorem dX1_recordAll_28 : decode cX1_recordAll 28 = .ok (.getfield 20, 3) := by decide +kernel
theorem dX1_recordAll_31 : decode cX1_recordAll 31 = .ok (.iload_n 2, 1) := by decide +kernel
theorem dX1_recordAll_32 : decode cX1_recordAll 32 = .ok (.aaload, 1) := by decide +kernel
theorem dX1_recordAll_33 : decode cX1_recordAll 33 = .ok (.aload_n 0, 1) := by decide +kernel
theorem dX1_recordAll_34 : decode cX1_recordAll 34 = .ok (.getfield 15, 3) := by decide +kernel
theorem dX1_recordAll_37 : decode cX1_recordAll 37 = .ok (.iload_n 2, 1) := by decide +kernel
theorem dX1_recordAll_38 : decode cX1_recordAll 38 = .ok (.iaload, 1) := by decide +kernel
theorem dX1_recordAll_39 : decode cX1_recordAll 39 = .ok (.aload_n 1, 1) := by decide +kernel
theorem dX1_recordAll_40 : decode cX1_recordAll 40 = .ok (.aload_n 0, 1) := by decide +kernel
theorem dX1_recordAll_41 : decode cX1_recordAll 41 = .ok (.getfield 9, 3) := by decide +kernel
theorem dX1_recordAll_44 : decode cX1_recordAll 44 = .ok (.iload_n 2, 1) := by decide +kernel
theorem dX1_recordAll_45 : decode cX1_recordAll 45 = .ok (.iaload, 1) := by decide +kernel
theorem dX1_recordAll_46 : decode cX1_recordAll 46 = .ok (.iconst 1, 1) := by decide +kernel
theorem dX1_recordAll_47 : decode cX1_recordAll 47 = .ok (.invokevirtual 27, 3) := by decide +kernel
theorem dX1_recordAll_50 : decode cX1_recordAll 50 = .ok (.i2b, 1) := by decide +kernel
theorem dX1_recordAll_51 : decode cX1_recordAll 51 = .ok (.bastore, 1) := by decide +kernel
theorem dX1_recordAll_52 : decode cX1_recordAll 52 = .ok (.aload_n 0, 1) := by decide +kernel
theorem dX1_recordAll_53 : decode cX1_recordAll 53 = .ok (.getfield 15, 3) := by decide +kernel
theorem dX1_recordAll_56 : decode cX1_recordAll 56 = .ok (.iload_n 2, 1) := by decide +kernel
theorem dX1_recordAll_57 : decode cX1_recordAll 57 = .ok (.dup2, 1) := by decide +kernel
theorem dX1_recordAll_58 : decode cX1_recordAll 58 = .ok (.iaload, 1) := by decide +kernel
theorem dX1_recordAll_59 : decode cX1_recordAll 59 = .ok (.iconst 1, 1) := by decide +kernel
theorem dX1_recordAll_60 : decode cX1_recordAll 60 = .ok (.iadd, 1) := by decide +kernel
theorem dX1_recordAll_61 : decode cX1_recordAll 61 = .ok (.iastore, 1) := by decide +kernel
theorem dX1_recordAll_62 : decode cX1_recordAll 62 = .ok (.iinc 2 1, 3) := by decide +kernel
theorem dX1_recordAll_65 : decode cX1_recordAll 65 = .ok (.goto (-63), 3) := by decide +kernel
theorem dX1_recordAll_68 : decode cX1_recordAll 68 = .ok (.return_, 1) := by decide +kernel
theorem dX1_loseLatest_0 : decode cX1_loseLatest 0 = .ok (.iconst 0, 1) := by decide +kernel
theorem dX1_loseLatest_1 : decode cX1_loseLatest 1 = .ok (.istore_n 1, 1) := by decide +kernel
theorem dX1_loseLatest_2 : decode cX1_loseLatest 2 = .ok (.iload_n 1, 1) := by decide +kernel
theorem dX1_loseLatest_3 : decode cX1_loseLatest 3 = .ok (.aload_n 0, 1) := by decide +kernel
theorem dX1_loseLatest_4 : decode cX1_loseLatest 4 = .ok (.getfield 23, 3) := by decide +kernel
theorem dX1_loseLatest_7 : decode cX1_loseLatest 7 = .ok (.if_icmp .ge 33, 3) := by decide +kernel
theorem dX1_loseLatest_10 : decode cX1_loseLatest 10 = .ok (.iload_n 1, 1) := by decide +kernel
theorem dX1_loseLatest_11 : decode cX1_loseLatest 11 = .ok (.iconst 4, 1) := by decide +kernel
theorem dX1_loseLatest_12 : decode cX1_loseLatest 12 = .ok (.if_icmp .ge 28, 3) := by decide +kernel
theorem dX1_loseLatest_15 : decode cX1_loseLatest 15 = .ok (.aload_n 0, 1) := by decide +kernel
theorem dX1_loseLatest_16 : decode cX1_loseLatest 16 = .ok (.getfield 15, 3) := by decide +kernel
theorem dX1_loseLatest_19 : decode cX1_loseLatest 19 = .ok (.iload_n 1, 1) := by decide +kernel
theorem dX1_loseLatest_20 : decode cX1_loseLatest 20 = .ok (.iaload, 1) := by decide +kernel
theorem dX1_loseLatest_21 : decode cX1_loseLatest 21 = .ok (.ifCond .le 13, 3) := by decide +kernel
theorem dX1_loseLatest_24 : decode cX1_loseLatest 24 = .ok (.aload_n 0, 1) := by decide +kernel
theorem dX1_loseLatest_25 : decode cX1_loseLatest 25 = .ok (.getfield 15, 3) := by decide +kernel
theorem dX1_loseLatest_28 : decode cX1_loseLatest 28 = .ok (.iload_n 1, 1) := by decide +kernel
theorem dX1_loseLatest_29 : decode cX1_loseLatest 29 = .ok (.dup2, 1) := by decide +kernel
theorem dX1_loseLatest_30 : decode cX1_loseLatest 30 = .ok (.iaload, 1) := by decide +kernel
theorem dX1_loseLatest_31 : decode cX1_loseLatest 31 = .ok (.iconst 1, 1) := by decide +kernel
theorem dX1_loseLatest_32 : decode cX1_loseLatest 32 = .ok (.isub, 1) := by decide +kernel
theorem dX1_loseLatest_33 : decode cX1_loseLatest 33 = .ok (.iastore, 1) := by decide +kernel
theorem dX1_loseLatest_34 : decode cX1_loseLatest 34 = .ok (.iinc 1 1, 3) := by decide +kernel
theorem dX1_loseLatest_37 : decode cX1_loseLatest 37 = .ok (.goto (-35), 3) := by decide +kernel
theorem dX1_loseLatest_40 : decode cX1_loseLatest 40 = .ok (.return_, 1) := by decide +kernel
theorem dX1_changesOfSign_0 : decode cX1_changesOfSign 0 = .ok (.iconst 0, 1) := by decide +kernel
theorem dX1_changesOfSign_1 : decode cX1_changesOfSign 1 = .ok (.istore_n 2, 1) := by decide +kernel
theorem dX1_changesOfSign_2 : decode cX1_changesOfSign 2 = .ok (.iconst 0, 1) := by decide +kernel
theorem dX1_changesOfSign_3 : decode cX1_changesOfSign 3 = .ok (.istore_n 3, 1) := by decide +kernel
theorem dX1_changesOfSign_4 : decode cX1_changesOfSign 4 = .ok (.iconst 0, 1) := by decide +kernel
theorem dX1_changesOfSign_5 : decode cX1_changesOfSign 5 = .ok (.istore 4, 2) := by decide +kernel
theorem dX1_changesOfSign_7 : decode cX1_changesOfSign 7 = .ok (.iload 4, 2) := by decide +kernel
theorem dX1_changesOfSign_9 : decode cX1_changesOfSign 9 = .ok (.aload_n 0, 1) := by decide +kernel
theorem dX1_changesOfSign_10 : decode cX1_changesOfSign 10 = .ok (.getfield 15, 3) := by decide +kernel
theorem dX1_changesOfSign_13 : decode cX1_changesOfSign 13 = .ok (.iload_n 1, 1) := by decide +kernel
theorem dX1_changesOfSign_14 : decode cX1_changesOfSign 14 = .ok (.iaload, 1) := by decide +kernel
theorem dX1_changesOfSign_15 : decode cX1_changesOfSign 15 = .ok (.if_icmp .ge 51, 3) := by decide +kernel
theorem dX1_changesOfSign_18 : decode cX1_changesOfSign 18 = .ok (.iload 4, 2) := by decide +kernel
theorem dX1_changesOfSign_20 : decode cX1_changesOfSign 20 = .ok (.sipush 5000, 3) := by decide +kernel
theorem dX1_changesOfSign_23 : decode cX1_changesOfSign 23 = .ok (.if_icmp .ge 43, 3) := by decide +kernel
theorem dX1_changesOfSign_26 : decode cX1_changesOfSign 26 = .ok (.aload_n 0, 1) := by decide +kernel
theorem dX1_changesOfSign_27 : decode cX1_changesOfSign 27 = .ok (.getfield 20, 3) := by decide +kernel
theorem dX1_changesOfSign_30 : decode cX1_changesOfSign 30 = .ok (.iload_n 1, 1) := by decide +kernel
theorem dX1_changesOfSign_31 : decode cX1_changesOfSign 31 = .ok (.aaload, 1) := by decide +kernel
theorem dX1_changesOfSign_32 : decode cX1_changesOfSign 32 = .ok (.iload 4, 2) := by decide +kernel
theorem dX1_changesOfSign_34 : decode cX1_changesOfSign 34 = .ok (.baload, 1) := by decide +kernel
theorem dX1_changesOfSign_35 : decode cX1_changesOfSign 35 = .ok (.istore 5, 2) := by decide +kernel
theorem dX1_changesOfSign_37 : decode cX1_changesOfSign 37 = .ok (.iload 5, 2) := by decide +kernel
theorem dX1_changesOfSign_39 : decode cX1_changesOfSign 39 = .ok (.ifCond .eq 21, 3) := by decide +kernel
theorem dX1_changesOfSign_42 : decode cX1_changesOfSign 42 = .ok (.iload_n 2, 1) := by decide +kernel
theorem dX1_changesOfSign_43 : decode cX1_changesOfSign 43 = .ok (.iload 5, 2) := by decide +kernel
theorem dX1_changesOfSign_45 : decode cX1_changesOfSign 45 = .ok (.iload_n 3, 1) := by decide +kernel
theorem dX1_changesOfSign_46 : decode cX1_changesOfSign 46 = .ok (.imul, 1) := by decide +kernel
theorem dX1_changesOfSign_47 : decode cX1_changesOfSign 47 = .ok (.ifCond .ge 7, 3) := by decide +kernel
theorem dX1_changesOfSign_50 : decode cX1_changesOfSign 50 = .ok (.iconst 1, 1) := by decide +kernel
theorem dX1_changesOfSign_51 : decode cX1_changesOfSign 51 = .ok (.goto 4, 3) := by decide +kernel
theorem dX1_changesOfSign_54 : decode cX1_changesOfSign 54 = .ok (.iconst 0, 1) := by decide +kernel
theorem dX1_changesOfSign_55 : decode cX1_changesOfSign 55 = .ok (.iadd, 1) := by decide +kernel
theorem dX1_changesOfSign_56 : decode cX1_changesOfSign 56 = .ok (.istore_n 2, 1) := by decide +kernel
theorem dX1_changesOfSign_57 : decode cX1_changesOfSign 57 = .ok (.iload 5, 2) := by decide +kernel
theorem dX1_changesOfSign_59 : decode cX1_changesOfSign 59 = .ok (.istore_n 3, 1) := by decide +kernel
theorem dX1_changesOfSign_60 : decode cX1_changesOfSign 60 = .ok (.iinc 4 1, 3) := by decide +kernel
theorem dX1_changesOfSign_63 : decode cX1_changesOfSign 63 = .ok (.goto (-56), 3) := by decide +kernel
theorem dX1_changesOfSign_66 : decode cX1_changesOfSign 66 = .ok (.iload_n 2, 1) := by decide +kernel
theorem dX1_changesOfSign_67 : decode cX1_changesOfSign 67 = .ok (.ireturn, 1) := by decide +kernel
theorem dX2_init_0 : decode cX2_init 0 = .ok (.aload_n 0, 1) := by decide +kernel
theorem dX2_init_1 : decode cX2_init 1 = .ok (.invokespecial 1, 3) := by decide +kernel
theorem dX2_init_4 : decode cX2_init 4 = .ok (.return_, 1) := by decide +kernel
theorem dX2_take_0 : decode cX2_take 0 = .ok (.aload_n 0, 1) := by decide +kernel
theorem dX2_take_1 : decode cX2_take 1 = .ok (.dup, 1) := by decide +kernel
theorem dX2_take_2 : decode cX2_take 2 = .ok (.getfield 7, 3) := by decide +kernel
theorem dX2_take_5 : decode cX2_take 5 = .ok (.lconst 1, 1) := by decide +kernel
theorem dX2_take_6 : decode cX2_take 6 = .ok (.ladd, 1) := by decide +kernel
theorem dX2_take_7 : decode cX2_take 7 = .ok (.putfield 7, 3) := by decide +kernel
theorem dX2_take_10 : decode cX2_take 10 = .ok (.aload_n 0, 1) := by decide +kernel
theorem dX2_take_11 : decode cX2_take 11 = .ok (.dup, 1) := by decide +kernel
theorem dX2_take_12 : decode cX2_take 12 = .ok (.getfield 13, 3) := by decide +kernel
theorem dX2_take_15 : decode cX2_take 15 = .ok (.lload_n 1, 1) := by decide +kernel
theorem dX2_take_16 : decode cX2_take 16 = .ok (.ladd, 1) := by decide +kernel
theorem dX2_take_17 : decode cX2_take 17 = .ok (.putfield 13, 3) := by decide +kernel
theorem dX2_take_20 : decode cX2_take 20 = .ok (.aload_n 0, 1) := by decide +kernel
theorem dX2_take_21 : decode cX2_take 21 = .ok (.dup, 1) := by decide +kernel
theorem dX2_take_22 : decode cX2_take 22 = .ok (.getfield 16, 3) := by decide +kernel
theorem dX2_take_25 : decode cX2_take 25 = .ok (.lload_n 1, 1) := by decide +kernel
theorem dX2_take_26 : decode cX2_take 26 = .ok (.lload_n 1, 1) := by decide +kernel
theorem dX2_take_27 : decode cX2_take 27 = .ok (.lmul, 1) := by decide +kernel
theorem dX2_take_28 : decode cX2_take 28 = .ok (.ladd, 1) := by decide +kernel
theorem dX2_take_29 : decode cX2_take 29 = .ok (.putfield 16, 3) := by decide +kernel
theorem dX2_take_32 : decode cX2_take 32 = .ok (.return_, 1) := by decide +kernel
theorem dX3_init_0 : decode cX3_init 0 = .ok (.aload_n 0, 1) := by decide +kernel
theorem dX3_init_1 : decode cX3_init 1 = .ok (.invokespecial 3, 3) := by decide +kernel
theorem dX3_init_4 : decode cX3_init 4 = .ok (.aload_n 0, 1) := by decide +kernel
theorem dX3_init_5 : decode cX3_init 5 = .ok (.bipush 96, 2) := by decide +kernel
theorem dX3_init_7 : decode cX3_init 7 = .ok (.newarray .int, 2) := by decide +kernel
theorem dX3_init_9 : decode cX3_init 9 = .ok (.putfield 9, 3) := by decide +kernel
theorem dX3_init_12 : decode cX3_init 12 = .ok (.aload_n 0, 1) := by decide +kernel
theorem dX3_init_13 : decode cX3_init 13 = .ok (.bipush 96, 2) := by decide +kernel
theorem dX3_init_15 : decode cX3_init 15 = .ok (.newarray .int, 2) := by decide +kernel
theorem dX3_init_17 : decode cX3_init 17 = .ok (.putfield 15, 3) := by decide +kernel
theorem dX3_init_20 : decode cX3_init 20 = .ok (.aload_n 0, 1) := by decide +kernel
theorem dX3_init_21 : decode cX3_init 21 = .ok (.bipush 96, 2) := by decide +kernel
theorem dX3_init_23 : decode cX3_init 23 = .ok (.newarray .int, 2) := by decide +kernel
theorem dX3_init_25 : decode cX3_init 25 = .ok (.putfield 18, 3) := by decide +kernel
theorem dX3_init_28 : decode cX3_init 28 = .ok (.aload_n 0, 1) := by decide +kernel
theorem dX3_init_29 : decode cX3_init 29 = .ok (.bipush 96, 2) := by decide +kernel
theorem dX3_init_31 : decode cX3_init 31 = .ok (.newarray .int, 2) := by decide +kernel
theorem dX3_init_33 : decode cX3_init 33 = .ok (.putfield 21, 3) := by decide +kernel
theorem dX3_init_36 : decode cX3_init 36 = .ok (.aload_n 0, 1) := by decide +kernel
theorem dX3_init_37 : decode cX3_init 37 = .ok (.bipush 96, 2) := by decide +kernel
theorem dX3_init_39 : decode cX3_init 39 = .ok (.newarray .int, 2) := by decide +kernel
theorem dX3_init_41 : decode cX3_init 41 = .ok (.putfield 24, 3) := by decide +kernel
theorem dX3_init_44 : decode cX3_init 44 = .ok (.aload_n 0, 1) := by decide +kernel
theorem dX3_init_45 : decode cX3_init 45 = .ok (.bipush 96, 2) := by decide +kernel
theorem dX3_init_47 : decode cX3_init 47 = .ok (.newarray .int, 2) := by decide +kernel
theorem dX3_init_49 : decode cX3_init 49 = .ok (.putfield 27, 3) := by decide +kernel
theorem dX3_init_52 : decode cX3_init 52 = .ok (.aload_n 0, 1) := by decide +kernel
theorem dX3_init_53 : decode cX3_init 53 = .ok (.iconst 4, 1) := by decide +kernel
theorem dX3_init_54 : decode cX3_init 54 = .ok (.newarray .int, 2) := by decide +kernel
theorem dX3_init_56 : decode cX3_init 56 = .ok (.putfield 30, 3) := by decide +kernel
theorem dX3_init_59 : decode cX3_init 59 = .ok (.aload_n 0, 1) := by decide +kernel
theorem dX3_init_60 : decode cX3_init 60 = .ok (.iconst 4, 1) := by decide +kernel
theorem dX3_init_61 : decode cX3_init 61 = .ok (.newarray .int, 2) := by decide +kernel
theorem dX3_init_63 : decode cX3_init 63 = .ok (.putfield 33, 3) := by decide +kernel
theorem dX3_init_66 : decode cX3_init 66 = .ok (.aload_n 0, 1) := by decide +kernel
theorem dX3_init_67 : decode cX3_init 67 = .ok (.iconst 4, 1) := by decide +kernel
theorem dX3_init_68 : decode cX3_init 68 = .ok (.newarray .int, 2) := by decide +kernel
theorem dX3_init_70 : decode cX3_init 70 = .ok (.putfield 36, 3) := by decide +kernel
theorem dX3_init_73 : decode cX3_init 73 = .ok (.aload_n 0, 1) := by decide +kernel
theorem dX3_init_74 : decode cX3_init 74 = .ok (.iconst 4, 1) := by decide +kernel
theorem dX3_init_75 : decode cX3_init 75 = .ok (.newarray .int, 2) := by decide +kernel
theorem dX3_init_77 : decode cX3_init 77 = .ok (.putfield 39, 3) := by decide +kernel
theorem dX3_init_80 : decode cX3_init 80 = .ok (.aload_n 0, 1) := by decide +kernel
theorem dX3_init_81 : decode cX3_init 81 = .ok (.iconst 4, 1) := by decide +kernel
theorem dX3_init_82 : decode cX3_init 82 = .ok (.newarray .int, 2) := by decide +kernel
theorem dX3_init_84 : decode cX3_init 84 = .ok (.putfield 42, 3) := by decide +kernel
theorem dX3_init_87 : decode cX3_init 87 = .ok (.aload_n 0, 1) := by decide +kernel
theorem dX3_init_88 : decode cX3_init 88 = .ok (.iconst 4, 1) := by decide +kernel
theorem dX3_init_89 : decode cX3_init 89 = .ok (.newarray .int, 2) := by decide +kernel
theorem dX3_init_91 : decode cX3_init 91 = .ok (.putfield 45, 3) := by decide +kernel
theorem dX3_init_94 : decode cX3_init 94 = .ok (.aload_n 0, 1) := by decide +kernel
theorem dX3_init_95 : decode cX3_init 95 = .ok (.getfield 15, 3) := by decide +kernel
theorem dX3_init_98 : decode cX3_init 98 = .ok (.iconst (-1), 1) := by decide +kernel
theorem dX3_init_99 : decode cX3_init 99 = .ok (.invokestatic 48, 3) := by decide +kernel
theorem dX3_init_102 : decode cX3_init 102 = .ok (.return_, 1) := by decide +kernel
theorem dX3_becomeLike_0 : decode cX3_becomeLike 0 = .ok (.aload_n 1, 1) := by decide +kernel
theorem dX3_becomeLike_1 : decode cX3_becomeLike 1 = .ok (.getfield 9, 3) := by decide +kernel
theorem dX3_becomeLike_4 : decode cX3_becomeLike 4 = .ok (.iconst 0, 1) := by decide +kernel
theorem dX3_becomeLike_5 : decode cX3_becomeLike 5 = .ok (.aload_n 0, 1) := by decide +kernel
theorem dX3_becomeLike_6 : decode cX3_becomeLike 6 = .ok (.getfield 9, 3) := by decide +kernel
theorem dX3_becomeLike_9 : decode cX3_becomeLike 9 = .ok (.iconst 0, 1) := by decide +kernel
theorem dX3_becomeLike_10 : decode cX3_becomeLike 10 = .ok (.bipush 96, 2) := by decide +kernel
theorem dX3_becomeLike_12 : decode cX3_becomeLike 12 = .ok (.invokestatic 54, 3) := by decide +kernel
theorem dX3_becomeLike_15 : decode cX3_becomeLike 15 = .ok (.aload_n 1, 1) := by decide +kernel
theorem dX3_becomeLike_16 : decode cX3_becomeLike 16 = .ok (.getfield 15, 3) := by decide +kernel
theorem dX3_becomeLike_19 : decode cX3_becomeLike 19 = .ok (.iconst 0, 1) := by decide +kernel
theorem dX3_becomeLike_20 : decode cX3_becomeLike 20 = .ok (.aload_n 0, 1) := by decide +kernel
theorem dX3_becomeLike_21 : decode cX3_becomeLike 21 = .ok (.getfield 15, 3) := by decide +kernel
theorem dX3_becomeLike_24 : decode cX3_becomeLike 24 = .ok (.iconst 0, 1) := by decide +kernel
theorem dX3_becomeLike_25 : decode cX3_becomeLike 25 = .ok (.bipush 96, 2) := by decide +kernel
theorem dX3_becomeLike_27 : decode cX3_becomeLike 27 = .ok (.invokestatic 54, 3) := by decide +kernel
theorem dX3_becomeLike_30 : decode cX3_becomeLike 30 = .ok (.aload_n 1, 1) := by decide +kernel
theorem dX3_becomeLike_31 : decode cX3_becomeLike 31 = .ok (.getfield 18, 3) := by decide +kernel
theorem dX3_becomeLike_34 : decode cX3_becomeLike 34 = .ok (.iconst 0, 1) := by decide +kernel
theorem dX3_becomeLike_35 : decode cX3_becomeLike 35 = .ok (.aload_n 0, 1) := by decide +kernel
theorem dX3_becomeLike_36 : decode cX3_becomeLike 36 = .ok (.getfield 18, 3) := by decide +kernel
theorem dX3_becomeLike_39 : decode cX3_becomeLike 39 = .ok (.iconst 0, 1) := by decide +kernel
theorem dX3_becomeLike_40 : decode cX3_becomeLike 40 = .ok (.bipush 96, 2) := by decide +kernel
theorem dX3_becomeLike_42 : decode cX3_becomeLike 42 = .ok (.invokestatic 54, 3) := by decide +kernel
theorem dX3_becomeLike_45 : decode cX3_becomeLike 45 = .ok (.aload_n 1, 1) := by decide +kernel
theorem dX3_becomeLike_46 : decode cX3_becomeLike 46 = .ok (.getfield 21, 3) := by decide +kernel
theorem dX3_becomeLike_49 : decode cX3_becomeLike 49 = .ok (.iconst 0, 1) := by decide +kernel
theorem dX3_becomeLike_50 : decode cX3_becomeLike 50 = .ok (.aload_n 0, 1) := by decide +kernel
theorem dX3_becomeLike_51 : decode cX3_becomeLike 51 = .ok (.getfield 21, 3) := by decide +kernel
theorem dX3_becomeLike_54 : decode cX3_becomeLike 54 = .ok (.iconst 0, 1) := by decide +kernel
theorem dX3_becomeLike_55 : decode cX3_becomeLike 55 = .ok (.bipush 96, 2) := by decide +kernel
theorem dX3_becomeLike_57 : decode cX3_becomeLike 57 = .ok (.invokestatic 54, 3) := by decide +kernel
theorem dX3_becomeLike_60 : decode cX3_becomeLike 60 = .ok (.aload_n 1, 1) := by decide +kernel
theorem dX3_becomeLike_61 : decode cX3_becomeLike 61 = .ok (.getfield 30, 3) := by decide +kernel
theorem dX3_becomeLike_64 : decode cX3_becomeLike 64 = .ok (.iconst 0, 1) := by decide +kernel
theorem dX3_becomeLike_65 : decode cX3_becomeLike 65 = .ok (.aload_n 0, 1) := by decide +kernel
theorem dX3_becomeLike_66 : decode cX3_becomeLike 66 = .ok (.getfield 30, 3) := by decide +kernel
theorem dX3_becomeLike_69 : decode cX3_becomeLike 69 = .ok (.iconst 0, 1) := by decide +kernel
theorem dX3_becomeLike_70 : decode cX3_becomeLike 70 = .ok (.iconst 4, 1) := by decide +kernel
theorem dX3_becomeLike_71 : decode cX3_becomeLike 71 = .ok (.invokestatic 54, 3) := by decide +kernel
theorem dX3_becomeLike_74 : decode cX3_becomeLike 74 = .ok (.aload_n 1, 1) := by decide +kernel
theorem dX3_becomeLike_75 : decode cX3_becomeLike 75 = .ok (.getfield 33, 3) := by decide +kernel
theorem dX3_becomeLike_78 : decode cX3_becomeLike 78 = .ok (.iconst 0, 1) := by decide +kernel
theorem dX3_becomeLike_79 : decode cX3_becomeLike 79 = .ok (.aload_n 0, 1) := by decide +kernel
theorem dX3_becomeLike_80 : decode cX3_becomeLike 80 = .ok (.getfield 33, 3) := by decide +kernel
theorem dX3_becomeLike_83 : decode cX3_becomeLike 83 = .ok (.iconst 0, 1) := by decide +kernel
theorem dX3_becomeLike_84 : decode cX3_becomeLike 84 = .ok (.iconst 4, 1) := by decide +kernel
theorem dX3_becomeLike_85 : decode cX3_becomeLike 85 = .ok (.invokestatic 54, 3) := by decide +kernel
theorem dX3_becomeLike_88 : decode cX3_becomeLike 88 = .ok (.aload_n 1, 1) := by decide +kernel
theorem dX3_becomeLike_89 : decode cX3_becomeLike 89 = .ok (.getfield 36, 3) := by decide +kernel
theorem dX3_becomeLike_92 : decode cX3_becomeLike 92 = .ok (.iconst 0, 1) := by decide +kernel
theorem dX3_becomeLike_93 : decode cX3_becomeLike 93 = .ok (.aload_n 0, 1) := by decide +kernel
theorem dX3_becomeLike_94 : decode cX3_becomeLike 94 = .ok (.getfield 36, 3) := by decide +kernel
theorem dX3_becomeLike_97 : decode cX3_becomeLike 97 = .ok (.iconst 0, 1) := by decide +kernel
theorem dX3_becomeLike_98 : decode cX3_becomeLike 98 = .ok (.iconst 4, 1) := by decide +kernel
theorem dX3_becomeLike_99 : decode cX3_becomeLike 99 = .ok (.invokestatic 54, 3) := by decide +kernel
theorem dX3_becomeLike_102 : decode cX3_becomeLike 102 = .ok (.aload_n 1, 1) := by decide +kernel
theorem dX3_becomeLike_103 : decode cX3_becomeLike 103 = .ok (.getfield 39, 3) := by decide +kernel
theorem dX3_becomeLike_106 : decode cX3_becomeLike 106 = .ok (.iconst 0, 1) := by decide +kernel
theorem dX3_becomeLike_107 : decode cX3_becomeLike 107 = .ok (.aload_n 0, 1) := by decide +kernel
theorem dX3_becomeLike_108 : decode cX3_becomeLike 108 = .ok (.getfield 39, 3) := by decide +kernel
theorem dX3_becomeLike_111 : decode cX3_becomeLike 111 = .ok (.iconst 0, 1) := by decide +kernel
theorem dX3_becomeLike_112 : decode cX3_becomeLike 112 = .ok (.iconst 4, 1) := by decide +kernel
theorem dX3_becomeLike_113 : decode cX3_becomeLike 113 = .ok (.invokestatic 54, 3) := by decide +kernel
theorem dX3_becomeLike_116 : decode cX3_becomeLike 116 = .ok (.aload_n 1, 1) := by decide +kernel
theorem dX3_becomeLike_117 : decode cX3_becomeLike 117 = .ok (.getfield 42, 3) := by decide +kernel
theorem dX3_becomeLike_120 : decode cX3_becomeLike 120 = .ok (.iconst 0, 1) := by decide +kernel
theorem dX3_becomeLike_121 : decode cX3_becomeLike 121 = .ok (.aload_n 0, 1) := by decide +kernel
theorem dX3_becomeLike_122 : decode cX3_becomeLike 122 = .ok (.getfield 42, 3) := by decide +kernel
theorem dX3_becomeLike_125 : decode cX3_becomeLike 125 = .ok (.iconst 0, 1) := by decide +kernel
theorem dX3_becomeLike_126 : decode cX3_becomeLike 126 = .ok (.iconst 4, 1) := by decide +kernel
theorem dX3_becomeLike_127 : decode cX3_becomeLike 127 = .ok (.invokestatic 54, 3) := by decide +kernel
theorem dX3_becomeLike_130 : decode cX3_becomeLike 130 = .ok (.aload_n 1, 1) := by decide +kernel
theorem dX3_becomeLike_131 : decode cX3_becomeLike 131 = .ok (.getfield 45, 3) := by decide +kernel
theorem dX3_becomeLike_134 : decode cX3_becomeLike 134 = .ok (.iconst 0, 1) := by decide +kernel
theorem dX3_becomeLike_135 : decode cX3_becomeLike 135 = .ok (.aload_n 0, 1) := by decide +kernel
theorem dX3_becomeLike_136 : decode cX3_becomeLike 136 = .ok (.getfield 45, 3) := by decide +kernel
theorem dX3_becomeLike_139 : decode cX3_becomeLike 139 = .ok (.iconst 0, 1) := by decide +kernel
theorem dX3_becomeLike_140 : decode cX3_becomeLike 140 = .ok (.iconst 4, 1) := by decide +kernel
theorem dX3_becomeLike_141 : decode cX3_becomeLike 141 = .ok (.invokestatic 54, 3) := by decide +kernel
theorem dX3_becomeLike_144 : decode cX3_becomeLike 144 = .ok (.aload_n 0, 1) := by decide +kernel
theorem dX3_becomeLike_145 : decode cX3_becomeLike 145 = .ok (.aload_n 1, 1) := by decide +kernel
theorem dX3_becomeLike_146 : decode cX3_becomeLike 146 = .ok (.getfield 60, 3) := by decide +kernel
theorem dX3_becomeLike_149 : decode cX3_becomeLike 149 = .ok (.putfield 60, 3) := by decide +kernel
theorem dX3_becomeLike_152 : decode cX3_becomeLike 152 = .ok (.return_, 1) := by decide +kernel
theorem dX3_makeFree_0 : decode cX3_makeFree 0 = .ok (.aload_n 0, 1) := by decide +kernel
theorem dX3_makeFree_1 : decode cX3_makeFree 1 = .ok (.getfield 9, 3) := by decide +kernel
theorem dX3_makeFree_4 : decode cX3_makeFree 4 = .ok (.iload_n 1, 1) := by decide +kernel
theorem dX3_makeFree_5 : decode cX3_makeFree 5 = .ok (.iconst 0, 1) := by decide +kernel
theorem dX3_makeFree_6 : decode cX3_makeFree 6 = .ok (.iastore, 1) := by decide +kernel
theorem dX3_makeFree_7 : decode cX3_makeFree 7 = .ok (.aload_n 0, 1) := by decide +kernel
theorem dX3_makeFree_8 : decode cX3_makeFree 8 = .ok (.getfield 15, 3) := by decide +kernel
theorem dX3_makeFree_11 : decode cX3_makeFree 11 = .ok (.iload_n 1, 1) := by decide +kernel
theorem dX3_makeFree_12 : decode cX3_makeFree 12 = .ok (.iconst (-1), 1) := by decide +kernel
theorem dX3_makeFree_13 : decode cX3_makeFree 13 = .ok (.iastore, 1) := by decide +kernel
theorem dX3_makeFree_14 : decode cX3_makeFree 14 = .ok (.return_, 1) := by decide +kernel
theorem dX3_letIn_0 : decode cX3_letIn 0 = .ok (.aload_n 0, 1) := by decide +kernel
theorem dX3_letIn_1 : decode cX3_letIn 1 = .ok (.getfield 18, 3) := by decide +kernel
theorem dX3_letIn_4 : decode cX3_letIn 4 = .ok (.iload_n 1, 1) := by decide +kernel
theorem dX3_letIn_5 : decode cX3_letIn 5 = .ok (.dup2, 1) := by decide +kernel
theorem dX3_letIn_6 : decode cX3_letIn 6 = .ok (.iaload, 1) := by decide +kernel
theorem dX3_letIn_7 : decode cX3_letIn 7 = .ok (.iconst 1, 1) := by decide +kernel
theorem dX3_letIn_8 : decode cX3_letIn 8 = .ok (.iload_n 2, 1) := by decide +kernel
theorem dX3_letIn_9 : decode cX3_letIn 9 = .ok (.ishl, 1) := by decide +kernel
theorem dX3_letIn_10 : decode cX3_letIn 10 = .ok (.ior, 1) := by decide +kernel
theorem dX3_letIn_11 : decode cX3_letIn 11 = .ok (.iastore, 1) := by decide +kernel
theorem dX3_letIn_12 : decode cX3_letIn 12 = .ok (.aload_n 0, 1) := by decide +kernel
theorem dX3_letIn_13 : decode cX3_letIn 13 = .ok (.getfield 39, 3) := by decide +kernel
theorem dX3_letIn_16 : decode cX3_letIn 16 = .ok (.iload_n 2, 1) := by decide +kernel
theorem dX3_letIn_17 : decode cX3_letIn 17 = .ok (.dup2, 1) := by decide +kernel
theorem dX3_letIn_18 : decode cX3_letIn 18 = .ok (.iaload, 1) := by decide +kernel
theorem dX3_letIn_19 : decode cX3_letIn 19 = .ok (.iconst 1, 1) := by decide +kernel
theorem dX3_letIn_20 : decode cX3_letIn 20 = .ok (.iadd, 1) := by decide +kernel
theorem dX3_letIn_21 : decode cX3_letIn 21 = .ok (.iastore, 1) := by decide +kernel
theorem dX3_letIn_22 : decode cX3_letIn 22 = .ok (.return_, 1) := by decide +kernel
theorem dX3_isShut_0 : decode cX3_isShut 0 = .ok (.iload_n 1, 1) := by decide +kernel
theorem dX3_isShut_1 : decode cX3_isShut 1 = .ok (.invokestatic 64, 3) := by decide +kernel
theorem dX3_isShut_4 : decode cX3_isShut 4 = .ok (.ifCond .ne 13, 3) := by decide +kernel
theorem dX3_isShut_7 : decode cX3_isShut 7 = .ok (.aload_n 0, 1) := by decide +kernel
theorem dX3_isShut_8 : decode cX3_isShut 8 = .ok (.getfield 9, 3) := by decide +kernel
theorem dX3_isShut_11 : decode cX3_isShut 11 = .ok (.iload_n 1, 1) := by decide +kernel
theorem dX3_isShut_12 : decode cX3_isShut 12 = .ok (.iaload, 1) := by decide +kernel
theorem dX3_isShut_13 : decode cX3_isShut 13 = .ok (.iconst 1, 1) := by decide +kernel
theorem dX3_isShut_14 : decode cX3_isShut 14 = .ok (.if_icmp .ne 7, 3) := by decide +kernel
theorem dX3_isShut_17 : decode cX3_isShut 17 = .ok (.iconst 1, 1) := by decide +kernel
theorem dX3_isShut_18 : decode cX3_isShut 18 = .ok (.goto 4, 3) := by decide +kernel
theorem dX3_isShut_21 : decode cX3_isShut 21 = .ok (.iconst 0, 1) := by decide +kernel
theorem dX3_isShut_22 : decode cX3_isShut 22 = .ok (.ireturn, 1) := by decide +kernel
theorem dX3_isClosed_0 : decode cX3_isClosed 0 = .ok (.aload_n 0, 1) := by decide +kernel
theorem dX3_isClosed_1 : decode cX3_isClosed 1 = .ok (.getfield 9, 3) := by decide +kernel
theorem dX3_isClosed_4 : decode cX3_isClosed 4 = .ok (.astore_n 1, 1) := by decide +kernel
theorem dX3_isClosed_5 : decode cX3_isClosed 5 = .ok (.aload_n 1, 1) := by decide +kernel
theorem dX3_isClosed_6 : decode cX3_isClosed 6 = .ok (.arraylength, 1) := by decide +kernel
theorem dX3_isClosed_7 : decode cX3_isClosed 7 = .ok (.istore_n 2, 1) := by decide +kernel
theorem dX3_isClosed_8 : decode cX3_isClosed 8 = .ok (.iconst 0, 1) := by decide +kernel
theorem dX3_isClosed_9 : decode cX3_isClosed 9 = .ok (.istore_n 3, 1) := by decide +kernel
theorem dX3_isClosed_10 : decode cX3_isClosed 10 = .ok (.iload_n 3, 1) := by decide +kernel
theorem dX3_isClosed_11 : decode cX3_isClosed 11 = .ok (.iload_n 2, 1) := by decide +kernel
theorem dX3_isClosed_12 : decode cX3_isClosed 12 = .ok (.if_icmp .ge 28, 3) := by decide +kernel
theorem dX3_isClosed_15 : decode cX3_isClosed 15 = .ok (.aload_n 1, 1) := by decide +kernel
theorem dX3_isClosed_16 : decode cX3_isClosed 16 = .ok (.iload_n 3, 1) := by decide +kernel
theorem dX3_isClosed_17 : decode cX3_isClosed 17 = .ok (.iaload, 1) := by decide +kernel
theorem dX3_isClosed_18 : decode cX3_isClosed 18 = .ok (.istore 4, 2) := by decide +kernel
theorem dX3_isClosed_20 : decode cX3_isClosed 20 = .ok (.iload 4, 2) := by decide +kernel
theorem dX3_isClosed_22 : decode cX3_isClosed 22 = .ok (.iconst 2, 1) := by decide +kernel
theorem dX3_isClosed_23 : decode cX3_isClosed 23 = .ok (.if_icmp .eq 9, 3) := by decide +kernel
theorem dX3_isClosed_26 : decode cX3_isClosed 26 = .ok (.iload 4, 2) := by decide +kernel
theorem dX3_isClosed_28 : decode cX3_isClosed 28 = .ok (.iconst 3, 1) := by decide +kernel
theorem dX3_isClosed_29 : decode cX3_isClosed 29 = .ok (.if_icmp .ne 5, 3) := by decide +kernel
theorem dX3_isClosed_32 : decode cX3_isClosed 32 = .ok (.iconst 0, 1) := by decide +kernel
theorem dX3_isClosed_33 : decode cX3_isClosed 33 = .ok (.ireturn, 1) := by decide +kernel
theorem dX3_isClosed_34 : decode cX3_isClosed 34 = .ok (.iinc 3 1, 3) := by decide +kernel
theorem dX3_isClosed_37 : decode cX3_isClosed 37 = .ok (.goto (-27), 3) := by decide +kernel
theorem dX3_isClosed_40 : decode cX3_isClosed 40 = .ok (.iconst 1, 1) := by decide +kernel
theorem dX3_isClosed_41 : decode cX3_isClosed 41 = .ok (.ireturn, 1) := by decide +kernel
theorem dX3_isAllDyed_0 : decode cX3_isAllDyed 0 = .ok (.aload_n 0, 1) := by decide +kernel
theorem dX3_isAllDyed_1 : decode cX3_isAllDyed 1 = .ok (.getfield 18, 3) := by decide +kernel
theorem dX3_isAllDyed_4 : decode cX3_isAllDyed 4 = .ok (.iload_n 1, 1) := by decide +kernel
theorem dX3_isAllDyed_5 : decode cX3_isAllDyed 5 = .ok (.iaload, 1) := by decide +kernel
theorem dX3_isAllDyed_6 : decode cX3_isAllDyed 6 = .ok (.ifCond .eq 22, 3) := by decide +kernel
theorem dX3_isAllDyed_9 : decode cX3_isAllDyed 9 = .ok (.aload_n 0, 1) := by decide +kernel
theorem dX3_isAllDyed_10 : decode cX3_isAllDyed 10 = .ok (.getfield 21, 3) := by decide +kernel
theorem dX3_isAllDyed_13 : decode cX3_isAllDyed 13 = .ok (.iload_n 1, 1) := by decide +kernel
theorem dX3_isAllDyed_14 : decode cX3_isAllDyed 14 = .ok (.iaload, 1) := by decide +kernel
theorem dX3_isAllDyed_15 : decode cX3_isAllDyed 15 = .ok (.aload_n 0, 1) := by decide +kernel
theorem dX3_isAllDyed_16 : decode cX3_isAllDyed 16 = .ok (.getfield 18, 3) := by decide +kernel
theorem dX3_isAllDyed_19 : decode cX3_isAllDyed 19 = .ok (.iload_n 1, 1) := by decide +kernel
theorem dX3_isAllDyed_20 : decode cX3_isAllDyed 20 = .ok (.iaload, 1) := by decide +kernel
theorem dX3_isAllDyed_21 : decode cX3_isAllDyed 21 = .ok (.if_icmp .ne 7, 3) := by decide +kernel
theorem dX3_isAllDyed_24 : decode cX3_isAllDyed 24 = .ok (.iconst 1, 1) := by decide +kernel
theorem dX3_isAllDyed_25 : decode cX3_isAllDyed 25 = .ok (.goto 4, 3) := by decide +kernel
theorem dX3_isAllDyed_28 : decode cX3_isAllDyed 28 = .ok (.iconst 0, 1) := by decide +kernel
theorem dX3_isAllDyed_29 : decode cX3_isAllDyed 29 = .ok (.ireturn, 1) := by decide +kernel
theorem dX3_isAllPlain_0 : decode cX3_isAllPlain 0 = .ok (.aload_n 0, 1) := by decide +kernel
theorem dX3_isAllPlain_1 : decode cX3_isAllPlain 1 = .ok (.getfield 18, 3) := by decide +kernel
theorem dX3_isAllPlain_4 : decode cX3_isAllPlain 4 = .ok (.iload_n 1, 1) := by decide +kernel
theorem dX3_isAllPlain_5 : decode cX3_isAllPlain 5 = .ok (.iaload, 1) := by decide +kernel
theorem dX3_isAllPlain_6 : decode cX3_isAllPlain 6 = .ok (.ifCond .eq 16, 3) := by decide +kernel
theorem dX3_isAllPlain_9 : decode cX3_isAllPlain 9 = .ok (.aload_n 0, 1) := by decide +kernel
theorem dX3_isAllPlain_10 : decode cX3_isAllPlain 10 = .ok (.getfield 21, 3) := by decide +kernel
theorem dX3_isAllPlain_13 : decode cX3_isAllPlain 13 = .ok (.iload_n 1, 1) := by decide +kernel
theorem dX3_isAllPlain_14 : decode cX3_isAllPlain 14 = .ok (.iaload, 1) := by decide +kernel
theorem dX3_isAllPlain_15 : decode cX3_isAllPlain 15 = .ok (.ifCond .ne 7, 3) := by decide +kernel
theorem dX3_isAllPlain_18 : decode cX3_isAllPlain 18 = .ok (.iconst 1, 1) := by decide +kernel
theorem dX3_isAllPlain_19 : decode cX3_isAllPlain 19 = .ok (.goto 4, 3) := by decide +kernel
theorem dX3_isAllPlain_22 : decode cX3_isAllPlain 22 = .ok (.iconst 0, 1) := by decide +kernel
theorem dX3_isAllPlain_23 : decode cX3_isAllPlain 23 = .ok (.ireturn, 1) := by decide +kernel
theorem dX3_cellsOfBody_0 : decode cX3_cellsOfBody 0 = .ok (.iconst 0, 1) := by decide +kernel
theorem dX3_cellsOfBody_1 : decode cX3_cellsOfBody 1 = .ok (.istore_n 2, 1) := by decide +kernel
theorem dX3_cellsOfBody_2 : decode cX3_cellsOfBody 2 = .ok (.aload_n 0, 1) := by decide +kernel
theorem dX3_cellsOfBody_3 : decode cX3_cellsOfBody 3 = .ok (.getfield 15, 3) := by decide +kernel
theorem dX3_cellsOfBody_6 : decode cX3_cellsOfBody 6 = .ok (.astore_n 3, 1) := by decide +kernel
theorem dX3_cellsOfBody_7 : decode cX3_cellsOfBody 7 = .ok (.aload_n 3, 1) := by decide +kernel
theorem dX3_cellsOfBody_8 : decode cX3_cellsOfBody 8 = .ok (.arraylength, 1) := by decide +kernel
theorem dX3_cellsOfBody_9 : decode cX3_cellsOfBody 9 = .ok (.istore 4, 2) := by decide +kernel
theorem dX3_cellsOfBody_11 : decode cX3_cellsOfBody 11 = .ok (.iconst 0, 1) := by decide +kernel
theorem dX3_cellsOfBody_12 : decode cX3_cellsOfBody 12 = .ok (.istore 5, 2) := by decide +kernel
theorem dX3_cellsOfBody_14 : decode cX3_cellsOfBody 14 = .ok (.iload 5, 2) := by decide +kernel
theorem dX3_cellsOfBody_16 : decode cX3_cellsOfBody 16 = .ok (.iload 4, 2) := by decide +kernel
theorem dX3_cellsOfBody_18 : decode cX3_cellsOfBody 18 = .ok (.if_icmp .ge 29, 3) := by decide +kernel
theorem dX3_cellsOfBody_21 : decode cX3_cellsOfBody 21 = .ok (.aload_n 3, 1) := by decide +kernel
theorem dX3_cellsOfBody_22 : decode cX3_cellsOfBody 22 = .ok (.iload 5, 2) := by decide +kernel
theorem dX3_cellsOfBody_24 : decode cX3_cellsOfBody 24 = .ok (.iaload, 1) := by decide +kernel
theorem dX3_cellsOfBody_25 : decode cX3_cellsOfBody 25 = .ok (.istore 6, 2) := by decide +kernel
theorem dX3_cellsOfBody_27 : decode cX3_cellsOfBody 27 = .ok (.iload_n 2, 1) := by decide +kernel
theorem dX3_cellsOfBody_28 : decode cX3_cellsOfBody 28 = .ok (.iload 6, 2) := by decide +kernel
theorem dX3_cellsOfBody_30 : decode cX3_cellsOfBody 30 = .ok (.iload_n 1, 1) := by decide +kernel
theorem dX3_cellsOfBody_31 : decode cX3_cellsOfBody 31 = .ok (.if_icmp .ne 7, 3) := by decide +kernel
theorem dX3_cellsOfBody_34 : decode cX3_cellsOfBody 34 = .ok (.iconst 1, 1) := by decide +kernel
theorem dX3_cellsOfBody_35 : decode cX3_cellsOfBody 35 = .ok (.goto 4, 3) := by decide +kernel
theorem dX3_cellsOfBody_38 : decode cX3_cellsOfBody 38 = .ok (.iconst 0, 1) := by decide +kernel
theorem dX3_cellsOfBody_39 : decode cX3_cellsOfBody 39 = .ok (.iadd, 1) := by decide +kernel
theorem dX3_cellsOfBody_40 : decode cX3_cellsOfBody 40 = .ok (.istore_n 2, 1) := by decide +kernel
theorem dX3_cellsOfBody_41 : decode cX3_cellsOfBody 41 = .ok (.iinc 5 1, 3) := by decide +kernel
theorem dX3_cellsOfBody_44 : decode cX3_cellsOfBody 44 = .ok (.goto (-30), 3) := by decide +kernel
theorem dX3_cellsOfBody_47 : decode cX3_cellsOfBody 47 = .ok (.iload_n 2, 1) := by decide +kernel
theorem dX3_cellsOfBody_48 : decode cX3_cellsOfBody 48 = .ok (.ireturn, 1) := by decide +kernel
theorem dX3_numberAt_0 : decode cX3_numberAt 0 = .ok (.iload_n 2, 1) := by decide +kernel
theorem dX3_numberAt_1 : decode cX3_numberAt 1 = .ok (.ifCond .ne 15, 3) := by decide +kernel
theorem dX3_numberAt_4 : decode cX3_numberAt 4 = .ok (.aload_n 0, 1) := by decide +kernel
theorem dX3_numberAt_5 : decode cX3_numberAt 5 = .ok (.getfield 18, 3) := by decide +kernel
theorem dX3_numberAt_8 : decode cX3_numberAt 8 = .ok (.iload_n 1, 1) := by decide +kernel
theorem dX3_numberAt_9 : decode cX3_numberAt 9 = .ok (.iaload, 1) := by decide +kernel
theorem dX3_numberAt_10 : decode cX3_numberAt 10 = .ok (.invokestatic 68, 3) := by decide +kernel
theorem dX3_numberAt_13 : decode cX3_numberAt 13 = .ok (.goto 18, 3) := by decide +kernel
theorem dX3_numberAt_16 : decode cX3_numberAt 16 = .ok (.aload_n 0, 1) := by decide +kernel
theorem dX3_numberAt_17 : decode cX3_numberAt 17 = .ok (.iload_n 1, 1) := by decide +kernel
theorem dX3_numberAt_18 : decode cX3_numberAt 18 = .ok (.iload_n 2, 1) := by decide +kernel
theorem dX3_numberAt_19 : decode cX3_numberAt 19 = .ok (.iconst 1, 1) := by decide +kernel
theorem dX3_numberAt_20 : decode cX3_numberAt 20 = .ok (.if_icmp .ne 7, 3) := by decide +kernel
theorem dX3_numberAt_23 : decode cX3_numberAt 23 = .ok (.iconst 0, 1) := by decide +kernel
theorem dX3_numberAt_24 : decode cX3_numberAt 24 = .ok (.goto 4, 3) := by decide +kernel
theorem dX3_numberAt_27 : decode cX3_numberAt 27 = .ok (.iconst 1, 1) := by decide +kernel
theorem dX3_numberAt_28 : decode cX3_numberAt 28 = .ok (.invokevirtual 74, 3) := by decide +kernel
theorem dX3_numberAt_31 : decode cX3_numberAt 31 = .ok (.ireturn, 1) := by decide +kernel
theorem dX3_moreAt_0 : decode cX3_moreAt 0 = .ok (.aload_n 0, 1) := by decide +kernel
theorem dX3_moreAt_1 : decode cX3_moreAt 1 = .ok (.getfield 18, 3) := by decide +kernel
theorem dX3_moreAt_4 : decode cX3_moreAt 4 = .ok (.iload_n 1, 1) := by decide +kernel
theorem dX3_moreAt_5 : decode cX3_moreAt 5 = .ok (.iaload, 1) := by decide +kernel
theorem dX3_moreAt_6 : decode cX3_moreAt 6 = .ok (.iload_n 2, 1) := by decide +kernel
theorem dX3_moreAt_7 : decode cX3_moreAt 7 = .ok (.ishr, 1) := by decide +kernel
theorem dX3_moreAt_8 : decode cX3_moreAt 8 = .ok (.iconst 1, 1) := by decide +kernel
theorem dX3_moreAt_9 : decode cX3_moreAt 9 = .ok (.iand, 1) := by decide +kernel
theorem dX3_moreAt_10 : decode cX3_moreAt 10 = .ok (.aload_n 0, 1) := by decide +kernel
theorem dX3_moreAt_11 : decode cX3_moreAt 11 = .ok (.getfield 18, 3) := by decide +kernel
theorem dX3_moreAt_14 : decode cX3_moreAt 14 = .ok (.iload_n 1, 1) := by decide +kernel
theorem dX3_moreAt_15 : decode cX3_moreAt 15 = .ok (.iaload, 1) := by decide +kernel
theorem dX3_moreAt_16 : decode cX3_moreAt 16 = .ok (.iload_n 2, 1) := by decide +kernel
theorem dX3_moreAt_17 : decode cX3_moreAt 17 = .ok (.invokestatic 78, 3) := by decide +kernel
theorem dX3_moreAt_20 : decode cX3_moreAt 20 = .ok (.ishr, 1) := by decide +kernel
theorem dX3_moreAt_21 : decode cX3_moreAt 21 = .ok (.iconst 1, 1) := by decide +kernel
theorem dX3_moreAt_22 : decode cX3_moreAt 22 = .ok (.iand, 1) := by decide +kernel
theorem dX3_moreAt_23 : decode cX3_moreAt 23 = .ok (.isub, 1) := by decide +kernel
theorem dX3_moreAt_24 : decode cX3_moreAt 24 = .ok (.ireturn, 1) := by decide +kernel
theorem dX3_goingMore_0 : decode cX3_goingMore 0 = .ok (.iconst 0, 1) := by decide +kernel
theorem dX3_goingMore_1 : decode cX3_goingMore 1 = .ok (.istore_n 2, 1) := by decide +kernel
theorem dX3_goingMore_2 : decode cX3_goingMore 2 = .ok (.iconst 0, 1) := by decide +kernel
theorem dX3_goingMore_3 : decode cX3_goingMore 3 = .ok (.istore_n 3, 1) := by decide +kernel
theorem dX3_goingMore_4 : decode cX3_goingMore 4 = .ok (.iload_n 3, 1) := by decide +kernel
theorem dX3_goingMore_5 : decode cX3_goingMore 5 = .ok (.bipush 96, 2) := by decide +kernel
theorem dX3_goingMore_7 : decode cX3_goingMore 7 = .ok (.if_icmp .ge 18, 3) := by decide +kernel
theorem dX3_goingMore_10 : decode cX3_goingMore 10 = .ok (.iload_n 2, 1) := by decide +kernel
theorem dX3_goingMore_11 : decode cX3_goingMore 11 = .ok (.aload_n 0, 1) := by decide +kernel
theorem dX3_goingMore_12 : decode cX3_goingMore 12 = .ok (.iload_n 3, 1) := by decide +kernel
theorem dX3_goingMore_13 : decode cX3_goingMore 13 = .ok (.iload_n 1, 1) := by decide +kernel
theorem dX3_goingMore_14 : decode cX3_goingMore 14 = .ok (.invokevirtual 74, 3) := by decide +kernel
theorem dX3_goingMore_17 : decode cX3_goingMore 17 = .ok (.iadd, 1) := by decide +kernel
theorem dX3_goingMore_18 : decode cX3_goingMore 18 = .ok (.istore_n 2, 1) := by decide +kernel
theorem dX3_goingMore_19 : decode cX3_goingMore 19 = .ok (.iinc 3 1, 3) := by decide +kernel
theorem dX3_goingMore_22 : decode cX3_goingMore 22 = .ok (.goto (-18), 3) := by decide +kernel
theorem dX3_goingMore_25 : decode cX3_goingMore 25 = .ok (.iload_n 2, 1) := by decide +kernel
theorem dX3_goingMore_26 : decode cX3_goingMore 26 = .ok (.ireturn, 1) := by decide +kernel
theorem dX3_passStep_0 : decode cX3_passStep 0 = .ok (.aload_n 0, 1) := by decide +kernel
theorem dX3_passStep_1 : decode cX3_passStep 1 = .ok (.iconst 1, 1) := by decide +kernel
theorem dX3_passStep_2 : decode cX3_passStep 2 = .ok (.invokevirtual 81, 3) := by decide +kernel
theorem dX3_passStep_5 : decode cX3_passStep 5 = .ok (.aload_n 0, 1) := by decide +kernel
theorem dX3_passStep_6 : decode cX3_passStep 6 = .ok (.iconst 1, 1) := by decide +kernel
theorem dX3_passStep_7 : decode cX3_passStep 7 = .ok (.invokevirtual 85, 3) := by decide +kernel
theorem dX3_passStep_10 : decode cX3_passStep 10 = .ok (.aload_n 0, 1) := by decide +kernel
theorem dX3_passStep_11 : decode cX3_passStep 11 = .ok (.invokevirtual 88, 3) := by decide +kernel
theorem dX3_passStep_14 : decode cX3_passStep 14 = .ok (.aload_n 0, 1) := by decide +kernel
theorem dX3_passStep_15 : decode cX3_passStep 15 = .ok (.invokevirtual 91, 3) := by decide +kernel
theorem dX3_passStep_18 : decode cX3_passStep 18 = .ok (.return_, 1) := by decide +kernel
theorem dX3_undoStep_0 : decode cX3_undoStep 0 = .ok (.aload_n 0, 1) := by decide +kernel
theorem dX3_undoStep_1 : decode cX3_undoStep 1 = .ok (.invokevirtual 94, 3) := by decide +kernel
theorem dX3_undoStep_4 : decode cX3_undoStep 4 = .ok (.aload_n 0, 1) := by decide +kernel
theorem dX3_undoStep_5 : decode cX3_undoStep 5 = .ok (.iconst (-1), 1) := by decide +kernel
theorem dX3_undoStep_6 : decode cX3_undoStep 6 = .ok (.invokevirtual 85, 3) := by decide +kernel
theorem dX3_undoStep_9 : decode cX3_undoStep 9 = .ok (.aload_n 0, 1) := by decide +kernel
theorem dX3_undoStep_10 : decode cX3_undoStep 10 = .ok (.invokevirtual 94, 3) := by decide +kernel
theorem dX3_undoStep_13 : decode cX3_undoStep 13 = .ok (.aload_n 0, 1) := by decide +kernel
theorem dX3_undoStep_14 : decode cX3_undoStep 14 = .ok (.iconst (-1), 1) := by decide +kernel
theorem dX3_undoStep_15 : decode cX3_undoStep 15 = .ok (.invokevirtual 81, 3) := by decide +kernel
theorem dX3_undoStep_18 : decode cX3_undoStep 18 = .ok (.return_, 1) := by decide +kernel
theorem dX3_turnMeetings_0 : decode cX3_turnMeetings 0 = .ok (.iload_n 1, 1) := by decide +kernel
theorem dX3_turnMeetings_1 : decode cX3_turnMeetings 1 = .ok (.ifCond .le 7, 3) := by decide +kernel
theorem dX3_turnMeetings_4 : decode cX3_turnMeetings 4 = .ok (.iconst 1, 1) := by decide +kernel
theorem dX3_turnMeetings_5 : decode cX3_turnMeetings 5 = .ok (.goto 4, 3) := by decide +kernel
theorem dX3_turnMeetings_8 : decode cX3_turnMeetings 8 = .ok (.iconst 3, 1) := by decide +kernel
theorem dX3_turnMeetings_9 : decode cX3_turnMeetings 9 = .ok (.istore_n 2, 1) := by decide +kernel
theorem dX3_turnMeetings_10 : decode cX3_turnMeetings 10 = .ok (.iconst 0, 1) := by decide +kernel
theorem dX3_turnMeetings_11 : decode cX3_turnMeetings 11 = .ok (.istore_n 3, 1) := by decide +kernel
theorem dX3_turnMeetings_12 : decode cX3_turnMeetings 12 = .ok (.iload_n 3, 1) := by decide +kernel
theorem dX3_turnMeetings_13 : decode cX3_turnMeetings 13 = .ok (.bipush 96, 2) := by decide +kernel
theorem dX3_turnMeetings_15 : decode cX3_turnMeetings 15 = .ok (.if_icmp .ge 63, 3) := by decide +kernel
theorem dX3_turnMeetings_18 : decode cX3_turnMeetings 18 = .ok (.aload_n 0, 1) := by decide +kernel
theorem dX3_turnMeetings_19 : decode cX3_turnMeetings 19 = .ok (.getfield 18, 3) := by decide +kernel
theorem dX3_turnMeetings_22 : decode cX3_turnMeetings 22 = .ok (.iload_n 3, 1) := by decide +kernel
theorem dX3_turnMeetings_23 : decode cX3_turnMeetings 23 = .ok (.iaload, 1) := by decide +kernel
theorem dX3_turnMeetings_24 : decode cX3_turnMeetings 24 = .ok (.invokestatic 97, 3) := by decide +kernel
theorem dX3_turnMeetings_27 : decode cX3_turnMeetings 27 = .ok (.ifCond .eq 45, 3) := by decide +kernel
theorem dX3_turnMeetings_30 : decode cX3_turnMeetings 30 = .ok (.aload_n 0, 1) := by decide +kernel
theorem dX3_turnMeetings_31 : decode cX3_turnMeetings 31 = .ok (.getfield 18, 3) := by decide +kernel
theorem dX3_turnMeetings_34 : decode cX3_turnMeetings 34 = .ok (.iload_n 3, 1) := by decide +kernel
theorem dX3_turnMeetings_35 : decode cX3_turnMeetings 35 = .ok (.aload_n 0, 1) := by decide +kernel
theorem dX3_turnMeetings_36 : decode cX3_turnMeetings 36 = .ok (.getfield 18, 3) := by decide +kernel
theorem dX3_turnMeetings_39 : decode cX3_turnMeetings 39 = .ok (.iload_n 3, 1) := by decide +kernel
theorem dX3_turnMeetings_40 : decode cX3_turnMeetings 40 = .ok (.iaload, 1) := by decide +kernel
theorem dX3_turnMeetings_41 : decode cX3_turnMeetings 41 = .ok (.iload_n 2, 1) := by decide +kernel
theorem dX3_turnMeetings_42 : decode cX3_turnMeetings 42 = .ok (.invokestatic 100, 3) := by decide +kernel
theorem dX3_turnMeetings_45 : decode cX3_turnMeetings 45 = .ok (.iastore, 1) := by decide +kernel
theorem dX3_turnMeetings_46 : decode cX3_turnMeetings 46 = .ok (.aload_n 0, 1) := by decide +kernel
theorem dX3_turnMeetings_47 : decode cX3_turnMeetings 47 = .ok (.getfield 21, 3) := by decide +kernel
theorem dX3_turnMeetings_50 : decode cX3_turnMeetings 50 = .ok (.iload_n 3, 1) := by decide +kernel
theorem dX3_turnMeetings_51 : decode cX3_turnMeetings 51 = .ok (.aload_n 0, 1) := by decide +kernel
theorem dX3_turnMeetings_52 : decode cX3_turnMeetings 52 = .ok (.getfield 21, 3) := by decide +kernel
theorem dX3_turnMeetings_55 : decode cX3_turnMeetings 55 = .ok (.iload_n 3, 1) := by decide +kernel
theorem dX3_turnMeetings_56 : decode cX3_turnMeetings 56 = .ok (.iaload, 1) := by decide +kernel
theorem dX3_turnMeetings_57 : decode cX3_turnMeetings 57 = .ok (.iload_n 2, 1) := by decide +kernel
theorem dX3_turnMeetings_58 : decode cX3_turnMeetings 58 = .ok (.invokestatic 100, 3) := by decide +kernel
theorem dX3_turnMeetings_61 : decode cX3_turnMeetings 61 = .ok (.iastore, 1) := by decide +kernel
theorem dX3_turnMeetings_62 : decode cX3_turnMeetings 62 = .ok (.aload_n 0, 1) := by decide +kernel
theorem dX3_turnMeetings_63 : decode cX3_turnMeetings 63 = .ok (.dup, 1) := by decide +kernel
theorem dX3_turnMeetings_64 : decode cX3_turnMeetings 64 = .ok (.getfield 60, 3) := by decide +kernel
theorem dX3_turnMeetings_67 : decode cX3_turnMeetings 67 = .ok (.iload_n 1, 1) := by decide +kernel
theorem dX3_turnMeetings_68 : decode cX3_turnMeetings 68 = .ok (.iadd, 1) := by decide +kernel
theorem dX3_turnMeetings_69 : decode cX3_turnMeetings 69 = .ok (.putfield 60, 3) := by decide +kernel
theorem dX3_turnMeetings_72 : decode cX3_turnMeetings 72 = .ok (.iinc 3 1, 3) := by decide +kernel
theorem dX3_turnMeetings_75 : decode cX3_turnMeetings 75 = .ok (.goto (-63), 3) := by decide +kernel
theorem dX3_turnMeetings_78 : decode cX3_turnMeetings 78 = .ok (.return_, 1) := by decide +kernel
theorem dX3_turnRound_0 : decode cX3_turnRound 0 = .ok (.iconst 0, 1) := by decide +kernel
theorem dX3_turnRound_1 : decode cX3_turnRound 1 = .ok (.istore_n 1, 1) := by decide +kernel
theorem dX3_turnRound_2 : decode cX3_turnRound 2 = .ok (.iload_n 1, 1) := by decide +kernel
theorem dX3_turnRound_3 : decode cX3_turnRound 3 = .ok (.bipush 96, 2) := by decide +kernel
theorem dX3_turnRound_5 : decode cX3_turnRound 5 = .ok (.if_icmp .ge 41, 3) := by decide +kernel
theorem dX3_turnRound_8 : decode cX3_turnRound 8 = .ok (.aload_n 0, 1) := by decide +kernel
theorem dX3_turnRound_9 : decode cX3_turnRound 9 = .ok (.getfield 18, 3) := by decide +kernel
theorem dX3_turnRound_12 : decode cX3_turnRound 12 = .ok (.iload_n 1, 1) := by decide +kernel
theorem dX3_turnRound_13 : decode cX3_turnRound 13 = .ok (.aload_n 0, 1) := by decide +kernel
theorem dX3_turnRound_14 : decode cX3_turnRound 14 = .ok (.getfield 18, 3) := by decide +kernel
theorem dX3_turnRound_17 : decode cX3_turnRound 17 = .ok (.iload_n 1, 1) := by decide +kernel
theorem dX3_turnRound_18 : decode cX3_turnRound 18 = .ok (.iaload, 1) := by decide +kernel
theorem dX3_turnRound_19 : decode cX3_turnRound 19 = .ok (.iconst 2, 1) := by decide +kernel
theorem dX3_turnRound_20 : decode cX3_turnRound 20 = .ok (.invokestatic 100, 3) := by decide +kernel
theorem dX3_turnRound_23 : decode cX3_turnRound 23 = .ok (.iastore, 1) := by decide +kernel
theorem dX3_turnRound_24 : decode cX3_turnRound 24 = .ok (.aload_n 0, 1) := by decide +kernel
theorem dX3_turnRound_25 : decode cX3_turnRound 25 = .ok (.getfield 21, 3) := by decide +kernel
theorem dX3_turnRound_28 : decode cX3_turnRound 28 = .ok (.iload_n 1, 1) := by decide +kernel
theorem dX3_turnRound_29 : decode cX3_turnRound 29 = .ok (.aload_n 0, 1) := by decide +kernel
theorem dX3_turnRound_30 : decode cX3_turnRound 30 = .ok (.getfield 21, 3) := by decide +kernel
theorem dX3_turnRound_33 : decode cX3_turnRound 33 = .ok (.iload_n 1, 1) := by decide +kernel
theorem dX3_turnRound_34 : decode cX3_turnRound 34 = .ok (.iaload, 1) := by decide +kernel
theorem dX3_turnRound_35 : decode cX3_turnRound 35 = .ok (.iconst 2, 1) := by decide +kernel
theorem dX3_turnRound_36 : decode cX3_turnRound 36 = .ok (.invokestatic 100, 3) := by decide +kernel
theorem dX3_turnRound_39 : decode cX3_turnRound 39 = .ok (.iastore, 1) := by decide +kernel
theorem dX3_turnRound_40 : decode cX3_turnRound 40 = .ok (.iinc 1 1, 3) := by decide +kernel
theorem dX3_turnRound_43 : decode cX3_turnRound 43 = .ok (.goto (-41), 3) := by decide +kernel
theorem dX3_turnRound_46 : decode cX3_turnRound 46 = .ok (.return_, 1) := by decide +kernel
theorem dX3_hopAll_0 : decode cX3_hopAll 0 = .ok (.aload_n 0, 1) := by decide +kernel
theorem dX3_hopAll_1 : decode cX3_hopAll 1 = .ok (.getfield 24, 3) := by decide +kernel
theorem dX3_hopAll_4 : decode cX3_hopAll 4 = .ok (.iconst 0, 1) := by decide +kernel
theorem dX3_hopAll_5 : decode cX3_hopAll 5 = .ok (.invokestatic 48, 3) := by decide +kernel
theorem dX3_hopAll_8 : decode cX3_hopAll 8 = .ok (.aload_n 0, 1) := by decide +kernel
theorem dX3_hopAll_9 : decode cX3_hopAll 9 = .ok (.getfield 27, 3) := by decide +kernel
theorem dX3_hopAll_12 : decode cX3_hopAll 12 = .ok (.iconst 0, 1) := by decide +kernel
theorem dX3_hopAll_13 : decode cX3_hopAll 13 = .ok (.invokestatic 48, 3) := by decide +kernel
theorem dX3_hopAll_16 : decode cX3_hopAll 16 = .ok (.iconst 0, 1) := by decide +kernel
theorem dX3_hopAll_17 : decode cX3_hopAll 17 = .ok (.istore_n 2, 1) := by decide +kernel
theorem dX3_hopAll_18 : decode cX3_hopAll 18 = .ok (.iload_n 2, 1) := by decide +kernel
theorem dX3_hopAll_19 : decode cX3_hopAll 19 = .ok (.bipush 96, 2) := by decide +kernel
theorem dX3_hopAll_21 : decode cX3_hopAll 21 = .ok (.if_icmp .ge 51, 3) := by decide +kernel
theorem dX3_hopAll_24 : decode cX3_hopAll 24 = .ok (.iconst 0, 1) := by decide +kernel
theorem dX3_hopAll_25 : decode cX3_hopAll 25 = .ok (.istore_n 3, 1) := by decide +kernel
theorem dX3_hopAll_26 : decode cX3_hopAll 26 = .ok (.iload_n 3, 1) := by decide +kernel
theorem dX3_hopAll_27 : decode cX3_hopAll 27 = .ok (.iconst 4, 1) := by decide +kernel
theorem dX3_hopAll_28 : decode cX3_hopAll 28 = .ok (.if_icmp .ge 38, 3) := by decide +kernel
theorem dX3_hopAll_31 : decode cX3_hopAll 31 = .ok (.aload_n 0, 1) := by decide +kernel
theorem dX3_hopAll_32 : decode cX3_hopAll 32 = .ok (.getfield 18, 3) := by decide +kernel
theorem dX3_hopAll_35 : decode cX3_hopAll 35 = .ok (.iload_n 2, 1) := by decide +kernel
theorem dX3_hopAll_36 : decode cX3_hopAll 36 = .ok (.iaload, 1) := by decide +kernel
theorem dX3_hopAll_37 : decode cX3_hopAll 37 = .ok (.ifCond .eq 29, 3) := by decide +kernel
theorem dX3_hopAll_40 : decode cX3_hopAll 40 = .ok (.aload_n 0, 1) := by decide +kernel
theorem dX3_hopAll_41 : decode cX3_hopAll 41 = .ok (.getfield 18, 3) := by decide +kernel
theorem dX3_hopAll_44 : decode cX3_hopAll 44 = .ok (.iload_n 2, 1) := by decide +kernel
theorem dX3_hopAll_45 : decode cX3_hopAll 45 = .ok (.iaload, 1) := by decide +kernel
theorem dX3_hopAll_46 : decode cX3_hopAll 46 = .ok (.iload_n 3, 1) := by decide +kernel
theorem dX3_hopAll_47 : decode cX3_hopAll 47 = .ok (.invokestatic 103, 3) := by decide +kernel
theorem dX3_hopAll_50 : decode cX3_hopAll 50 = .ok (.ifCond .eq 10, 3) := by decide +kernel
theorem dX3_hopAll_53 : decode cX3_hopAll 53 = .ok (.aload_n 0, 1) := by decide +kernel
theorem dX3_hopAll_54 : decode cX3_hopAll 54 = .ok (.iload_n 2, 1) := by decide +kernel
theorem dX3_hopAll_55 : decode cX3_hopAll 55 = .ok (.iload_n 3, 1) := by decide +kernel
theorem dX3_hopAll_56 : decode cX3_hopAll 56 = .ok (.iload_n 1, 1) := by decide +kernel
theorem dX3_hopAll_57 : decode cX3_hopAll 57 = .ok (.invokevirtual 107, 3) := by decide +kernel
theorem dX3_hopAll_60 : decode cX3_hopAll 60 = .ok (.iinc 3 1, 3) := by decide +kernel
theorem dX3_hopAll_63 : decode cX3_hopAll 63 = .ok (.goto (-37), 3) := by decide +kernel
theorem dX3_hopAll_66 : decode cX3_hopAll 66 = .ok (.iinc 2 1, 3) := by decide +kernel
theorem dX3_hopAll_69 : decode cX3_hopAll 69 = .ok (.goto (-51), 3) := by decide +kernel
theorem dX3_hopAll_72 : decode cX3_hopAll 72 = .ok (.aload_n 0, 1) := by decide +kernel
theorem dX3_hopAll_73 : decode cX3_hopAll 73 = .ok (.getfield 24, 3) := by decide +kernel
theorem dX3_hopAll_76 : decode cX3_hopAll 76 = .ok (.iconst 0, 1) := by decide +kernel
theorem dX3_hopAll_77 : decode cX3_hopAll 77 = .ok (.aload_n 0, 1) := by decide +kernel
theorem dX3_hopAll_78 : decode cX3_hopAll 78 = .ok (.getfield 18, 3) := by decide +kernel
theorem dX3_hopAll_81 : decode cX3_hopAll 81 = .ok (.iconst 0, 1) := by decide +kernel
theorem dX3_hopAll_82 : decode cX3_hopAll 82 = .ok (.bipush 96, 2) := by decide +kernel
theorem dX3_hopAll_84 : decode cX3_hopAll 84 = .ok (.invokestatic 54, 3) := by decide +kernel
theorem dX3_hopAll_87 : decode cX3_hopAll 87 = .ok (.aload_n 0, 1) := by decide +kernel
theorem dX3_hopAll_88 : decode cX3_hopAll 88 = .ok (.getfield 27, 3) := by decide +kernel
theorem dX3_hopAll_91 : decode cX3_hopAll 91 = .ok (.iconst 0, 1) := by decide +kernel
theorem dX3_hopAll_92 : decode cX3_hopAll 92 = .ok (.aload_n 0, 1) := by decide +kernel
theorem dX3_hopAll_93 : decode cX3_hopAll 93 = .ok (.getfield 21, 3) := by decide +kernel
theorem dX3_hopAll_96 : decode cX3_hopAll 96 = .ok (.iconst 0, 1) := by decide +kernel
theorem dX3_hopAll_97 : decode cX3_hopAll 97 = .ok (.bipush 96, 2) := by decide +kernel
theorem dX3_hopAll_99 : decode cX3_hopAll 99 = .ok (.invokestatic 54, 3) := by decide +kernel
theorem dX3_hopAll_102 : decode cX3_hopAll 102 = .ok (.return_, 1) := by decide +kernel
theorem dX3_hopOne_0 : decode cX3_hopOne 0 = .ok (.iload_n 1, 1) := by decide +kernel
theorem dX3_hopOne_1 : decode cX3_hopOne 1 = .ok (.iload_n 2, 1) := by decide +kernel
theorem dX3_hopOne_2 : decode cX3_hopOne 2 = .ok (.invokestatic 111, 3) := by decide +kernel
theorem dX3_hopOne_5 : decode cX3_hopOne 5 = .ok (.istore 4, 2) := by decide +kernel
theorem dX3_hopOne_7 : decode cX3_hopOne 7 = .ok (.iload 4, 2) := by decide +kernel
theorem dX3_hopOne_9 : decode cX3_hopOne 9 = .ok (.istore 5, 2) := by decide +kernel
theorem dX3_hopOne_11 : decode cX3_hopOne 11 = .ok (.iload_n 2, 1) := by decide +kernel
theorem dX3_hopOne_12 : decode cX3_hopOne 12 = .ok (.istore 6, 2) := by decide +kernel
theorem dX3_hopOne_14 : decode cX3_hopOne 14 = .ok (.aload_n 0, 1) := by decide +kernel
theorem dX3_hopOne_15 : decode cX3_hopOne 15 = .ok (.iload 4, 2) := by decide +kernel
theorem dX3_hopOne_17 : decode cX3_hopOne 17 = .ok (.invokevirtual 114, 3) := by decide +kernel
theorem dX3_hopOne_20 : decode cX3_hopOne 20 = .ok (.ifCond .eq 20, 3) := by decide +kernel
theorem dX3_hopOne_23 : decode cX3_hopOne 23 = .ok (.aload_n 0, 1) := by decide +kernel
theorem dX3_hopOne_24 : decode cX3_hopOne 24 = .ok (.iload 4, 2) := by decide +kernel
theorem dX3_hopOne_26 : decode cX3_hopOne 26 = .ok (.iload_n 2, 1) := by decide +kernel
theorem dX3_hopOne_27 : decode cX3_hopOne 27 = .ok (.iload_n 3, 1) := by decide +kernel
theorem dX3_hopOne_28 : decode cX3_hopOne 28 = .ok (.invokevirtual 117, 3) := by decide +kernel
theorem dX3_hopOne_31 : decode cX3_hopOne 31 = .ok (.iload_n 1, 1) := by decide +kernel
theorem dX3_hopOne_32 : decode cX3_hopOne 32 = .ok (.istore 5, 2) := by decide +kernel
theorem dX3_hopOne_34 : decode cX3_hopOne 34 = .ok (.iload_n 2, 1) := by decide +kernel
theorem dX3_hopOne_35 : decode cX3_hopOne 35 = .ok (.invokestatic 78, 3) := by decide +kernel
theorem dX3_hopOne_38 : decode cX3_hopOne 38 = .ok (.istore 6, 2) := by decide +kernel
theorem dX3_hopOne_40 : decode cX3_hopOne 40 = .ok (.aload_n 0, 1) := by decide +kernel
theorem dX3_hopOne_41 : decode cX3_hopOne 41 = .ok (.getfield 24, 3) := by decide +kernel
theorem dX3_hopOne_44 : decode cX3_hopOne 44 = .ok (.iload 5, 2) := by decide +kernel
theorem dX3_hopOne_46 : decode cX3_hopOne 46 = .ok (.dup2, 1) := by decide +kernel
theorem dX3_hopOne_47 : decode cX3_hopOne 47 = .ok (.iaload, 1) := by decide +kernel
theorem dX3_hopOne_48 : decode cX3_hopOne 48 = .ok (.iconst 1, 1) := by decide +kernel
theorem dX3_hopOne_49 : decode cX3_hopOne 49 = .ok (.iload 6, 2) := by decide +kernel
theorem dX3_hopOne_51 : decode cX3_hopOne 51 = .ok (.ishl, 1) := by decide +kernel
theorem dX3_hopOne_52 : decode cX3_hopOne 52 = .ok (.ior, 1) := by decide +kernel
theorem dX3_hopOne_53 : decode cX3_hopOne 53 = .ok (.iastore, 1) := by decide +kernel
theorem dX3_hopOne_54 : decode cX3_hopOne 54 = .ok (.aload_n 0, 1) := by decide +kernel
theorem dX3_hopOne_55 : decode cX3_hopOne 55 = .ok (.getfield 27, 3) := by decide +kernel
theorem dX3_hopOne_58 : decode cX3_hopOne 58 = .ok (.iload 5, 2) := by decide +kernel
theorem dX3_hopOne_60 : decode cX3_hopOne 60 = .ok (.dup2, 1) := by decide +kernel
theorem dX3_hopOne_61 : decode cX3_hopOne 61 = .ok (.iaload, 1) := by decide +kernel
theorem dX3_hopOne_62 : decode cX3_hopOne 62 = .ok (.aload_n 0, 1) := by decide +kernel
theorem dX3_hopOne_63 : decode cX3_hopOne 63 = .ok (.getfield 21, 3) := by decide +kernel
theorem dX3_hopOne_66 : decode cX3_hopOne 66 = .ok (.iload_n 1, 1) := by decide +kernel
theorem dX3_hopOne_67 : decode cX3_hopOne 67 = .ok (.iaload, 1) := by decide +kernel
theorem dX3_hopOne_68 : decode cX3_hopOne 68 = .ok (.iload_n 2, 1) := by decide +kernel
theorem dX3_hopOne_69 : decode cX3_hopOne 69 = .ok (.ishr, 1) := by decide +kernel
theorem dX3_hopOne_70 : decode cX3_hopOne 70 = .ok (.iconst 1, 1) := by decide +kernel
theorem dX3_hopOne_71 : decode cX3_hopOne 71 = .ok (.iand, 1) := by decide +kernel
theorem dX3_hopOne_72 : decode cX3_hopOne 72 = .ok (.iload 6, 2) := by decide +kernel
theorem dX3_hopOne_74 : decode cX3_hopOne 74 = .ok (.ishl, 1) := by decide +kernel
theorem dX3_hopOne_75 : decode cX3_hopOne 75 = .ok (.ior, 1) := by decide +kernel
theorem dX3_hopOne_76 : decode cX3_hopOne 76 = .ok (.iastore, 1) := by decide +kernel
theorem dX3_hopOne_77 : decode cX3_hopOne 77 = .ok (.return_, 1) := by decide +kernel
theorem dX3_countHit_0 : decode cX3_countHit 0 = .ok (.aload_n 0, 1) := by decide +kernel
theorem dX3_countHit_1 : decode cX3_countHit 1 = .ok (.getfield 45, 3) := by decide +kernel
theorem dX3_countHit_4 : decode cX3_countHit 4 = .ok (.iload_n 2, 1) := by decide +kernel
theorem dX3_countHit_5 : decode cX3_countHit 5 = .ok (.dup2, 1) := by decide +kernel
theorem dX3_countHit_6 : decode cX3_countHit 6 = .ok (.iaload, 1) := by decide +kernel
theorem dX3_countHit_7 : decode cX3_countHit 7 = .ok (.iload_n 3, 1) := by decide +kernel
theorem dX3_countHit_8 : decode cX3_countHit 8 = .ok (.iadd, 1) := by decide +kernel
theorem dX3_countHit_9 : decode cX3_countHit 9 = .ok (.iastore, 1) := by decide +kernel
theorem dX3_countHit_10 : decode cX3_countHit 10 = .ok (.iload_n 1, 1) := by decide +kernel
theorem dX3_countHit_11 : decode cX3_countHit 11 = .ok (.invokestatic 64, 3) := by decide +kernel
theorem dX3_countHit_14 : decode cX3_countHit 14 = .ok (.ifCond .ne 15, 3) := by decide +kernel
theorem dX3_countHit_17 : decode cX3_countHit 17 = .ok (.aload_n 0, 1) := by decide +kernel
theorem dX3_countHit_18 : decode cX3_countHit 18 = .ok (.getfield 15, 3) := by decide +kernel
theorem dX3_countHit_21 : decode cX3_countHit 21 = .ok (.iload_n 1, 1) := by decide +kernel
theorem dX3_countHit_22 : decode cX3_countHit 22 = .ok (.iaload, 1) := by decide +kernel
theorem dX3_countHit_23 : decode cX3_countHit 23 = .ok (.invokestatic 120, 3) := by decide +kernel
theorem dX3_countHit_26 : decode cX3_countHit 26 = .ok (.ifCond .eq 4, 3) := by decide +kernel
theorem dX3_countHit_29 : decode cX3_countHit 29 = .ok (.return_, 1) := by decide +kernel
theorem dX3_countHit_30 : decode cX3_countHit 30 = .ok (.aload_n 0, 1) := by decide +kernel
theorem dX3_countHit_31 : decode cX3_countHit 31 = .ok (.getfield 15, 3) := by decide +kernel
theorem dX3_countHit_34 : decode cX3_countHit 34 = .ok (.iload_n 1, 1) := by decide +kernel
theorem dX3_countHit_35 : decode cX3_countHit 35 = .ok (.iaload, 1) := by decide +kernel
theorem dX3_countHit_36 : decode cX3_countHit 36 = .ok (.istore 4, 2) := by decide +kernel
theorem dX3_countHit_38 : decode cX3_countHit 38 = .ok (.aload_n 0, 1) := by decide +kernel
theorem dX3_countHit_39 : decode cX3_countHit 39 = .ok (.getfield 30, 3) := by decide +kernel
theorem dX3_countHit_42 : decode cX3_countHit 42 = .ok (.iload 4, 2) := by decide +kernel
theorem dX3_countHit_44 : decode cX3_countHit 44 = .ok (.dup2, 1) := by decide +kernel
theorem dX3_countHit_45 : decode cX3_countHit 45 = .ok (.iaload, 1) := by decide +kernel
theorem dX3_countHit_46 : decode cX3_countHit 46 = .ok (.iload_n 3, 1) := by decide +kernel
theorem dX3_countHit_47 : decode cX3_countHit 47 = .ok (.iadd, 1) := by decide +kernel
theorem dX3_countHit_48 : decode cX3_countHit 48 = .ok (.iastore, 1) := by decide +kernel
theorem dX3_countHit_49 : decode cX3_countHit 49 = .ok (.iload_n 2, 1) := by decide +kernel
theorem dX3_countHit_50 : decode cX3_countHit 50 = .ok (.ifCond .eq 8, 3) := by decide +kernel
theorem dX3_countHit_53 : decode cX3_countHit 53 = .ok (.iload_n 2, 1) := by decide +kernel
theorem dX3_countHit_54 : decode cX3_countHit 54 = .ok (.iconst 1, 1) := by decide +kernel
theorem dX3_countHit_55 : decode cX3_countHit 55 = .ok (.if_icmp .ne 9, 3) := by decide +kernel
theorem dX3_countHit_58 : decode cX3_countHit 58 = .ok (.iconst 2, 1) := by decide +kernel
theorem dX3_countHit_59 : decode cX3_countHit 59 = .ok (.iload_n 3, 1) := by decide +kernel
theorem dX3_countHit_60 : decode cX3_countHit 60 = .ok (.imul, 1) := by decide +kernel
theorem dX3_countHit_61 : decode cX3_countHit 61 = .ok (.goto 7, 3) := by decide +kernel
theorem dX3_countHit_64 : decode cX3_countHit 64 = .ok (.bipush (-2), 2) := by decide +kernel
theorem dX3_countHit_66 : decode cX3_countHit 66 = .ok (.iload_n 3, 1) := by decide +kernel
theorem dX3_countHit_67 : decode cX3_countHit 67 = .ok (.imul, 1) := by decide +kernel
theorem dX3_countHit_68 : decode cX3_countHit 68 = .ok (.istore 5, 2) := by decide +kernel
theorem dX3_countHit_70 : decode cX3_countHit 70 = .ok (.iload_n 2, 1) := by decide +kernel
theorem dX3_countHit_71 : decode cX3_countHit 71 = .ok (.ifCond .eq 8, 3) := by decide +kernel
theorem dX3_countHit_74 : decode cX3_countHit 74 = .ok (.iload_n 2, 1) := by decide +kernel
theorem dX3_countHit_75 : decode cX3_countHit 75 = .ok (.iconst 2, 1) := by decide +kernel
theorem dX3_countHit_76 : decode cX3_countHit 76 = .ok (.if_icmp .ne 18, 3) := by decide +kernel
theorem dX3_countHit_79 : decode cX3_countHit 79 = .ok (.aload_n 0, 1) := by decide +kernel
theorem dX3_countHit_80 : decode cX3_countHit 80 = .ok (.getfield 33, 3) := by decide +kernel
theorem dX3_countHit_83 : decode cX3_countHit 83 = .ok (.iload 4, 2) := by decide +kernel
theorem dX3_countHit_85 : decode cX3_countHit 85 = .ok (.dup2, 1) := by decide +kernel
theorem dX3_countHit_86 : decode cX3_countHit 86 = .ok (.iaload, 1) := by decide +kernel
theorem dX3_countHit_87 : decode cX3_countHit 87 = .ok (.iload 5, 2) := by decide +kernel
theorem dX3_countHit_89 : decode cX3_countHit 89 = .ok (.iadd, 1) := by decide +kernel
theorem dX3_countHit_90 : decode cX3_countHit 90 = .ok (.iastore, 1) := by decide +kernel
theorem dX3_countHit_91 : decode cX3_countHit 91 = .ok (.goto 15, 3) := by decide +kernel
theorem dX3_countHit_94 : decode cX3_countHit 94 = .ok (.aload_n 0, 1) := by decide +kernel
theorem dX3_countHit_95 : decode cX3_countHit 95 = .ok (.getfield 36, 3) := by decide +kernel
theorem dX3_countHit_98 : decode cX3_countHit 98 = .ok (.iload 4, 2) := by decide +kernel
theorem dX3_countHit_100 : decode cX3_countHit 100 = .ok (.dup2, 1) := by decide +kernel
theorem dX3_countHit_101 : decode cX3_countHit 101 = .ok (.iaload, 1) := by decide +kernel
theorem dX3_countHit_102 : decode cX3_countHit 102 = .ok (.iload 5, 2) := by decide +kernel
theorem dX3_countHit_104 : decode cX3_countHit 104 = .ok (.iadd, 1) := by decide +kernel
theorem dX3_countHit_105 : decode cX3_countHit 105 = .ok (.iastore, 1) := by decide +kernel
theorem dX3_countHit_106 : decode cX3_countHit 106 = .ok (.return_, 1) := by decide +kernel
theorem dX3_emptyOutlets_0 : decode cX3_emptyOutlets 0 = .ok (.iconst 0, 1) := by decide +kernel
theorem dX3_emptyOutlets_1 : decode cX3_emptyOutlets 1 = .ok (.istore_n 1, 1) := by decide +kernel
theorem dX3_emptyOutlets_2 : decode cX3_emptyOutlets 2 = .ok (.iload_n 1, 1) := by decide +kernel
theorem dX3_emptyOutlets_3 : decode cX3_emptyOutlets 3 = .ok (.bipush 96, 2) := by decide +kernel
theorem dX3_emptyOutlets_5 : decode cX3_emptyOutlets 5 = .ok (.if_icmp .ge 65, 3) := by decide +kernel
theorem dX3_emptyOutlets_8 : decode cX3_emptyOutlets 8 = .ok (.aload_n 0, 1) := by decide +kernel
theorem dX3_emptyOutlets_9 : decode cX3_emptyOutlets 9 = .ok (.getfield 9, 3) := by decide +kernel
theorem dX3_emptyOutlets_12 : decode cX3_emptyOutlets 12 = .ok (.iload_n 1, 1) := by decide +kernel
theorem dX3_emptyOutlets_13 : decode cX3_emptyOutlets 13 = .ok (.iaload, 1) := by decide +kernel
theorem dX3_emptyOutlets_14 : decode cX3_emptyOutlets 14 = .ok (.iconst 3, 1) := by decide +kernel
theorem dX3_emptyOutlets_15 : decode cX3_emptyOutlets 15 = .ok (.if_icmp .ne 49, 3) := by decide +kernel
theorem dX3_emptyOutlets_18 : decode cX3_emptyOutlets 18 = .ok (.iconst 0, 1) := by decide +kernel
theorem dX3_emptyOutlets_19 : decode cX3_emptyOutlets 19 = .ok (.istore_n 2, 1) := by decide +kernel
theorem dX3_emptyOutlets_20 : decode cX3_emptyOutlets 20 = .ok (.iload_n 2, 1) := by decide +kernel
theorem dX3_emptyOutlets_21 : decode cX3_emptyOutlets 21 = .ok (.iconst 4, 1) := by decide +kernel
theorem dX3_emptyOutlets_22 : decode cX3_emptyOutlets 22 = .ok (.if_icmp .ge 28, 3) := by decide +kernel
theorem dX3_emptyOutlets_25 : decode cX3_emptyOutlets 25 = .ok (.aload_n 0, 1) := by decide +kernel
theorem dX3_emptyOutlets_26 : decode cX3_emptyOutlets 26 = .ok (.getfield 42, 3) := by decide +kernel
theorem dX3_emptyOutlets_29 : decode cX3_emptyOutlets 29 = .ok (.iload_n 2, 1) := by decide +kernel
theorem dX3_emptyOutlets_30 : decode cX3_emptyOutlets 30 = .ok (.dup2, 1) := by decide +kernel
theorem dX3_emptyOutlets_31 : decode cX3_emptyOutlets 31 = .ok (.iaload, 1) := by decide +kernel
theorem dX3_emptyOutlets_32 : decode cX3_emptyOutlets 32 = .ok (.aload_n 0, 1) := by decide +kernel
theorem dX3_emptyOutlets_33 : decode cX3_emptyOutlets 33 = .ok (.getfield 18, 3) := by decide +kernel
theorem dX3_emptyOutlets_36 : decode cX3_emptyOutlets 36 = .ok (.iload_n 1, 1) := by decide +kernel
theorem dX3_emptyOutlets_37 : decode cX3_emptyOutlets 37 = .ok (.iaload, 1) := by decide +kernel
theorem dX3_emptyOutlets_38 : decode cX3_emptyOutlets 38 = .ok (.iload_n 2, 1) := by decide +kernel
theorem dX3_emptyOutlets_39 : decode cX3_emptyOutlets 39 = .ok (.ishr, 1) := by decide +kernel
theorem dX3_emptyOutlets_40 : decode cX3_emptyOutlets 40 = .ok (.iconst 1, 1) := by decide +kernel
theorem dX3_emptyOutlets_41 : decode cX3_emptyOutlets 41 = .ok (.iand, 1) := by decide +kernel
theorem dX3_emptyOutlets_42 : decode cX3_emptyOutlets 42 = .ok (.iadd, 1) := by decide +kernel
theorem dX3_emptyOutlets_43 : decode cX3_emptyOutlets 43 = .ok (.iastore, 1) := by decide +kernel
theorem dX3_emptyOutlets_44 : decode cX3_emptyOutlets 44 = .ok (.iinc 2 1, 3) := by decide +kernel
theorem dX3_emptyOutlets_47 : decode cX3_emptyOutlets 47 = .ok (.goto (-27), 3) := by decide +kernel
theorem dX3_emptyOutlets_50 : decode cX3_emptyOutlets 50 = .ok (.aload_n 0, 1) := by decide +kernel
theorem dX3_emptyOutlets_51 : decode cX3_emptyOutlets 51 = .ok (.getfield 18, 3) := by decide +kernel
theorem dX3_emptyOutlets_54 : decode cX3_emptyOutlets 54 = .ok (.iload_n 1, 1) := by decide +kernel
theorem dX3_emptyOutlets_55 : decode cX3_emptyOutlets 55 = .ok (.iconst 0, 1) := by decide +kernel
theorem dX3_emptyOutlets_56 : decode cX3_emptyOutlets 56 = .ok (.iastore, 1) := by decide +kernel
theorem dX3_emptyOutlets_57 : decode cX3_emptyOutlets 57 = .ok (.aload_n 0, 1) := by decide +kernel
theorem dX3_emptyOutlets_58 : decode cX3_emptyOutlets 58 = .ok (.getfield 21, 3) := by decide +kernel
theorem dX3_emptyOutlets_61 : decode cX3_emptyOutlets 61 = .ok (.iload_n 1, 1) := by decide +kernel
theorem dX3_emptyOutlets_62 : decode cX3_emptyOutlets 62 = .ok (.iconst 0, 1) := by decide +kernel
theorem dX3_emptyOutlets_63 : decode cX3_emptyOutlets 63 = .ok (.iastore, 1) := by decide +kernel
theorem dX3_emptyOutlets_64 : decode cX3_emptyOutlets 64 = .ok (.iinc 1 1, 3) := by decide +kernel
theorem dX3_emptyOutlets_67 : decode cX3_emptyOutlets 67 = .ok (.goto (-65), 3) := by decide +kernel
theorem dX3_emptyOutlets_70 : decode cX3_emptyOutlets 70 = .ok (.return_, 1) := by decide +kernel
theorem dX3_fillInlets_0 : decode cX3_fillInlets 0 = .ok (.iconst 0, 1) := by decide +kernel
theorem dX3_fillInlets_1 : decode cX3_fillInlets 1 = .ok (.istore_n 1, 1) := by decide +kernel
theorem dX3_fillInlets_2 : decode cX3_fillInlets 2 = .ok (.iload_n 1, 1) := by decide +kernel
theorem dX3_fillInlets_3 : decode cX3_fillInlets 3 = .ok (.bipush 96, 2) := by decide +kernel
theorem dX3_fillInlets_5 : decode cX3_fillInlets 5 = .ok (.if_icmp .ge 38, 3) := by decide +kernel
theorem dX3_fillInlets_8 : decode cX3_fillInlets 8 = .ok (.aload_n 0, 1) := by decide +kernel
theorem dX3_fillInlets_9 : decode cX3_fillInlets 9 = .ok (.getfield 9, 3) := by decide +kernel
theorem dX3_fillInlets_12 : decode cX3_fillInlets 12 = .ok (.iload_n 1, 1) := by decide +kernel
theorem dX3_fillInlets_13 : decode cX3_fillInlets 13 = .ok (.iaload, 1) := by decide +kernel
theorem dX3_fillInlets_14 : decode cX3_fillInlets 14 = .ok (.iconst 2, 1) := by decide +kernel
theorem dX3_fillInlets_15 : decode cX3_fillInlets 15 = .ok (.if_icmp .ne 22, 3) := by decide +kernel
theorem dX3_fillInlets_18 : decode cX3_fillInlets 18 = .ok (.aload_n 0, 1) := by decide +kernel
theorem dX3_fillInlets_19 : decode cX3_fillInlets 19 = .ok (.getfield 18, 3) := by decide +kernel
theorem dX3_fillInlets_22 : decode cX3_fillInlets 22 = .ok (.iload_n 1, 1) := by decide +kernel
theorem dX3_fillInlets_23 : decode cX3_fillInlets 23 = .ok (.iaload, 1) := by decide +kernel
theorem dX3_fillInlets_24 : decode cX3_fillInlets 24 = .ok (.iconst 0, 1) := by decide +kernel
theorem dX3_fillInlets_25 : decode cX3_fillInlets 25 = .ok (.invokestatic 103, 3) := by decide +kernel
theorem dX3_fillInlets_28 : decode cX3_fillInlets 28 = .ok (.ifCond .ne 9, 3) := by decide +kernel
theorem dX3_fillInlets_31 : decode cX3_fillInlets 31 = .ok (.aload_n 0, 1) := by decide +kernel
theorem dX3_fillInlets_32 : decode cX3_fillInlets 32 = .ok (.iload_n 1, 1) := by decide +kernel
theorem dX3_fillInlets_33 : decode cX3_fillInlets 33 = .ok (.iconst 0, 1) := by decide +kernel
theorem dX3_fillInlets_34 : decode cX3_fillInlets 34 = .ok (.invokevirtual 123, 3) := by decide +kernel
theorem dX3_fillInlets_37 : decode cX3_fillInlets 37 = .ok (.iinc 1 1, 3) := by decide +kernel
theorem dX3_fillInlets_40 : decode cX3_fillInlets 40 = .ok (.goto (-38), 3) := by decide +kernel
theorem dX3_fillInlets_43 : decode cX3_fillInlets 43 = .ok (.return_, 1) := by decide +kernel
theorem dX4_init_0 : decode cX4_init 0 = .ok (.aload_n 0, 1) := by decide +kernel
theorem dX4_init_1 : decode cX4_init 1 = .ok (.invokespecial 3, 3) := by decide +kernel
theorem dX4_init_4 : decode cX4_init 4 = .ok (.aload_n 0, 1) := by decide +kernel
theorem dX4_init_5 : decode cX4_init 5 = .ok (.iload_n 1, 1) := by decide +kernel
theorem dX4_init_6 : decode cX4_init 6 = .ok (.putfield 9, 3) := by decide +kernel
theorem dX4_init_9 : decode cX4_init 9 = .ok (.aload_n 0, 1) := by decide +kernel
theorem dX4_init_10 : decode cX4_init 10 = .ok (.iload_n 2, 1) := by decide +kernel
theorem dX4_init_11 : decode cX4_init 11 = .ok (.putfield 15, 3) := by decide +kernel
theorem dX4_init_14 : decode cX4_init 14 = .ok (.aload_n 0, 1) := by decide +kernel
theorem dX4_init_15 : decode cX4_init 15 = .ok (.iload_n 3, 1) := by decide +kernel
theorem dX4_init_16 : decode cX4_init 16 = .ok (.putfield 18, 3) := by decide +kernel
theorem dX4_init_19 : decode cX4_init 19 = .ok (.aload_n 0, 1) := by decide +kernel
theorem dX4_init_20 : decode cX4_init 20 = .ok (.iload 4, 2) := by decide +kernel
theorem dX4_init_22 : decode cX4_init 22 = .ok (.putfield 21, 3) := by decide +kernel
theorem dX4_init_25 : decode cX4_init 25 = .ok (.return_, 1) := by decide +kernel
theorem dX4_holds_0 : decode cX4_holds 0 = .ok (.iload_n 1, 1) := by decide +kernel
theorem dX4_holds_1 : decode cX4_holds 1 = .ok (.bipush 12, 2) := by decide +kernel
theorem dX4_holds_3 : decode cX4_holds 3 = .ok (.idiv, 1) := by decide +kernel
theorem dX4_holds_4 : decode cX4_holds 4 = .ok (.aload_n 0, 1) := by decide +kernel
theorem dX4_holds_5 : decode cX4_holds 5 = .ok (.getfield 9, 3) := by decide +kernel
theorem dX4_holds_8 : decode cX4_holds 8 = .ok (.isub, 1) := by decide +kernel
theorem dX4_holds_9 : decode cX4_holds 9 = .ok (.istore_n 2, 1) := by decide +kernel
theorem dX4_holds_10 : decode cX4_holds 10 = .ok (.iload_n 1, 1) := by decide +kernel
theorem dX4_holds_11 : decode cX4_holds 11 = .ok (.bipush 12, 2) := by decide +kernel
theorem dX4_holds_13 : decode cX4_holds 13 = .ok (.irem, 1) := by decide +kernel
theorem dX4_holds_14 : decode cX4_holds 14 = .ok (.aload_n 0, 1) := by decide +kernel
theorem dX4_holds_15 : decode cX4_holds 15 = .ok (.getfield 15, 3) := by decide +kernel
theorem dX4_holds_18 : decode cX4_holds 18 = .ok (.isub, 1) := by decide +kernel
theorem dX4_holds_19 : decode cX4_holds 19 = .ok (.bipush 12, 2) := by decide +kernel
theorem dX4_holds_21 : decode cX4_holds 21 = .ok (.invokestatic 24, 3) := by decide +kernel
theorem dX4_holds_24 : decode cX4_holds 24 = .ok (.istore_n 3, 1) := by decide +kernel
theorem dX4_holds_25 : decode cX4_holds 25 = .ok (.iload_n 2, 1) := by decide +kernel
theorem dX4_holds_26 : decode cX4_holds 26 = .ok (.ifCond .lt 23, 3) := by decide +kernel
theorem dX4_holds_29 : decode cX4_holds 29 = .ok (.iload_n 2, 1) := by decide +kernel
theorem dX4_holds_30 : decode cX4_holds 30 = .ok (.aload_n 0, 1) := by decide +kernel
theorem dX4_holds_31 : decode cX4_holds 31 = .ok (.getfield 18, 3) := by decide +kernel
theorem dX4_holds_34 : decode cX4_holds 34 = .ok (.if_icmp .ge 15, 3) := by decide +kernel
theorem dX4_holds_37 : decode cX4_holds 37 = .ok (.iload_n 3, 1) := by decide +kernel
theorem dX4_holds_38 : decode cX4_holds 38 = .ok (.aload_n 0, 1) := by decide +kernel
theorem dX4_holds_39 : decode cX4_holds 39 = .ok (.getfield 21, 3) := by decide +kernel
theorem dX4_holds_42 : decode cX4_holds 42 = .ok (.if_icmp .ge 7, 3) := by decide +kernel
theorem dX4_holds_45 : decode cX4_holds 45 = .ok (.iconst 1, 1) := by decide +kernel
theorem dX4_holds_46 : decode cX4_holds 46 = .ok (.goto 4, 3) := by decide +kernel
theorem dX4_holds_49 : decode cX4_holds 49 = .ok (.iconst 0, 1) := by decide +kernel
theorem dX4_holds_50 : decode cX4_holds 50 = .ok (.ireturn, 1) := by decide +kernel
theorem dX5_init_0 : decode cX5_init 0 = .ok (.aload_n 0, 1) := by decide +kernel
theorem dX5_init_1 : decode cX5_init 1 = .ok (.invokespecial 1, 3) := by decide +kernel
theorem dX5_init_4 : decode cX5_init 4 = .ok (.aload_n 0, 1) := by decide +kernel
theorem dX5_init_5 : decode cX5_init 5 = .ok (.new 7, 3) := by decide +kernel
theorem dX5_init_8 : decode cX5_init 8 = .ok (.dup, 1) := by decide +kernel
theorem dX5_init_9 : decode cX5_init 9 = .ok (.invokespecial 9, 3) := by decide +kernel
theorem dX5_init_12 : decode cX5_init 12 = .ok (.putfield 10, 3) := by decide +kernel
theorem dX5_init_15 : decode cX5_init 15 = .ok (.aload_n 0, 1) := by decide +kernel
theorem dX5_init_16 : decode cX5_init 16 = .ok (.new 7, 3) := by decide +kernel
theorem dX5_init_19 : decode cX5_init 19 = .ok (.dup, 1) := by decide +kernel
theorem dX5_init_20 : decode cX5_init 20 = .ok (.invokespecial 9, 3) := by decide +kernel
theorem dX5_init_23 : decode cX5_init 23 = .ok (.putfield 16, 3) := by decide +kernel
theorem dX5_init_26 : decode cX5_init 26 = .ok (.aload_n 0, 1) := by decide +kernel
theorem dX5_init_27 : decode cX5_init 27 = .ok (.new 19, 3) := by decide +kernel
theorem dX5_init_30 : decode cX5_init 30 = .ok (.dup, 1) := by decide +kernel
theorem dX5_init_31 : decode cX5_init 31 = .ok (.invokespecial 21, 3) := by decide +kernel
theorem dX5_init_34 : decode cX5_init 34 = .ok (.putfield 22, 3) := by decide +kernel
theorem dX5_init_37 : decode cX5_init 37 = .ok (.aload_n 0, 1) := by decide +kernel
theorem dX5_init_38 : decode cX5_init 38 = .ok (.new 26, 3) := by decide +kernel
theorem dX5_init_41 : decode cX5_init 41 = .ok (.dup, 1) := by decide +kernel
theorem dX5_init_42 : decode cX5_init 42 = .ok (.invokespecial 28, 3) := by decide +kernel
theorem dX5_init_45 : decode cX5_init 45 = .ok (.putfield 29, 3) := by decide +kernel
theorem dX5_init_48 : decode cX5_init 48 = .ok (.aload_n 0, 1) := by decide +kernel
theorem dX5_init_49 : decode cX5_init 49 = .ok (.iconst 4, 1) := by decide +kernel
theorem dX5_init_50 : decode cX5_init 50 = .ok (.newarray .int, 2) := by decide +kernel
theorem dX5_init_52 : decode cX5_init 52 = .ok (.putfield 33, 3) := by decide +kernel
theorem dX5_init_55 : decode cX5_init 55 = .ok (.return_, 1) := by decide +kernel
theorem dX5_wall_0 : decode cX5_wall 0 = .ok (.iload_n 1, 1) := by decide +kernel
theorem dX5_wall_1 : decode cX5_wall 1 = .ok (.invokestatic 37, 3) := by decide +kernel
theorem dX5_wall_4 : decode cX5_wall 4 = .ok (.ifCond .ne 15, 3) := by decide +kernel
theorem dX5_wall_7 : decode cX5_wall 7 = .ok (.iload_n 2, 1) := by decide +kernel
theorem dX5_wall_8 : decode cX5_wall 8 = .ok (.iconst (-1), 1) := by decide +kernel
theorem dX5_wall_9 : decode cX5_wall 9 = .ok (.if_icmp .eq 18, 3) := by decide +kernel
theorem dX5_wall_12 : decode cX5_wall 12 = .ok (.iload_n 2, 1) := by decide +kernel
theorem dX5_wall_13 : decode cX5_wall 13 = .ok (.invokestatic 41, 3) := by decide +kernel
theorem dX5_wall_16 : decode cX5_wall 16 = .ok (.ifCond .eq 11, 3) := by decide +kernel
theorem dX5_wall_19 : decode cX5_wall 19 = .ok (.new 44, 3) := by decide +kernel
theorem dX5_wall_22 : decode cX5_wall 22 = .ok (.dup, 1) := by decide +kernel
theorem dX5_wall_23 : decode cX5_wall 23 = .ok (.invokespecial 46, 3) := by decide +kernel
theorem dX5_wall_26 : decode cX5_wall 26 = .ok (.athrow, 1) := by decide +kernel
theorem dX5_wall_27 : decode cX5_wall 27 = .ok (.aload_n 0, 1) := by decide +kernel
theorem dX5_wall_28 : decode cX5_wall 28 = .ok (.iload_n 1, 1) := by decide +kernel
theorem dX5_wall_29 : decode cX5_wall 29 = .ok (.invokevirtual 47, 3) := by decide +kernel
theorem dX5_wall_32 : decode cX5_wall 32 = .ok (.ifCond .eq 21, 3) := by decide +kernel
theorem dX5_wall_35 : decode cX5_wall 35 = .ok (.iload_n 2, 1) := by decide +kernel
theorem dX5_wall_36 : decode cX5_wall 36 = .ok (.iconst (-1), 1) := by decide +kernel
theorem dX5_wall_37 : decode cX5_wall 37 = .ok (.if_icmp .eq 24, 3) := by decide +kernel
theorem dX5_wall_40 : decode cX5_wall 40 = .ok (.aload_n 0, 1) := by decide +kernel
theorem dX5_wall_41 : decode cX5_wall 41 = .ok (.getfield 10, 3) := by decide +kernel
theorem dX5_wall_44 : decode cX5_wall 44 = .ok (.iload_n 2, 1) := by decide +kernel
theorem dX5_wall_45 : decode cX5_wall 45 = .ok (.invokevirtual 50, 3) := by decide +kernel
theorem dX5_wall_48 : decode cX5_wall 48 = .ok (.bipush 12, 2) := by decide +kernel
theorem dX5_wall_50 : decode cX5_wall 50 = .ok (.if_icmp .lt 11, 3) := by decide +kernel
theorem dX5_wall_53 : decode cX5_wall 53 = .ok (.new 54, 3) := by decide +kernel
theorem dX5_wall_56 : decode cX5_wall 56 = .ok (.dup, 1) := by decide +kernel
theorem dX5_wall_57 : decode cX5_wall 57 = .ok (.invokespecial 56, 3) := by decide +kernel
theorem dX5_wall_60 : decode cX5_wall 60 = .ok (.athrow, 1) := by decide +kernel
theorem dX5_wall_61 : decode cX5_wall 61 = .ok (.aload_n 0, 1) := by decide +kernel
theorem dX5_wall_62 : decode cX5_wall 62 = .ok (.getfield 10, 3) := by decide +kernel
theorem dX5_wall_65 : decode cX5_wall 65 = .ok (.getfield 57, 3) := by decide +kernel
theorem dX5_wall_68 : decode cX5_wall 68 = .ok (.iload_n 1, 1) := by decide +kernel
theorem dX5_wall_69 : decode cX5_wall 69 = .ok (.iconst 1, 1) := by decide +kernel
theorem dX5_wall_70 : decode cX5_wall 70 = .ok (.iastore, 1) := by decide +kernel
theorem dX5_wall_71 : decode cX5_wall 71 = .ok (.aload_n 0, 1) := by decide +kernel
theorem dX5_wall_72 : decode cX5_wall 72 = .ok (.getfield 10, 3) := by decide +kernel
theorem dX5_wall_75 : decode cX5_wall 75 = .ok (.getfield 60, 3) := by decide +kernel
theorem dX5_wall_78 : decode cX5_wall 78 = .ok (.iload_n 1, 1) := by decide +kernel
theorem dX5_wall_79 : decode cX5_wall 79 = .ok (.iload_n 2, 1) := by decide +kernel
theorem dX5_wall_80 : decode cX5_wall 80 = .ok (.iastore, 1) := by decide +kernel
theorem dX5_wall_81 : decode cX5_wall 81 = .ok (.aload_n 0, 1) := by decide +kernel
theorem dX5_wall_82 : decode cX5_wall 82 = .ok (.iconst 0, 1) := by decide +kernel
theorem dX5_wall_83 : decode cX5_wall 83 = .ok (.putfield 63, 3) := by decide +kernel
theorem dX5_wall_86 : decode cX5_wall 86 = .ok (.return_, 1) := by decide +kernel
theorem dX5_clear_0 : decode cX5_clear 0 = .ok (.iload_n 1, 1) := by decide +kernel
theorem dX5_clear_1 : decode cX5_clear 1 = .ok (.invokestatic 37, 3) := by decide +kernel
theorem dX5_clear_4 : decode cX5_clear 4 = .ok (.ifCond .eq 11, 3) := by decide +kernel
theorem dX5_clear_7 : decode cX5_clear 7 = .ok (.new 44, 3) := by decide +kernel
theorem dX5_clear_10 : decode cX5_clear 10 = .ok (.dup, 1) := by decide +kernel
theorem dX5_clear_11 : decode cX5_clear 11 = .ok (.invokespecial 46, 3) := by decide +kernel
theorem dX5_clear_14 : decode cX5_clear 14 = .ok (.athrow, 1) := by decide +kernel
theorem dX5_clear_15 : decode cX5_clear 15 = .ok (.aload_n 0, 1) := by decide +kernel
theorem dX5_clear_16 : decode cX5_clear 16 = .ok (.getfield 10, 3) := by decide +kernel
theorem dX5_clear_19 : decode cX5_clear 19 = .ok (.getfield 57, 3) := by decide +kernel
theorem dX5_clear_22 : decode cX5_clear 22 = .ok (.iload_n 1, 1) := by decide +kernel
theorem dX5_clear_23 : decode cX5_clear 23 = .ok (.iaload, 1) := by decide +kernel
theorem dX5_clear_24 : decode cX5_clear 24 = .ok (.istore_n 2, 1) := by decide +kernel
theorem dX5_clear_25 : decode cX5_clear 25 = .ok (.aload_n 0, 1) := by decide +kernel
theorem dX5_clear_26 : decode cX5_clear 26 = .ok (.getfield 10, 3) := by decide +kernel
theorem dX5_clear_29 : decode cX5_clear 29 = .ok (.iload_n 1, 1) := by decide +kernel
theorem dX5_clear_30 : decode cX5_clear 30 = .ok (.invokevirtual 67, 3) := by decide +kernel
theorem dX5_clear_33 : decode cX5_clear 33 = .ok (.aload_n 0, 1) := by decide +kernel
theorem dX5_clear_34 : decode cX5_clear 34 = .ok (.iconst 0, 1) := by decide +kernel
theorem dX5_clear_35 : decode cX5_clear 35 = .ok (.putfield 63, 3) := by decide +kernel
theorem dX5_clear_38 : decode cX5_clear 38 = .ok (.iload_n 2, 1) := by decide +kernel
theorem dX5_clear_39 : decode cX5_clear 39 = .ok (.ireturn, 1) := by decide +kernel
theorem dX5_open_0 : decode cX5_open 0 = .ok (.iload_n 1, 1) := by decide +kernel
theorem dX5_open_1 : decode cX5_open 1 = .ok (.invokestatic 37, 3) := by decide +kernel
theorem dX5_open_4 : decode cX5_open 4 = .ok (.ifCond .eq 11, 3) := by decide +kernel
theorem dX5_open_7 : decode cX5_open 7 = .ok (.new 44, 3) := by decide +kernel
theorem dX5_open_10 : decode cX5_open 10 = .ok (.dup, 1) := by decide +kernel
theorem dX5_open_11 : decode cX5_open 11 = .ok (.invokespecial 46, 3) := by decide +kernel
theorem dX5_open_14 : decode cX5_open 14 = .ok (.athrow, 1) := by decide +kernel
theorem dX5_open_15 : decode cX5_open 15 = .ok (.iload_n 2, 1) := by decide +kernel
theorem dX5_open_16 : decode cX5_open 16 = .ok (.iconst 2, 1) := by decide +kernel
theorem dX5_open_17 : decode cX5_open 17 = .ok (.if_icmp .eq 16, 3) := by decide +kernel
theorem dX5_open_20 : decode cX5_open 20 = .ok (.iload_n 2, 1) := by decide +kernel
theorem dX5_open_21 : decode cX5_open 21 = .ok (.iconst 3, 1) := by decide +kernel
theorem dX5_open_22 : decode cX5_open 22 = .ok (.if_icmp .eq 11, 3) := by decide +kernel
theorem dX5_open_25 : decode cX5_open 25 = .ok (.new 71, 3) := by decide +kernel
theorem dX5_open_28 : decode cX5_open 28 = .ok (.dup, 1) := by decide +kernel
theorem dX5_open_29 : decode cX5_open 29 = .ok (.invokespecial 73, 3) := by decide +kernel
theorem dX5_open_32 : decode cX5_open 32 = .ok (.athrow, 1) := by decide +kernel
theorem dX5_open_33 : decode cX5_open 33 = .ok (.aload_n 0, 1) := by decide +kernel
theorem dX5_open_34 : decode cX5_open 34 = .ok (.getfield 10, 3) := by decide +kernel
theorem dX5_open_37 : decode cX5_open 37 = .ok (.getfield 57, 3) := by decide +kernel
theorem dX5_open_40 : decode cX5_open 40 = .ok (.iload_n 1, 1) := by decide +kernel
theorem dX5_open_41 : decode cX5_open 41 = .ok (.iaload, 1) := by decide +kernel
theorem dX5_open_42 : decode cX5_open 42 = .ok (.ifCond .eq 11, 3) := by decide +kernel
theorem dX5_open_45 : decode cX5_open 45 = .ok (.new 54, 3) := by decide +kernel
theorem dX5_open_48 : decode cX5_open 48 = .ok (.dup, 1) := by decide +kernel
theorem dX5_open_49 : decode cX5_open 49 = .ok (.invokespecial 56, 3) := by decide +kernel
theorem dX5_open_52 : decode cX5_open 52 = .ok (.athrow, 1) := by decide +kernel
theorem dX5_open_53 : decode cX5_open 53 = .ok (.aload_n 0, 1) := by decide +kernel
theorem dX5_open_54 : decode cX5_open 54 = .ok (.getfield 10, 3) := by decide +kernel
theorem dX5_open_57 : decode cX5_open 57 = .ok (.getfield 57, 3) := by decide +kernel
theorem dX5_open_60 : decode cX5_open 60 = .ok (.iload_n 1, 1) := by decide +kernel
theorem dX5_open_61 : decode cX5_open 61 = .ok (.iload_n 2, 1) := by decide +kernel
theorem dX5_open_62 : decode cX5_open 62 = .ok (.iastore, 1) := by decide +kernel
theorem dX5_open_63 : decode cX5_open 63 = .ok (.aload_n 0, 1) := by decide +kernel
theorem dX5_open_64 : decode cX5_open 64 = .ok (.iconst 0, 1) := by decide +kernel
theorem dX5_open_65 : decode cX5_open 65 = .ok (.putfield 63, 3) := by decide +kernel
theorem dX5_open_68 : decode cX5_open 68 = .ok (.return_, 1) := by decide +kernel
theorem dX5_particle_0 : decode cX5_particle 0 = .ok (.iload_n 1, 1) := by decide +kernel
theorem dX5_particle_1 : decode cX5_particle 1 = .ok (.invokestatic 37, 3) := by decide +kernel
theorem dX5_particle_4 : decode cX5_particle 4 = .ok (.ifCond .eq 11, 3) := by decide +kernel
theorem dX5_particle_7 : decode cX5_particle 7 = .ok (.new 44, 3) := by decide +kernel
theorem dX5_particle_10 : decode cX5_particle 10 = .ok (.dup, 1) := by decide +kernel
theorem dX5_particle_11 : decode cX5_particle 11 = .ok (.invokespecial 46, 3) := by decide +kernel
theorem dX5_particle_14 : decode cX5_particle 14 = .ok (.athrow, 1) := by decide +kernel
theorem dX5_particle_15 : decode cX5_particle 15 = .ok (.iload_n 2, 1) := by decide +kernel
theorem dX5_particle_16 : decode cX5_particle 16 = .ok (.iconst 0, 1) := by decide +kernel
theorem dX5_particle_17 : decode cX5_particle 17 = .ok (.iconst 3, 1) := by decide +kernel
theorem dX5_particle_18 : decode cX5_particle 18 = .ok (.invokestatic 74, 3) := by decide +kernel
theorem dX5_particle_21 : decode cX5_particle 21 = .ok (.ifCond .eq 11, 3) := by decide +kernel
theorem dX5_particle_24 : decode cX5_particle 24 = .ok (.new 71, 3) := by decide +kernel
theorem dX5_particle_27 : decode cX5_particle 27 = .ok (.dup, 1) := by decide +kernel
theorem dX5_particle_28 : decode cX5_particle 28 = .ok (.invokespecial 73, 3) := by decide +kernel
theorem dX5_particle_31 : decode cX5_particle 31 = .ok (.athrow, 1) := by decide +kernel
theorem dX5_particle_32 : decode cX5_particle 32 = .ok (.aload_n 0, 1) := by decide +kernel
theorem dX5_particle_33 : decode cX5_particle 33 = .ok (.getfield 10, 3) := by decide +kernel
theorem dX5_particle_36 : decode cX5_particle 36 = .ok (.getfield 57, 3) := by decide +kernel
theorem dX5_particle_39 : decode cX5_particle 39 = .ok (.iload_n 1, 1) := by decide +kernel
theorem dX5_particle_40 : decode cX5_particle 40 = .ok (.iaload, 1) := by decide +kernel
theorem dX5_particle_41 : decode cX5_particle 41 = .ok (.iconst 1, 1) := by decide +kernel
theorem dX5_particle_42 : decode cX5_particle 42 = .ok (.if_icmp .eq 19, 3) := by decide +kernel
theorem dX5_particle_45 : decode cX5_particle 45 = .ok (.aload_n 0, 1) := by decide +kernel
theorem dX5_particle_46 : decode cX5_particle 46 = .ok (.getfield 10, 3) := by decide +kernel
theorem dX5_particle_49 : decode cX5_particle 49 = .ok (.getfield 78, 3) := by decide +kernel
theorem dX5_particle_52 : decode cX5_particle 52 = .ok (.iload_n 1, 1) := by decide +kernel
theorem dX5_particle_53 : decode cX5_particle 53 = .ok (.iaload, 1) := by decide +kernel
theorem dX5_particle_54 : decode cX5_particle 54 = .ok (.iload_n 2, 1) := by decide +kernel
theorem dX5_particle_55 : decode cX5_particle 55 = .ok (.invokestatic 81, 3) := by decide +kernel
theorem dX5_particle_58 : decode cX5_particle 58 = .ok (.ifCond .eq 11, 3) := by decide +kernel
theorem dX5_particle_61 : decode cX5_particle 61 = .ok (.new 54, 3) := by decide +kernel
theorem dX5_particle_64 : decode cX5_particle 64 = .ok (.dup, 1) := by decide +kernel
theorem dX5_particle_65 : decode cX5_particle 65 = .ok (.invokespecial 56, 3) := by decide +kernel
theorem dX5_particle_68 : decode cX5_particle 68 = .ok (.athrow, 1) := by decide +kernel
theorem dX5_particle_69 : decode cX5_particle 69 = .ok (.aload_n 0, 1) := by decide +kernel
theorem dX5_particle_70 : decode cX5_particle 70 = .ok (.getfield 10, 3) := by decide +kernel
theorem dX5_particle_73 : decode cX5_particle 73 = .ok (.iload_n 1, 1) := by decide +kernel
theorem dX5_particle_74 : decode cX5_particle 74 = .ok (.iload_n 2, 1) := by decide +kernel
theorem dX5_particle_75 : decode cX5_particle 75 = .ok (.invokevirtual 85, 3) := by decide +kernel
theorem dX5_particle_78 : decode cX5_particle 78 = .ok (.aload_n 0, 1) := by decide +kernel
theorem dX5_particle_79 : decode cX5_particle 79 = .ok (.iconst 0, 1) := by decide +kernel
theorem dX5_particle_80 : decode cX5_particle 80 = .ok (.putfield 63, 3) := by decide +kernel
theorem dX5_particle_83 : decode cX5_particle 83 = .ok (.aload_n 0, 1) := by decide +kernel
theorem dX5_particle_84 : decode cX5_particle 84 = .ok (.getfield 10, 3) := by decide +kernel
theorem dX5_particle_87 : decode cX5_particle 87 = .ok (.getfield 78, 3) := by decide +kernel
theorem dX5_particle_90 : decode cX5_particle 90 = .ok (.iload_n 1, 1) := by decide +kernel
theorem dX5_particle_91 : decode cX5_particle 91 = .ok (.iaload, 1) := by decide +kernel
theorem dX5_particle_92 : decode cX5_particle 92 = .ok (.ireturn, 1) := by decide +kernel
theorem dX5_ink_0 : decode cX5_ink 0 = .ok (.iload_n 1, 1) := by decide +kernel
theorem dX5_ink_1 : decode cX5_ink 1 = .ok (.invokestatic 37, 3) := by decide +kernel
theorem dX5_ink_4 : decode cX5_ink 4 = .ok (.ifCond .eq 11, 3) := by decide +kernel
theorem dX5_ink_7 : decode cX5_ink 7 = .ok (.new 44, 3) := by decide +kernel
theorem dX5_ink_10 : decode cX5_ink 10 = .ok (.dup, 1) := by decide +kernel
theorem dX5_ink_11 : decode cX5_ink 11 = .ok (.invokespecial 46, 3) := by decide +kernel
theorem dX5_ink_14 : decode cX5_ink 14 = .ok (.athrow, 1) := by decide +kernel
theorem dX5_ink_15 : decode cX5_ink 15 = .ok (.aload_n 0, 1) := by decide +kernel
theorem dX5_ink_16 : decode cX5_ink 16 = .ok (.getfield 10, 3) := by decide +kernel
theorem dX5_ink_19 : decode cX5_ink 19 = .ok (.getfield 78, 3) := by decide +kernel
theorem dX5_ink_22 : decode cX5_ink 22 = .ok (.iload_n 1, 1) := by decide +kernel
theorem dX5_ink_23 : decode cX5_ink 23 = .ok (.iaload, 1) := by decide +kernel
theorem dX5_ink_24 : decode cX5_ink 24 = .ok (.aload_n 0, 1) := by decide +kernel
theorem dX5_ink_25 : decode cX5_ink 25 = .ok (.getfield 10, 3) := by decide +kernel
theorem dX5_ink_28 : decode cX5_ink 28 = .ok (.getfield 89, 3) := by decide +kernel
theorem dX5_ink_31 : decode cX5_ink 31 = .ok (.iload_n 1, 1) := by decide +kernel
theorem dX5_ink_32 : decode cX5_ink 32 = .ok (.iaload, 1) := by decide +kernel
theorem dX5_ink_33 : decode cX5_ink 33 = .ok (.iconst (-1), 1) := by decide +kernel
theorem dX5_ink_34 : decode cX5_ink 34 = .ok (.ixor, 1) := by decide +kernel
theorem dX5_ink_35 : decode cX5_ink 35 = .ok (.iand, 1) := by decide +kernel
theorem dX5_ink_36 : decode cX5_ink 36 = .ok (.istore_n 2, 1) := by decide +kernel
theorem dX5_ink_37 : decode cX5_ink 37 = .ok (.aload_n 0, 1) := by decide +kernel
theorem dX5_ink_38 : decode cX5_ink 38 = .ok (.getfield 10, 3) := by decide +kernel
theorem dX5_ink_41 : decode cX5_ink 41 = .ok (.getfield 89, 3) := by decide +kernel
theorem dX5_ink_44 : decode cX5_ink 44 = .ok (.iload_n 1, 1) := by decide +kernel
theorem dX5_ink_45 : decode cX5_ink 45 = .ok (.aload_n 0, 1) := by decide +kernel
theorem dX5_ink_46 : decode cX5_ink 46 = .ok (.getfield 10, 3) := by decide +kernel
theorem dX5_ink_49 : decode cX5_ink 49 = .ok (.getfield 78, 3) := by decide +kernel
theorem dX5_ink_52 : decode cX5_ink 52 = .ok (.iload_n 1, 1) := by decide +kernel
theorem dX5_ink_53 : decode cX5_ink 53 = .ok (.iaload, 1) := by decide +kernel
theorem dX5_ink_54 : decode cX5_ink 54 = .ok (.iastore, 1) := by decide +kernel
theorem dX5_ink_55 : decode cX5_ink 55 = .ok (.aload_n 0, 1) := by decide +kernel
theorem dX5_ink_56 : decode cX5_ink 56 = .ok (.iconst 0, 1) := by decide +kernel
theorem dX5_ink_57 : decode cX5_ink 57 = .ok (.putfield 63, 3) := by decide +kernel
theorem dX5_ink_60 : decode cX5_ink 60 = .ok (.iload_n 2, 1) := by decide +kernel
theorem dX5_ink_61 : decode cX5_ink 61 = .ok (.invokestatic 92, 3) := by decide +kernel
theorem dX5_ink_64 : decode cX5_ink 64 = .ok (.ireturn, 1) := by decide +kernel
theorem dX5_probe_0 : decode cX5_probe 0 = .ok (.iload_n 1, 1) := by decide +kernel
theorem dX5_probe_1 : decode cX5_probe 1 = .ok (.invokestatic 37, 3) := by decide +kernel
theorem dX5_probe_4 : decode cX5_probe 4 = .ok (.ifCond .eq 11, 3) := by decide +kernel
theorem dX5_probe_7 : decode cX5_probe 7 = .ok (.new 44, 3) := by decide +kernel
theorem dX5_probe_10 : decode cX5_probe 10 = .ok (.dup, 1) := by decide +kernel
theorem dX5_probe_11 : decode cX5_probe 11 = .ok (.invokespecial 46, 3) := by decide +kernel
theorem dX5_probe_14 : decode cX5_probe 14 = .ok (.athrow, 1) := by decide +kernel
theorem dX5_probe_15 : decode cX5_probe 15 = .ok (.aload_n 0, 1) := by decide +kernel
theorem dX5_probe_16 : decode cX5_probe 16 = .ok (.getfield 10, 3) := by decide +kernel
theorem dX5_probe_19 : decode cX5_probe 19 = .ok (.getfield 57, 3) := by decide +kernel
theorem dX5_probe_22 : decode cX5_probe 22 = .ok (.iload_n 1, 1) := by decide +kernel
theorem dX5_probe_23 : decode cX5_probe 23 = .ok (.iaload, 1) := by decide +kernel
theorem dX5_probe_24 : decode cX5_probe 24 = .ok (.iconst 1, 1) := by decide +kernel
theorem dX5_probe_25 : decode cX5_probe 25 = .ok (.if_icmp .eq 14, 3) := by decide +kernel
theorem dX5_probe_28 : decode cX5_probe 28 = .ok (.aload_n 0, 1) := by decide +kernel
theorem dX5_probe_29 : decode cX5_probe 29 = .ok (.getfield 29, 3) := by decide +kernel
theorem dX5_probe_32 : decode cX5_probe 32 = .ok (.getfield 97, 3) := by decide +kernel
theorem dX5_probe_35 : decode cX5_probe 35 = .ok (.iconst 4, 1) := by decide +kernel
theorem dX5_probe_36 : decode cX5_probe 36 = .ok (.if_icmp .lt 11, 3) := by decide +kernel
theorem dX5_probe_39 : decode cX5_probe 39 = .ok (.new 54, 3) := by decide +kernel
theorem dX5_probe_42 : decode cX5_probe 42 = .ok (.dup, 1) := by decide +kernel
theorem dX5_probe_43 : decode cX5_probe 43 = .ok (.invokespecial 56, 3) := by decide +kernel
theorem dX5_probe_46 : decode cX5_probe 46 = .ok (.athrow, 1) := by decide +kernel
theorem dX5_probe_47 : decode cX5_probe 47 = .ok (.aload_n 0, 1) := by decide +kernel
theorem dX5_probe_48 : decode cX5_probe 48 = .ok (.iconst 0, 1) := by decide +kernel
theorem dX5_probe_49 : decode cX5_probe 49 = .ok (.putfield 63, 3) := by decide +kernel
theorem dX5_probe_52 : decode cX5_probe 52 = .ok (.aload_n 0, 1) := by decide +kernel
theorem dX5_probe_53 : decode cX5_probe 53 = .ok (.getfield 29, 3) := by decide +kernel
theorem dX5_probe_56 : decode cX5_probe 56 = .ok (.iload_n 1, 1) := by decide +kernel
theorem dX5_probe_57 : decode cX5_probe 57 = .ok (.invokevirtual 100, 3) := by decide +kernel
theorem dX5_probe_60 : decode cX5_probe 60 = .ok (.ireturn, 1) := by decide +kernel
theorem dX5_fault_0 : decode cX5_fault 0 = .ok (.iload_n 1, 1) := by decide +kernel
theorem dX5_fault_1 : decode cX5_fault 1 = .ok (.invokestatic 41, 3) := by decide +kernel
theorem dX5_fault_4 : decode cX5_fault 4 = .ok (.ifCond .eq 11, 3) := by decide +kernel
theorem dX5_fault_7 : decode cX5_fault 7 = .ok (.new 44, 3) := by decide +kernel
theorem dX5_fault_10 : decode cX5_fault 10 = .ok (.dup, 1) := by decide +kernel
theorem dX5_fault_11 : decode cX5_fault 11 = .ok (.invokespecial 46, 3) := by decide +kernel
theorem dX5_fault_14 : decode cX5_fault 14 = .ok (.athrow, 1) := by decide +kernel
theorem dX5_fault_15 : decode cX5_fault 15 = .ok (.iload_n 2, 1) := by decide +kernel
theorem dX5_fault_16 : decode cX5_fault 16 = .ok (.bipush (-5), 2) := by decide +kernel
theorem dX5_fault_18 : decode cX5_fault 18 = .ok (.iconst 5, 1) := by decide +kernel
theorem dX5_fault_19 : decode cX5_fault 19 = .ok (.invokestatic 74, 3) := by decide +kernel
theorem dX5_fault_22 : decode cX5_fault 22 = .ok (.ifCond .eq 11, 3) := by decide +kernel
theorem dX5_fault_25 : decode cX5_fault 25 = .ok (.new 71, 3) := by decide +kernel
theorem dX5_fault_28 : decode cX5_fault 28 = .ok (.dup, 1) := by decide +kernel
theorem dX5_fault_29 : decode cX5_fault 29 = .ok (.invokespecial 73, 3) := by decide +kernel
theorem dX5_fault_32 : decode cX5_fault 32 = .ok (.athrow, 1) := by decide +kernel
theorem dX5_fault_33 : decode cX5_fault 33 = .ok (.aload_n 0, 1) := by decide +kernel
theorem dX5_fault_34 : decode cX5_fault 34 = .ok (.getfield 33, 3) := by decide +kernel
theorem dX5_fault_37 : decode cX5_fault 37 = .ok (.iload_n 1, 1) := by decide +kernel
theorem dX5_fault_38 : decode cX5_fault 38 = .ok (.iaload, 1) := by decide +kernel
theorem dX5_fault_39 : decode cX5_fault 39 = .ok (.istore_n 3, 1) := by decide +kernel
theorem dX5_fault_40 : decode cX5_fault 40 = .ok (.aload_n 0, 1) := by decide +kernel
theorem dX5_fault_41 : decode cX5_fault 41 = .ok (.getfield 33, 3) := by decide +kernel
theorem dX5_fault_44 : decode cX5_fault 44 = .ok (.iload_n 1, 1) := by decide +kernel
theorem dX5_fault_45 : decode cX5_fault 45 = .ok (.iload_n 2, 1) := by decide +kernel
theorem dX5_fault_46 : decode cX5_fault 46 = .ok (.iastore, 1) := by decide +kernel
theorem dX5_fault_47 : decode cX5_fault 47 = .ok (.iload_n 3, 1) := by decide +kernel
theorem dX5_fault_48 : decode cX5_fault 48 = .ok (.ireturn, 1) := by decide +kernel
theorem dX5_bring_0 : decode cX5_bring 0 = .ok (.iload_n 1, 1) := by decide +kernel
theorem dX5_bring_1 : decode cX5_bring 1 = .ok (.invokestatic 37, 3) := by decide +kernel
theorem dX5_bring_4 : decode cX5_bring 4 = .ok (.ifCond .eq 11, 3) := by decide +kernel
theorem dX5_bring_7 : decode cX5_bring 7 = .ok (.new 44, 3) := by decide +kernel
theorem dX5_bring_10 : decode cX5_bring 10 = .ok (.dup, 1) := by decide +kernel
theorem dX5_bring_11 : decode cX5_bring 11 = .ok (.invokespecial 46, 3) := by decide +kernel
theorem dX5_bring_14 : decode cX5_bring 14 = .ok (.athrow, 1) := by decide +kernel
theorem dX5_bring_15 : decode cX5_bring 15 = .ok (.iload_n 2, 1) := by decide +kernel
theorem dX5_bring_16 : decode cX5_bring 16 = .ok (.iconst 0, 1) := by decide +kernel
theorem dX5_bring_17 : decode cX5_bring 17 = .ok (.iconst 3, 1) := by decide +kernel
theorem dX5_bring_18 : decode cX5_bring 18 = .ok (.invokestatic 74, 3) := by decide +kernel
theorem dX5_bring_21 : decode cX5_bring 21 = .ok (.ifCond .ne 13, 3) := by decide +kernel
theorem dX5_bring_24 : decode cX5_bring 24 = .ok (.iload_n 3, 1) := by decide +kernel
theorem dX5_bring_25 : decode cX5_bring 25 = .ok (.iconst 1, 1) := by decide +kernel
theorem dX5_bring_26 : decode cX5_bring 26 = .ok (.ldc 103, 2) := by decide +kernel
theorem dX5_bring_28 : decode cX5_bring 28 = .ok (.invokestatic 74, 3) := by decide +kernel
theorem dX5_bring_31 : decode cX5_bring 31 = .ok (.ifCond .eq 11, 3) := by decide +kernel
theorem dX5_bring_34 : decode cX5_bring 34 = .ok (.new 71, 3) := by decide +kernel
theorem dX5_bring_37 : decode cX5_bring 37 = .ok (.dup, 1) := by decide +kernel
theorem dX5_bring_38 : decode cX5_bring 38 = .ok (.invokespecial 73, 3) := by decide +kernel
theorem dX5_bring_41 : decode cX5_bring 41 = .ok (.athrow, 1) := by decide +kernel
theorem dX5_bring_42 : decode cX5_bring 42 = .ok (.aload_n 0, 1) := by decide +kernel
theorem dX5_bring_43 : decode cX5_bring 43 = .ok (.getfield 10, 3) := by decide +kernel
theorem dX5_bring_46 : decode cX5_bring 46 = .ok (.getfield 57, 3) := by decide +kernel
theorem dX5_bring_49 : decode cX5_bring 49 = .ok (.iload_n 1, 1) := by decide +kernel
theorem dX5_bring_50 : decode cX5_bring 50 = .ok (.iaload, 1) := by decide +kernel
theorem dX5_bring_51 : decode cX5_bring 51 = .ok (.iconst 1, 1) := by decide +kernel
theorem dX5_bring_52 : decode cX5_bring 52 = .ok (.if_icmp .eq 17, 3) := by decide +kernel
theorem dX5_bring_55 : decode cX5_bring 55 = .ok (.aload_n 0, 1) := by decide +kernel
theorem dX5_bring_56 : decode cX5_bring 56 = .ok (.getfield 22, 3) := by decide +kernel
theorem dX5_bring_59 : decode cX5_bring 59 = .ok (.getfield 104, 3) := by decide +kernel
theorem dX5_bring_62 : decode cX5_bring 62 = .ok (.iload_n 3, 1) := by decide +kernel
theorem dX5_bring_63 : decode cX5_bring 63 = .ok (.iadd, 1) := by decide +kernel
theorem dX5_bring_64 : decode cX5_bring 64 = .ok (.ldc 107, 2) := by decide +kernel
theorem dX5_bring_66 : decode cX5_bring 66 = .ok (.if_icmp .le 11, 3) := by decide +kernel
theorem dX5_bring_69 : decode cX5_bring 69 = .ok (.new 54, 3) := by decide +kernel
theorem dX5_bring_72 : decode cX5_bring 72 = .ok (.dup, 1) := by decide +kernel
theorem dX5_bring_73 : decode cX5_bring 73 = .ok (.invokespecial 56, 3) := by decide +kernel
theorem dX5_bring_76 : decode cX5_bring 76 = .ok (.athrow, 1) := by decide +kernel
theorem dX5_bring_77 : decode cX5_bring 77 = .ok (.aload_n 0, 1) := by decide +kernel
theorem dX5_bring_78 : decode cX5_bring 78 = .ok (.getfield 22, 3) := by decide +kernel
theorem dX5_bring_81 : decode cX5_bring 81 = .ok (.dup, 1) := by decide +kernel
theorem dX5_bring_82 : decode cX5_bring 82 = .ok (.getfield 104, 3) := by decide +kernel
theorem dX5_bring_85 : decode cX5_bring 85 = .ok (.iload_n 3, 1) := by decide +kernel
theorem dX5_bring_86 : decode cX5_bring 86 = .ok (.iadd, 1) := by decide +kernel
theorem dX5_bring_87 : decode cX5_bring 87 = .ok (.putfield 104, 3) := by decide +kernel
theorem dX5_bring_90 : decode cX5_bring 90 = .ok (.aload_n 0, 1) := by decide +kernel
theorem dX5_bring_91 : decode cX5_bring 91 = .ok (.getfield 22, 3) := by decide +kernel
theorem dX5_bring_94 : decode cX5_bring 94 = .ok (.getfield 108, 3) := by decide +kernel
theorem dX5_bring_97 : decode cX5_bring 97 = .ok (.iload_n 2, 1) := by decide +kernel
theorem dX5_bring_98 : decode cX5_bring 98 = .ok (.aaload, 1) := by decide +kernel
theorem dX5_bring_99 : decode cX5_bring 99 = .ok (.iload_n 1, 1) := by decide +kernel
theorem dX5_bring_100 : decode cX5_bring 100 = .ok (.dup2, 1) := by decide +kernel
theorem dX5_bring_101 : decode cX5_bring 101 = .ok (.iaload, 1) := by decide +kernel
theorem dX5_bring_102 : decode cX5_bring 102 = .ok (.iload_n 3, 1) := by decide +kernel
theorem dX5_bring_103 : decode cX5_bring 103 = .ok (.iadd, 1) := by decide +kernel
theorem dX5_bring_104 : decode cX5_bring 104 = .ok (.iastore, 1) := by decide +kernel
theorem dX5_bring_105 : decode cX5_bring 105 = .ok (.aload_n 0, 1) := by decide +kernel
theorem dX5_bring_106 : decode cX5_bring 106 = .ok (.getfield 22, 3) := by decide +kernel
theorem dX5_bring_109 : decode cX5_bring 109 = .ok (.getfield 108, 3) := by decide +kernel
theorem dX5_bring_112 : decode cX5_bring 112 = .ok (.iload_n 2, 1) := by decide +kernel
theorem dX5_bring_113 : decode cX5_bring 113 = .ok (.aaload, 1) := by decide +kernel
theorem dX5_bring_114 : decode cX5_bring 114 = .ok (.iload_n 1, 1) := by decide +kernel
theorem dX5_bring_115 : decode cX5_bring 115 = .ok (.iaload, 1) := by decide +kernel
theorem dX5_bring_116 : decode cX5_bring 116 = .ok (.ireturn, 1) := by decide +kernel
theorem dX5_step_0 : decode cX5_step 0 = .ok (.iload_n 1, 1) := by decide +kernel
theorem dX5_step_1 : decode cX5_step 1 = .ok (.iconst 1, 1) := by decide +kernel
theorem dX5_step_2 : decode cX5_step 2 = .ok (.sipush 200, 3) := by decide +kernel
theorem dX5_step_5 : decode cX5_step 5 = .ok (.invokestatic 74, 3) := by decide +kernel
theorem dX5_step_8 : decode cX5_step 8 = .ok (.ifCond .eq 11, 3) := by decide +kernel
theorem dX5_step_11 : decode cX5_step 11 = .ok (.new 71, 3) := by decide +kernel
theorem dX5_step_14 : decode cX5_step 14 = .ok (.dup, 1) := by decide +kernel
theorem dX5_step_15 : decode cX5_step 15 = .ok (.invokespecial 73, 3) := by decide +kernel
theorem dX5_step_18 : decode cX5_step 18 = .ok (.athrow, 1) := by decide +kernel
theorem dX5_step_19 : decode cX5_step 19 = .ok (.aload_n 0, 1) := by decide +kernel
theorem dX5_step_20 : decode cX5_step 20 = .ok (.getfield 112, 3) := by decide +kernel
theorem dX5_step_23 : decode cX5_step 23 = .ok (.iload_n 1, 1) := by decide +kernel
theorem dX5_step_24 : decode cX5_step 24 = .ok (.iadd, 1) := by decide +kernel
theorem dX5_step_25 : decode cX5_step 25 = .ok (.sipush 5000, 3) := by decide +kernel
theorem dX5_step_28 : decode cX5_step 28 = .ok (.if_icmp .le 11, 3) := by decide +kernel
theorem dX5_step_31 : decode cX5_step 31 = .ok (.new 54, 3) := by decide +kernel
theorem dX5_step_34 : decode cX5_step 34 = .ok (.dup, 1) := by decide +kernel
theorem dX5_step_35 : decode cX5_step 35 = .ok (.invokespecial 56, 3) := by decide +kernel
theorem dX5_step_38 : decode cX5_step 38 = .ok (.athrow, 1) := by decide +kernel
theorem dX5_step_39 : decode cX5_step 39 = .ok (.aload_n 0, 1) := by decide +kernel
theorem dX5_step_40 : decode cX5_step 40 = .ok (.getfield 10, 3) := by decide +kernel
theorem dX5_step_43 : decode cX5_step 43 = .ok (.invokevirtual 115, 3) := by decide +kernel
theorem dX5_step_46 : decode cX5_step 46 = .ok (.istore_n 2, 1) := by decide +kernel
theorem dX5_step_47 : decode cX5_step 47 = .ok (.iconst 0, 1) := by decide +kernel
theorem dX5_step_48 : decode cX5_step 48 = .ok (.istore_n 3, 1) := by decide +kernel
theorem dX5_step_49 : decode cX5_step 49 = .ok (.iload_n 3, 1) := by decide +kernel
theorem dX5_step_50 : decode cX5_step 50 = .ok (.iload_n 1, 1) := by decide +kernel
theorem dX5_step_51 : decode cX5_step 51 = .ok (.if_icmp .ge 55, 3) := by decide +kernel
theorem dX5_step_54 : decode cX5_step 54 = .ok (.aload_n 0, 1) := by decide +kernel
theorem dX5_step_55 : decode cX5_step 55 = .ok (.getfield 10, 3) := by decide +kernel
theorem dX5_step_58 : decode cX5_step 58 = .ok (.invokevirtual 119, 3) := by decide +kernel
theorem dX5_step_61 : decode cX5_step 61 = .ok (.aload_n 0, 1) := by decide +kernel
theorem dX5_step_62 : decode cX5_step 62 = .ok (.getfield 29, 3) := by decide +kernel
theorem dX5_step_65 : decode cX5_step 65 = .ok (.aload_n 0, 1) := by decide +kernel
theorem dX5_step_66 : decode cX5_step 66 = .ok (.getfield 10, 3) := by decide +kernel
theorem dX5_step_69 : decode cX5_step 69 = .ok (.invokevirtual 122, 3) := by decide +kernel
theorem dX5_step_72 : decode cX5_step 72 = .ok (.aload_n 0, 1) := by decide +kernel
theorem dX5_step_73 : decode cX5_step 73 = .ok (.dup, 1) := by decide +kernel
theorem dX5_step_74 : decode cX5_step 74 = .ok (.getfield 112, 3) := by decide +kernel
theorem dX5_step_77 : decode cX5_step 77 = .ok (.iconst 1, 1) := by decide +kernel
theorem dX5_step_78 : decode cX5_step 78 = .ok (.iadd, 1) := by decide +kernel
theorem dX5_step_79 : decode cX5_step 79 = .ok (.putfield 112, 3) := by decide +kernel
theorem dX5_step_82 : decode cX5_step 82 = .ok (.aload_n 0, 1) := by decide +kernel
theorem dX5_step_83 : decode cX5_step 83 = .ok (.iload_n 2, 1) := by decide +kernel
theorem dX5_step_84 : decode cX5_step 84 = .ok (.ifCond .eq 12, 3) := by decide +kernel
theorem dX5_step_87 : decode cX5_step 87 = .ok (.aload_n 0, 1) := by decide +kernel
theorem dX5_step_88 : decode cX5_step 88 = .ok (.getfield 63, 3) := by decide +kernel
theorem dX5_step_91 : decode cX5_step 91 = .ok (.iconst 1, 1) := by decide +kernel
theorem dX5_step_92 : decode cX5_step 92 = .ok (.iadd, 1) := by decide +kernel
theorem dX5_step_93 : decode cX5_step 93 = .ok (.goto 4, 3) := by decide +kernel
theorem dX5_step_96 : decode cX5_step 96 = .ok (.iconst 0, 1) := by decide +kernel
theorem dX5_step_97 : decode cX5_step 97 = .ok (.putfield 63, 3) := by decide +kernel
theorem dX5_step_100 : decode cX5_step 100 = .ok (.iinc 3 1, 3) := by decide +kernel
theorem dX5_step_103 : decode cX5_step 103 = .ok (.goto (-54), 3) := by decide +kernel
theorem dX5_step_106 : decode cX5_step 106 = .ok (.aload_n 0, 1) := by decide +kernel
theorem dX5_step_107 : decode cX5_step 107 = .ok (.getfield 112, 3) := by decide +kernel
theorem dX5_step_110 : decode cX5_step 110 = .ok (.ireturn, 1) := by decide +kernel
theorem dX5_back_0 : decode cX5_back 0 = .ok (.iload_n 1, 1) := by decide +kernel
theorem dX5_back_1 : decode cX5_back 1 = .ok (.iconst 1, 1) := by decide +kernel
theorem dX5_back_2 : decode cX5_back 2 = .ok (.sipush 200, 3) := by decide +kernel
theorem dX5_back_5 : decode cX5_back 5 = .ok (.invokestatic 74, 3) := by decide +kernel
theorem dX5_back_8 : decode cX5_back 8 = .ok (.ifCond .eq 11, 3) := by decide +kernel
theorem dX5_back_11 : decode cX5_back 11 = .ok (.new 71, 3) := by decide +kernel
theorem dX5_back_14 : decode cX5_back 14 = .ok (.dup, 1) := by decide +kernel
theorem dX5_back_15 : decode cX5_back 15 = .ok (.invokespecial 73, 3) := by decide +kernel
theorem dX5_back_18 : decode cX5_back 18 = .ok (.athrow, 1) := by decide +kernel
theorem dX5_back_19 : decode cX5_back 19 = .ok (.aload_n 0, 1) := by decide +kernel
theorem dX5_back_20 : decode cX5_back 20 = .ok (.getfield 63, 3) := by decide +kernel
theorem dX5_back_23 : decode cX5_back 23 = .ok (.iload_n 1, 1) := by decide +kernel
theorem dX5_back_24 : decode cX5_back 24 = .ok (.if_icmp .ge 11, 3) := by decide +kernel
theorem dX5_back_27 : decode cX5_back 27 = .ok (.new 54, 3) := by decide +kernel
theorem dX5_back_30 : decode cX5_back 30 = .ok (.dup, 1) := by decide +kernel
theorem dX5_back_31 : decode cX5_back 31 = .ok (.invokespecial 56, 3) := by decide +kernel
theorem dX5_back_34 : decode cX5_back 34 = .ok (.athrow, 1) := by decide +kernel
theorem dX5_back_35 : decode cX5_back 35 = .ok (.iconst 0, 1) := by decide +kernel
theorem dX5_back_36 : decode cX5_back 36 = .ok (.istore_n 2, 1) := by decide +kernel
theorem dX5_back_37 : decode cX5_back 37 = .ok (.iload_n 2, 1) := by decide +kernel
theorem dX5_back_38 : decode cX5_back 38 = .ok (.iload_n 1, 1) := by decide +kernel
theorem dX5_back_39 : decode cX5_back 39 = .ok (.if_icmp .ge 43, 3) := by decide +kernel
theorem dX5_back_42 : decode cX5_back 42 = .ok (.aload_n 0, 1) := by decide +kernel
theorem dX5_back_43 : decode cX5_back 43 = .ok (.getfield 10, 3) := by decide +kernel
theorem dX5_back_46 : decode cX5_back 46 = .ok (.invokevirtual 126, 3) := by decide +kernel
theorem dX5_back_49 : decode cX5_back 49 = .ok (.aload_n 0, 1) := by decide +kernel
theorem dX5_back_50 : decode cX5_back 50 = .ok (.getfield 29, 3) := by decide +kernel
theorem dX5_back_53 : decode cX5_back 53 = .ok (.invokevirtual 129, 3) := by decide +kernel
theorem dX5_back_56 : decode cX5_back 56 = .ok (.aload_n 0, 1) := by decide +kernel
theorem dX5_back_57 : decode cX5_back 57 = .ok (.dup, 1) := by decide +kernel
theorem dX5_back_58 : decode cX5_back 58 = .ok (.getfield 112, 3) := by decide +kernel
theorem dX5_back_61 : decode cX5_back 61 = .ok (.iconst 1, 1) := by decide +kernel
theorem dX5_back_62 : decode cX5_back 62 = .ok (.isub, 1) := by decide +kernel
theorem dX5_back_63 : decode cX5_back 63 = .ok (.putfield 112, 3) := by decide +kernel
theorem dX5_back_66 : decode cX5_back 66 = .ok (.aload_n 0, 1) := by decide +kernel
theorem dX5_back_67 : decode cX5_back 67 = .ok (.dup, 1) := by decide +kernel
theorem dX5_back_68 : decode cX5_back 68 = .ok (.getfield 63, 3) := by decide +kernel
theorem dX5_back_71 : decode cX5_back 71 = .ok (.iconst 1, 1) := by decide +kernel
theorem dX5_back_72 : decode cX5_back 72 = .ok (.isub, 1) := by decide +kernel
theorem dX5_back_73 : decode cX5_back 73 = .ok (.putfield 63, 3) := by decide +kernel
theorem dX5_back_76 : decode cX5_back 76 = .ok (.iinc 2 1, 3) := by decide +kernel
theorem dX5_back_79 : decode cX5_back 79 = .ok (.goto (-42), 3) := by decide +kernel
theorem dX5_back_82 : decode cX5_back 82 = .ok (.aload_n 0, 1) := by decide +kernel
theorem dX5_back_83 : decode cX5_back 83 = .ok (.getfield 112, 3) := by decide +kernel
theorem dX5_back_86 : decode cX5_back 86 = .ok (.ireturn, 1) := by decide +kernel
theorem dX5_flow_0 : decode cX5_flow 0 = .ok (.iload_n 1, 1) := by decide +kernel
theorem dX5_flow_1 : decode cX5_flow 1 = .ok (.iconst 1, 1) := by decide +kernel
theorem dX5_flow_2 : decode cX5_flow 2 = .ok (.bipush 100, 2) := by decide +kernel
theorem dX5_flow_4 : decode cX5_flow 4 = .ok (.invokestatic 74, 3) := by decide +kernel
theorem dX5_flow_7 : decode cX5_flow 7 = .ok (.ifCond .eq 11, 3) := by decide +kernel
theorem dX5_flow_10 : decode cX5_flow 10 = .ok (.new 71, 3) := by decide +kernel
theorem dX5_flow_13 : decode cX5_flow 13 = .ok (.dup, 1) := by decide +kernel
theorem dX5_flow_14 : decode cX5_flow 14 = .ok (.invokespecial 73, 3) := by decide +kernel
theorem dX5_flow_17 : decode cX5_flow 17 = .ok (.athrow, 1) := by decide +kernel
theorem dX5_flow_18 : decode cX5_flow 18 = .ok (.iconst 0, 1) := by decide +kernel
theorem dX5_flow_19 : decode cX5_flow 19 = .ok (.istore_n 2, 1) := by decide +kernel
theorem dX5_flow_20 : decode cX5_flow 20 = .ok (.iload_n 2, 1) := by decide +kernel
theorem dX5_flow_21 : decode cX5_flow 21 = .ok (.iload_n 1, 1) := by decide +kernel
theorem dX5_flow_22 : decode cX5_flow 22 = .ok (.if_icmp .ge 20, 3) := by decide +kernel
theorem dX5_flow_25 : decode cX5_flow 25 = .ok (.aload_n 0, 1) := by decide +kernel
theorem dX5_flow_26 : decode cX5_flow 26 = .ok (.getfield 22, 3) := by decide +kernel
theorem dX5_flow_29 : decode cX5_flow 29 = .ok (.aload_n 0, 1) := by decide +kernel
theorem dX5_flow_30 : decode cX5_flow 30 = .ok (.getfield 10, 3) := by decide +kernel
theorem dX5_flow_33 : decode cX5_flow 33 = .ok (.invokevirtual 132, 3) := by decide +kernel
theorem dX5_flow_36 : decode cX5_flow 36 = .ok (.iinc 2 1, 3) := by decide +kernel
theorem dX5_flow_39 : decode cX5_flow 39 = .ok (.goto (-19), 3) := by decide +kernel
theorem dX5_flow_42 : decode cX5_flow 42 = .ok (.aload_n 0, 1) := by decide +kernel
theorem dX5_flow_43 : decode cX5_flow 43 = .ok (.getfield 22, 3) := by decide +kernel
theorem dX5_flow_46 : decode cX5_flow 46 = .ok (.getfield 135, 3) := by decide +kernel
theorem dX5_flow_49 : decode cX5_flow 49 = .ok (.lreturn, 1) := by decide +kernel
theorem dX5_cellOf_0 : decode cX5_cellOf 0 = .ok (.iload_n 1, 1) := by decide +kernel
theorem dX5_cellOf_1 : decode cX5_cellOf 1 = .ok (.invokestatic 37, 3) := by decide +kernel
theorem dX5_cellOf_4 : decode cX5_cellOf 4 = .ok (.ifCond .eq 11, 3) := by decide +kernel
theorem dX5_cellOf_7 : decode cX5_cellOf 7 = .ok (.new 44, 3) := by decide +kernel
theorem dX5_cellOf_10 : decode cX5_cellOf 10 = .ok (.dup, 1) := by decide +kernel
theorem dX5_cellOf_11 : decode cX5_cellOf 11 = .ok (.invokespecial 46, 3) := by decide +kernel
theorem dX5_cellOf_14 : decode cX5_cellOf 14 = .ok (.athrow, 1) := by decide +kernel
theorem dX5_cellOf_15 : decode cX5_cellOf 15 = .ok (.iload_n 2, 1) := by decide +kernel
theorem dX5_cellOf_16 : decode cX5_cellOf 16 = .ok (.tableswitch 102 0 7 #[48, 58, 68, 78, 88, 88, 88, 88], 48) := by decide +kernel
theorem dX5_cellOf_64 : decode cX5_cellOf 64 = .ok (.aload_n 0, 1) := by decide +kernel
theorem dX5_cellOf_65 : decode cX5_cellOf 65 = .ok (.getfield 10, 3) := by decide +kernel
theorem dX5_cellOf_68 : decode cX5_cellOf 68 = .ok (.getfield 57, 3) := by decide +kernel
theorem dX5_cellOf_71 : decode cX5_cellOf 71 = .ok (.iload_n 1, 1) := by decide +kernel
theorem dX5_cellOf_72 : decode cX5_cellOf 72 = .ok (.iaload, 1) := by decide +kernel
theorem dX5_cellOf_73 : decode cX5_cellOf 73 = .ok (.ireturn, 1) := by decide +kernel
theorem dX5_cellOf_74 : decode cX5_cellOf 74 = .ok (.aload_n 0, 1) := by decide +kernel
theorem dX5_cellOf_75 : decode cX5_cellOf 75 = .ok (.getfield 10, 3) := by decide +kernel
theorem dX5_cellOf_78 : decode cX5_cellOf 78 = .ok (.getfield 60, 3) := by decide +kernel
theorem dX5_cellOf_81 : decode cX5_cellOf 81 = .ok (.iload_n 1, 1) := by decide +kernel
theorem dX5_cellOf_82 : decode cX5_cellOf 82 = .ok (.iaload, 1) := by decide +kernel
theorem dX5_cellOf_83 : decode cX5_cellOf 83 = .ok (.ireturn, 1) := by decide +kernel
theorem dX5_cellOf_84 : decode cX5_cellOf 84 = .ok (.aload_n 0, 1) := by decide +kernel
theorem dX5_cellOf_85 : decode cX5_cellOf 85 = .ok (.getfield 10, 3) := by decide +kernel
theorem dX5_cellOf_88 : decode cX5_cellOf 88 = .ok (.getfield 78, 3) := by decide +kernel
theorem dX5_cellOf_91 : decode cX5_cellOf 91 = .ok (.iload_n 1, 1) := by decide +kernel
theorem dX5_cellOf_92 : decode cX5_cellOf 92 = .ok (.iaload, 1) := by decide +kernel
theorem dX5_cellOf_93 : decode cX5_cellOf 93 = .ok (.ireturn, 1) := by decide +kernel
theorem dX5_cellOf_94 : decode cX5_cellOf 94 = .ok (.aload_n 0, 1) := by decide +kernel
theorem dX5_cellOf_95 : decode cX5_cellOf 95 = .ok (.getfield 10, 3) := by decide +kernel
theorem dX5_cellOf_98 : decode cX5_cellOf 98 = .ok (.getfield 89, 3) := by decide +kernel
theorem dX5_cellOf_101 : decode cX5_cellOf 101 = .ok (.iload_n 1, 1) := by decide +kernel
theorem dX5_cellOf_102 : decode cX5_cellOf 102 = .ok (.iaload, 1) := by decide +kernel
theorem dX5_cellOf_103 : decode cX5_cellOf 103 = .ok (.ireturn, 1) := by decide +kernel
theorem dX5_cellOf_104 : decode cX5_cellOf 104 = .ok (.aload_n 0, 1) := by decide +kernel
theorem dX5_cellOf_105 : decode cX5_cellOf 105 = .ok (.getfield 22, 3) := by decide +kernel
theorem dX5_cellOf_108 : decode cX5_cellOf 108 = .ok (.getfield 108, 3) := by decide +kernel
theorem dX5_cellOf_111 : decode cX5_cellOf 111 = .ok (.iload_n 2, 1) := by decide +kernel
theorem dX5_cellOf_112 : decode cX5_cellOf 112 = .ok (.iconst 4, 1) := by decide +kernel
theorem dX5_cellOf_113 : decode cX5_cellOf 113 = .ok (.isub, 1) := by decide +kernel
theorem dX5_cellOf_114 : decode cX5_cellOf 114 = .ok (.aaload, 1) := by decide +kernel
theorem dX5_cellOf_115 : decode cX5_cellOf 115 = .ok (.iload_n 1, 1) := by decide +kernel
theorem dX5_cellOf_116 : decode cX5_cellOf 116 = .ok (.iaload, 1) := by decide +kernel
theorem dX5_cellOf_117 : decode cX5_cellOf 117 = .ok (.ireturn, 1) := by decide +kernel
theorem dX5_cellOf_118 : decode cX5_cellOf 118 = .ok (.new 71, 3) := by decide +kernel
theorem dX5_cellOf_121 : decode cX5_cellOf 121 = .ok (.dup, 1) := by decide +kernel
theorem dX5_cellOf_122 : decode cX5_cellOf 122 = .ok (.invokespecial 73, 3) := by decide +kernel
theorem dX5_cellOf_125 : decode cX5_cellOf 125 = .ok (.athrow, 1) := by decide +kernel
end
section
theorem dX5_bodyOf_0 : decode cX5_bodyOf 0 = .ok (.iload_n 1, 1) := by decide +kernel
theorem dX5_bodyOf_1 : decode cX5_bodyOf 1 = .ok (.invokestatic 41, 3) := by decide +kernel
theorem dX5_bodyOf_4 : decode cX5_bodyOf 4 = .ok (.ifCond .eq 11, 3) := by decide +kernel
theorem dX5_bodyOf_7 : decode cX5_bodyOf 7 = .ok (.new 44, 3) := by decide +kernel
theorem dX5_bodyOf_10 : decode cX5_bodyOf 10 = .ok (.dup, 1) := by decide +kernel
theorem dX5_bodyOf_11 : decode cX5_bodyOf 11 = .ok (.invokespecial 46, 3) := by decide +kernel
theorem dX5_bodyOf_14 : decode cX5_bodyOf 14 = .ok (.athrow, 1) := by decide +kernel
theorem dX5_bodyOf_15 : decode cX5_bodyOf 15 = .ok (.iload_n 2, 1) := by decide +kernel
theorem dX5_bodyOf_16 : decode cX5_bodyOf 16 = .ok (.tableswitch 133 0 5 #[40, 49, 59, 69, 79, 106], 40) := by decide +kernel
theorem dX5_bodyOf_56 : decode cX5_bodyOf 56 = .ok (.aload_n 0, 1) := by decide +kernel
theorem dX5_bodyOf_57 : decode cX5_bodyOf 57 = .ok (.getfield 10, 3) := by decide +kernel
theorem dX5_bodyOf_60 : decode cX5_bodyOf 60 = .ok (.iload_n 1, 1) := by decide +kernel
theorem dX5_bodyOf_61 : decode cX5_bodyOf 61 = .ok (.invokevirtual 50, 3) := by decide +kernel
theorem dX5_bodyOf_64 : decode cX5_bodyOf 64 = .ok (.ireturn, 1) := by decide +kernel
theorem dX5_bodyOf_65 : decode cX5_bodyOf 65 = .ok (.aload_n 0, 1) := by decide +kernel
theorem dX5_bodyOf_66 : decode cX5_bodyOf 66 = .ok (.getfield 10, 3) := by decide +kernel
theorem dX5_bodyOf_69 : decode cX5_bodyOf 69 = .ok (.getfield 139, 3) := by decide +kernel
theorem dX5_bodyOf_72 : decode cX5_bodyOf 72 = .ok (.iload_n 1, 1) := by decide +kernel
theorem dX5_bodyOf_73 : decode cX5_bodyOf 73 = .ok (.iaload, 1) := by decide +kernel
theorem dX5_bodyOf_74 : decode cX5_bodyOf 74 = .ok (.ireturn, 1) := by decide +kernel
theorem dX5_bodyOf_75 : decode cX5_bodyOf 75 = .ok (.aload_n 0, 1) := by decide +kernel
theorem dX5_bodyOf_76 : decode cX5_bodyOf 76 = .ok (.getfield 10, 3) := by decide +kernel
theorem dX5_bodyOf_79 : decode cX5_bodyOf 79 = .ok (.getfield 142, 3) := by decide +kernel
theorem dX5_bodyOf_82 : decode cX5_bodyOf 82 = .ok (.iload_n 1, 1) := by decide +kernel
theorem dX5_bodyOf_83 : decode cX5_bodyOf 83 = .ok (.iaload, 1) := by decide +kernel
theorem dX5_bodyOf_84 : decode cX5_bodyOf 84 = .ok (.ireturn, 1) := by decide +kernel
theorem dX5_bodyOf_85 : decode cX5_bodyOf 85 = .ok (.aload_n 0, 1) := by decide +kernel
theorem dX5_bodyOf_86 : decode cX5_bodyOf 86 = .ok (.getfield 10, 3) := by decide +kernel
theorem dX5_bodyOf_89 : decode cX5_bodyOf 89 = .ok (.getfield 145, 3) := by decide +kernel
theorem dX5_bodyOf_92 : decode cX5_bodyOf 92 = .ok (.iload_n 1, 1) := by decide +kernel
theorem dX5_bodyOf_93 : decode cX5_bodyOf 93 = .ok (.iaload, 1) := by decide +kernel
theorem dX5_bodyOf_94 : decode cX5_bodyOf 94 = .ok (.ireturn, 1) := by decide +kernel
theorem dX5_bodyOf_95 : decode cX5_bodyOf 95 = .ok (.aload_n 0, 1) := by decide +kernel
theorem dX5_bodyOf_96 : decode cX5_bodyOf 96 = .ok (.getfield 10, 3) := by decide +kernel
theorem dX5_bodyOf_99 : decode cX5_bodyOf 99 = .ok (.getfield 142, 3) := by decide +kernel
theorem dX5_bodyOf_102 : decode cX5_bodyOf 102 = .ok (.iload_n 1, 1) := by decide +kernel
theorem dX5_bodyOf_103 : decode cX5_bodyOf 103 = .ok (.iaload, 1) := by decide +kernel
theorem dX5_bodyOf_104 : decode cX5_bodyOf 104 = .ok (.aload_n 0, 1) := by decide +kernel
theorem dX5_bodyOf_105 : decode cX5_bodyOf 105 = .ok (.getfield 33, 3) := by decide +kernel
theorem dX5_bodyOf_108 : decode cX5_bodyOf 108 = .ok (.iload_n 1, 1) := by decide +kernel
theorem dX5_bodyOf_109 : decode cX5_bodyOf 109 = .ok (.iaload, 1) := by decide +kernel
theorem dX5_bodyOf_110 : decode cX5_bodyOf 110 = .ok (.aload_n 0, 1) := by decide +kernel
theorem dX5_bodyOf_111 : decode cX5_bodyOf 111 = .ok (.getfield 10, 3) := by decide +kernel
theorem dX5_bodyOf_114 : decode cX5_bodyOf 114 = .ok (.getfield 139, 3) := by decide +kernel
theorem dX5_bodyOf_117 : decode cX5_bodyOf 117 = .ok (.iload_n 1, 1) := by decide +kernel
theorem dX5_bodyOf_118 : decode cX5_bodyOf 118 = .ok (.iaload, 1) := by decide +kernel
theorem dX5_bodyOf_119 : decode cX5_bodyOf 119 = .ok (.imul, 1) := by decide +kernel
theorem dX5_bodyOf_120 : decode cX5_bodyOf 120 = .ok (.iadd, 1) := by decide +kernel
theorem dX5_bodyOf_121 : decode cX5_bodyOf 121 = .ok (.ireturn, 1) := by decide +kernel
theorem dX5_bodyOf_122 : decode cX5_bodyOf 122 = .ok (.aload_n 0, 1) := by decide +kernel
theorem dX5_bodyOf_123 : decode cX5_bodyOf 123 = .ok (.getfield 10, 3) := by decide +kernel
theorem dX5_bodyOf_126 : decode cX5_bodyOf 126 = .ok (.getfield 145, 3) := by decide +kernel
theorem dX5_bodyOf_129 : decode cX5_bodyOf 129 = .ok (.iload_n 1, 1) := by decide +kernel
theorem dX5_bodyOf_130 : decode cX5_bodyOf 130 = .ok (.iaload, 1) := by decide +kernel
theorem dX5_bodyOf_131 : decode cX5_bodyOf 131 = .ok (.aload_n 0, 1) := by decide +kernel
theorem dX5_bodyOf_132 : decode cX5_bodyOf 132 = .ok (.getfield 33, 3) := by decide +kernel
theorem dX5_bodyOf_135 : decode cX5_bodyOf 135 = .ok (.iload_n 1, 1) := by decide +kernel
theorem dX5_bodyOf_136 : decode cX5_bodyOf 136 = .ok (.iaload, 1) := by decide +kernel
theorem dX5_bodyOf_137 : decode cX5_bodyOf 137 = .ok (.aload_n 0, 1) := by decide +kernel
theorem dX5_bodyOf_138 : decode cX5_bodyOf 138 = .ok (.getfield 10, 3) := by decide +kernel
theorem dX5_bodyOf_141 : decode cX5_bodyOf 141 = .ok (.getfield 139, 3) := by decide +kernel
theorem dX5_bodyOf_144 : decode cX5_bodyOf 144 = .ok (.iload_n 1, 1) := by decide +kernel
theorem dX5_bodyOf_145 : decode cX5_bodyOf 145 = .ok (.iaload, 1) := by decide +kernel
theorem dX5_bodyOf_146 : decode cX5_bodyOf 146 = .ok (.imul, 1) := by decide +kernel
theorem dX5_bodyOf_147 : decode cX5_bodyOf 147 = .ok (.iadd, 1) := by decide +kernel
theorem dX5_bodyOf_148 : decode cX5_bodyOf 148 = .ok (.ireturn, 1) := by decide +kernel
theorem dX5_bodyOf_149 : decode cX5_bodyOf 149 = .ok (.new 71, 3) := by decide +kernel
theorem dX5_bodyOf_152 : decode cX5_bodyOf 152 = .ok (.dup, 1) := by decide +kernel
theorem dX5_bodyOf_153 : decode cX5_bodyOf 153 = .ok (.invokespecial 73, 3) := by decide +kernel
theorem dX5_bodyOf_156 : decode cX5_bodyOf 156 = .ok (.athrow, 1) := by decide +kernel
theorem dX5_sum_0 : decode cX5_sum 0 = .ok (.iload_n 1, 1) := by decide +kernel
theorem dX5_sum_1 : decode cX5_sum 1 = .ok (.tableswitch 121 0 7 #[47, 53, 59, 71, 83, 93, 103, 112], 47) := by decide +kernel
theorem dX5_sum_48 : decode cX5_sum 48 = .ok (.aload_n 0, 1) := by decide +kernel
theorem dX5_sum_49 : decode cX5_sum 49 = .ok (.getfield 112, 3) := by decide +kernel
theorem dX5_sum_52 : decode cX5_sum 52 = .ok (.i2l, 1) := by decide +kernel
theorem dX5_sum_53 : decode cX5_sum 53 = .ok (.lreturn, 1) := by decide +kernel
theorem dX5_sum_54 : decode cX5_sum 54 = .ok (.aload_n 0, 1) := by decide +kernel
theorem dX5_sum_55 : decode cX5_sum 55 = .ok (.getfield 63, 3) := by decide +kernel
theorem dX5_sum_58 : decode cX5_sum 58 = .ok (.i2l, 1) := by decide +kernel
theorem dX5_sum_59 : decode cX5_sum 59 = .ok (.lreturn, 1) := by decide +kernel
theorem dX5_sum_60 : decode cX5_sum 60 = .ok (.aload_n 0, 1) := by decide +kernel
theorem dX5_sum_61 : decode cX5_sum 61 = .ok (.getfield 10, 3) := by decide +kernel
theorem dX5_sum_64 : decode cX5_sum 64 = .ok (.getfield 78, 3) := by decide +kernel
theorem dX5_sum_67 : decode cX5_sum 67 = .ok (.invokestatic 148, 3) := by decide +kernel
theorem dX5_sum_70 : decode cX5_sum 70 = .ok (.i2l, 1) := by decide +kernel
theorem dX5_sum_71 : decode cX5_sum 71 = .ok (.lreturn, 1) := by decide +kernel
theorem dX5_sum_72 : decode cX5_sum 72 = .ok (.aload_n 0, 1) := by decide +kernel
theorem dX5_sum_73 : decode cX5_sum 73 = .ok (.getfield 10, 3) := by decide +kernel
theorem dX5_sum_76 : decode cX5_sum 76 = .ok (.getfield 89, 3) := by decide +kernel
theorem dX5_sum_79 : decode cX5_sum 79 = .ok (.invokestatic 148, 3) := by decide +kernel
theorem dX5_sum_82 : decode cX5_sum 82 = .ok (.i2l, 1) := by decide +kernel
theorem dX5_sum_83 : decode cX5_sum 83 = .ok (.lreturn, 1) := by decide +kernel
theorem dX5_sum_84 : decode cX5_sum 84 = .ok (.aload_n 0, 1) := by decide +kernel
theorem dX5_sum_85 : decode cX5_sum 85 = .ok (.getfield 10, 3) := by decide +kernel
theorem dX5_sum_88 : decode cX5_sum 88 = .ok (.iconst 0, 1) := by decide +kernel
theorem dX5_sum_89 : decode cX5_sum 89 = .ok (.invokevirtual 152, 3) := by decide +kernel
theorem dX5_sum_92 : decode cX5_sum 92 = .ok (.i2l, 1) := by decide +kernel
theorem dX5_sum_93 : decode cX5_sum 93 = .ok (.lreturn, 1) := by decide +kernel
theorem dX5_sum_94 : decode cX5_sum 94 = .ok (.aload_n 0, 1) := by decide +kernel
theorem dX5_sum_95 : decode cX5_sum 95 = .ok (.getfield 10, 3) := by decide +kernel
theorem dX5_sum_98 : decode cX5_sum 98 = .ok (.iconst 1, 1) := by decide +kernel
theorem dX5_sum_99 : decode cX5_sum 99 = .ok (.invokevirtual 152, 3) := by decide +kernel
theorem dX5_sum_102 : decode cX5_sum 102 = .ok (.i2l, 1) := by decide +kernel
theorem dX5_sum_103 : decode cX5_sum 103 = .ok (.lreturn, 1) := by decide +kernel
theorem dX5_sum_104 : decode cX5_sum 104 = .ok (.aload_n 0, 1) := by decide +kernel
theorem dX5_sum_105 : decode cX5_sum 105 = .ok (.getfield 10, 3) := by decide +kernel
theorem dX5_sum_108 : decode cX5_sum 108 = .ok (.getfield 155, 3) := by decide +kernel
theorem dX5_sum_111 : decode cX5_sum 111 = .ok (.i2l, 1) := by decide +kernel
theorem dX5_sum_112 : decode cX5_sum 112 = .ok (.lreturn, 1) := by decide +kernel
theorem dX5_sum_113 : decode cX5_sum 113 = .ok (.aload_n 0, 1) := by decide +kernel
theorem dX5_sum_114 : decode cX5_sum 114 = .ok (.getfield 22, 3) := by decide +kernel
theorem dX5_sum_117 : decode cX5_sum 117 = .ok (.getfield 104, 3) := by decide +kernel
theorem dX5_sum_120 : decode cX5_sum 120 = .ok (.i2l, 1) := by decide +kernel
theorem dX5_sum_121 : decode cX5_sum 121 = .ok (.lreturn, 1) := by decide +kernel
theorem dX5_sum_122 : decode cX5_sum 122 = .ok (.new 71, 3) := by decide +kernel
theorem dX5_sum_125 : decode cX5_sum 125 = .ok (.dup, 1) := by decide +kernel
theorem dX5_sum_126 : decode cX5_sum 126 = .ok (.invokespecial 73, 3) := by decide +kernel
theorem dX5_sum_129 : decode cX5_sum 129 = .ok (.athrow, 1) := by decide +kernel
theorem dX5_left_0 : decode cX5_left 0 = .ok (.iload_n 1, 1) := by decide +kernel
theorem dX5_left_1 : decode cX5_left 1 = .ok (.ifCond .eq 7, 3) := by decide +kernel
theorem dX5_left_4 : decode cX5_left 4 = .ok (.iconst 1, 1) := by decide +kernel
theorem dX5_left_5 : decode cX5_left 5 = .ok (.goto 4, 3) := by decide +kernel
theorem dX5_left_8 : decode cX5_left 8 = .ok (.iconst 0, 1) := by decide +kernel
theorem dX5_left_9 : decode cX5_left 9 = .ok (.istore_n 2, 1) := by decide +kernel
theorem dX5_left_10 : decode cX5_left 10 = .ok (.iload_n 2, 1) := by decide +kernel
theorem dX5_left_11 : decode cX5_left 11 = .ok (.invokestatic 158, 3) := by decide +kernel
theorem dX5_left_14 : decode cX5_left 14 = .ok (.istore_n 3, 1) := by decide +kernel
theorem dX5_left_15 : decode cX5_left 15 = .ok (.aload_n 0, 1) := by decide +kernel
theorem dX5_left_16 : decode cX5_left 16 = .ok (.getfield 10, 3) := by decide +kernel
theorem dX5_left_19 : decode cX5_left 19 = .ok (.getfield 161, 3) := by decide +kernel
theorem dX5_left_22 : decode cX5_left 22 = .ok (.iload_n 2, 1) := by decide +kernel
theorem dX5_left_23 : decode cX5_left 23 = .ok (.iaload, 1) := by decide +kernel
theorem dX5_left_24 : decode cX5_left 24 = .ok (.aload_n 0, 1) := by decide +kernel
theorem dX5_left_25 : decode cX5_left 25 = .ok (.getfield 10, 3) := by decide +kernel
theorem dX5_left_28 : decode cX5_left 28 = .ok (.getfield 161, 3) := by decide +kernel
theorem dX5_left_31 : decode cX5_left 31 = .ok (.iload_n 3, 1) := by decide +kernel
theorem dX5_left_32 : decode cX5_left 32 = .ok (.iaload, 1) := by decide +kernel
theorem dX5_left_33 : decode cX5_left 33 = .ok (.isub, 1) := by decide +kernel
theorem dX5_left_34 : decode cX5_left 34 = .ok (.i2l, 1) := by decide +kernel
theorem dX5_left_35 : decode cX5_left 35 = .ok (.lstore 4, 2) := by decide +kernel
theorem dX5_left_37 : decode cX5_left 37 = .ok (.aload_n 0, 1) := by decide +kernel
theorem dX5_left_38 : decode cX5_left 38 = .ok (.getfield 10, 3) := by decide +kernel
theorem dX5_left_41 : decode cX5_left 41 = .ok (.getfield 164, 3) := by decide +kernel
theorem dX5_left_44 : decode cX5_left 44 = .ok (.iload_n 2, 1) := by decide +kernel
theorem dX5_left_45 : decode cX5_left 45 = .ok (.iaload, 1) := by decide +kernel
theorem dX5_left_46 : decode cX5_left 46 = .ok (.aload_n 0, 1) := by decide +kernel
theorem dX5_left_47 : decode cX5_left 47 = .ok (.getfield 10, 3) := by decide +kernel
theorem dX5_left_50 : decode cX5_left 50 = .ok (.getfield 164, 3) := by decide +kernel
theorem dX5_left_53 : decode cX5_left 53 = .ok (.iload_n 3, 1) := by decide +kernel
theorem dX5_left_54 : decode cX5_left 54 = .ok (.iaload, 1) := by decide +kernel
theorem dX5_left_55 : decode cX5_left 55 = .ok (.isub, 1) := by decide +kernel
theorem dX5_left_56 : decode cX5_left 56 = .ok (.i2l, 1) := by decide +kernel
theorem dX5_left_57 : decode cX5_left 57 = .ok (.lstore 6, 2) := by decide +kernel
theorem dX5_left_59 : decode cX5_left 59 = .ok (.aload_n 0, 1) := by decide +kernel
theorem dX5_left_60 : decode cX5_left 60 = .ok (.getfield 10, 3) := by decide +kernel
theorem dX5_left_63 : decode cX5_left 63 = .ok (.getfield 167, 3) := by decide +kernel
theorem dX5_left_66 : decode cX5_left 66 = .ok (.iload_n 2, 1) := by decide +kernel
theorem dX5_left_67 : decode cX5_left 67 = .ok (.iaload, 1) := by decide +kernel
theorem dX5_left_68 : decode cX5_left 68 = .ok (.aload_n 0, 1) := by decide +kernel
theorem dX5_left_69 : decode cX5_left 69 = .ok (.getfield 10, 3) := by decide +kernel
theorem dX5_left_72 : decode cX5_left 72 = .ok (.getfield 167, 3) := by decide +kernel
theorem dX5_left_75 : decode cX5_left 75 = .ok (.iload_n 3, 1) := by decide +kernel
theorem dX5_left_76 : decode cX5_left 76 = .ok (.iaload, 1) := by decide +kernel
theorem dX5_left_77 : decode cX5_left 77 = .ok (.isub, 1) := by decide +kernel
theorem dX5_left_78 : decode cX5_left 78 = .ok (.i2l, 1) := by decide +kernel
theorem dX5_left_79 : decode cX5_left 79 = .ok (.lstore 8, 2) := by decide +kernel
theorem dX5_left_81 : decode cX5_left 81 = .ok (.lload 4, 2) := by decide +kernel
theorem dX5_left_83 : decode cX5_left 83 = .ok (.aload_n 0, 1) := by decide +kernel
theorem dX5_left_84 : decode cX5_left 84 = .ok (.getfield 10, 3) := by decide +kernel
theorem dX5_left_87 : decode cX5_left 87 = .ok (.iload_n 2, 1) := by decide +kernel
theorem dX5_left_88 : decode cX5_left 88 = .ok (.invokevirtual 152, 3) := by decide +kernel
theorem dX5_left_91 : decode cX5_left 91 = .ok (.i2l, 1) := by decide +kernel
theorem dX5_left_92 : decode cX5_left 92 = .ok (.lsub, 1) := by decide +kernel
theorem dX5_left_93 : decode cX5_left 93 = .ok (.lload 6, 2) := by decide +kernel
theorem dX5_left_95 : decode cX5_left 95 = .ok (.lsub, 1) := by decide +kernel
theorem dX5_left_96 : decode cX5_left 96 = .ok (.ldc2_w 170, 3) := by decide +kernel
theorem dX5_left_99 : decode cX5_left 99 = .ok (.lload 8, 2) := by decide +kernel
theorem dX5_left_101 : decode cX5_left 101 = .ok (.lmul, 1) := by decide +kernel
theorem dX5_left_102 : decode cX5_left 102 = .ok (.lsub, 1) := by decide +kernel
theorem dX5_left_103 : decode cX5_left 103 = .ok (.lreturn, 1) := by decide +kernel
theorem dX5_average_0 : decode cX5_average 0 = .ok (.iload_n 2, 1) := by decide +kernel
theorem dX5_average_1 : decode cX5_average 1 = .ok (.iconst 0, 1) := by decide +kernel
theorem dX5_average_2 : decode cX5_average 2 = .ok (.iconst 2, 1) := by decide +kernel
theorem dX5_average_3 : decode cX5_average 3 = .ok (.invokestatic 74, 3) := by decide +kernel
theorem dX5_average_6 : decode cX5_average 6 = .ok (.ifCond .ne 16, 3) := by decide +kernel
theorem dX5_average_9 : decode cX5_average 9 = .ok (.iload_n 3, 1) := by decide +kernel
theorem dX5_average_10 : decode cX5_average 10 = .ok (.iload 4, 2) := by decide +kernel
theorem dX5_average_12 : decode cX5_average 12 = .ok (.iload 5, 2) := by decide +kernel
theorem dX5_average_14 : decode cX5_average 14 = .ok (.iload 6, 2) := by decide +kernel
theorem dX5_average_16 : decode cX5_average 16 = .ok (.invokestatic 172, 3) := by decide +kernel
theorem dX5_average_19 : decode cX5_average 19 = .ok (.ifCond .eq 11, 3) := by decide +kernel
theorem dX5_average_22 : decode cX5_average 22 = .ok (.new 71, 3) := by decide +kernel
theorem dX5_average_25 : decode cX5_average 25 = .ok (.dup, 1) := by decide +kernel
theorem dX5_average_26 : decode cX5_average 26 = .ok (.invokespecial 73, 3) := by decide +kernel
theorem dX5_average_29 : decode cX5_average 29 = .ok (.athrow, 1) := by decide +kernel
theorem dX5_average_30 : decode cX5_average 30 = .ok (.aload_n 0, 1) := by decide +kernel
theorem dX5_average_31 : decode cX5_average 31 = .ok (.iload_n 1, 1) := by decide +kernel
theorem dX5_average_32 : decode cX5_average 32 = .ok (.iload_n 2, 1) := by decide +kernel
theorem dX5_average_33 : decode cX5_average 33 = .ok (.new 176, 3) := by decide +kernel
theorem dX5_average_36 : decode cX5_average 36 = .ok (.dup, 1) := by decide +kernel
theorem dX5_average_37 : decode cX5_average 37 = .ok (.iload_n 3, 1) := by decide +kernel
theorem dX5_average_38 : decode cX5_average 38 = .ok (.iload 4, 2) := by decide +kernel
theorem dX5_average_40 : decode cX5_average 40 = .ok (.iload 5, 2) := by decide +kernel
theorem dX5_average_42 : decode cX5_average 42 = .ok (.iload 6, 2) := by decide +kernel
theorem dX5_average_44 : decode cX5_average 44 = .ok (.invokespecial 178, 3) := by decide +kernel
theorem dX5_average_47 : decode cX5_average 47 = .ok (.invokevirtual 181, 3) := by decide +kernel
theorem dX5_average_50 : decode cX5_average 50 = .ok (.astore 7, 2) := by decide +kernel
theorem dX5_average_52 : decode cX5_average 52 = .ok (.aload 7, 2) := by decide +kernel
theorem dX5_average_54 : decode cX5_average 54 = .ok (.getfield 185, 3) := by decide +kernel
theorem dX5_average_57 : decode cX5_average 57 = .ok (.lconst 0, 1) := by decide +kernel
theorem dX5_average_58 : decode cX5_average 58 = .ok (.lcmp, 1) := by decide +kernel
theorem dX5_average_59 : decode cX5_average 59 = .ok (.ifCond .gt 7, 3) := by decide +kernel
theorem dX5_average_62 : decode cX5_average 62 = .ok (.lconst 0, 1) := by decide +kernel
theorem dX5_average_63 : decode cX5_average 63 = .ok (.goto 20, 3) := by decide +kernel
theorem dX5_average_66 : decode cX5_average 66 = .ok (.ldc2_w 190, 3) := by decide +kernel
theorem dX5_average_69 : decode cX5_average 69 = .ok (.aload 7, 2) := by decide +kernel
theorem dX5_average_71 : decode cX5_average 71 = .ok (.getfield 192, 3) := by decide +kernel
theorem dX5_average_74 : decode cX5_average 74 = .ok (.lmul, 1) := by decide +kernel
theorem dX5_average_75 : decode cX5_average 75 = .ok (.aload 7, 2) := by decide +kernel
theorem dX5_average_77 : decode cX5_average 77 = .ok (.getfield 185, 3) := by decide +kernel
theorem dX5_average_80 : decode cX5_average 80 = .ok (.invokestatic 195, 3) := by decide +kernel
theorem dX5_average_83 : decode cX5_average 83 = .ok (.lreturn, 1) := by decide +kernel
theorem dX5_scatter_0 : decode cX5_scatter 0 = .ok (.iload_n 2, 1) := by decide +kernel
theorem dX5_scatter_1 : decode cX5_scatter 1 = .ok (.iconst 0, 1) := by decide +kernel
theorem dX5_scatter_2 : decode cX5_scatter 2 = .ok (.iconst 2, 1) := by decide +kernel
theorem dX5_scatter_3 : decode cX5_scatter 3 = .ok (.invokestatic 74, 3) := by decide +kernel
theorem dX5_scatter_6 : decode cX5_scatter 6 = .ok (.ifCond .ne 16, 3) := by decide +kernel
theorem dX5_scatter_9 : decode cX5_scatter 9 = .ok (.iload_n 3, 1) := by decide +kernel
theorem dX5_scatter_10 : decode cX5_scatter 10 = .ok (.iload 4, 2) := by decide +kernel
theorem dX5_scatter_12 : decode cX5_scatter 12 = .ok (.iload 5, 2) := by decide +kernel
theorem dX5_scatter_14 : decode cX5_scatter 14 = .ok (.iload 6, 2) := by decide +kernel
theorem dX5_scatter_16 : decode cX5_scatter 16 = .ok (.invokestatic 172, 3) := by decide +kernel
theorem dX5_scatter_19 : decode cX5_scatter 19 = .ok (.ifCond .eq 11, 3) := by decide +kernel
theorem dX5_scatter_22 : decode cX5_scatter 22 = .ok (.new 71, 3) := by decide +kernel
theorem dX5_scatter_25 : decode cX5_scatter 25 = .ok (.dup, 1) := by decide +kernel
theorem dX5_scatter_26 : decode cX5_scatter 26 = .ok (.invokespecial 73, 3) := by decide +kernel
theorem dX5_scatter_29 : decode cX5_scatter 29 = .ok (.athrow, 1) := by decide +kernel
theorem dX5_scatter_30 : decode cX5_scatter 30 = .ok (.aload_n 0, 1) := by decide +kernel
theorem dX5_scatter_31 : decode cX5_scatter 31 = .ok (.iload_n 1, 1) := by decide +kernel
theorem dX5_scatter_32 : decode cX5_scatter 32 = .ok (.iload_n 2, 1) := by decide +kernel
theorem dX5_scatter_33 : decode cX5_scatter 33 = .ok (.new 176, 3) := by decide +kernel
theorem dX5_scatter_36 : decode cX5_scatter 36 = .ok (.dup, 1) := by decide +kernel
theorem dX5_scatter_37 : decode cX5_scatter 37 = .ok (.iload_n 3, 1) := by decide +kernel
theorem dX5_scatter_38 : decode cX5_scatter 38 = .ok (.iload 4, 2) := by decide +kernel
theorem dX5_scatter_40 : decode cX5_scatter 40 = .ok (.iload 5, 2) := by decide +kernel
theorem dX5_scatter_42 : decode cX5_scatter 42 = .ok (.iload 6, 2) := by decide +kernel
theorem dX5_scatter_44 : decode cX5_scatter 44 = .ok (.invokespecial 178, 3) := by decide +kernel
theorem dX5_scatter_47 : decode cX5_scatter 47 = .ok (.invokevirtual 181, 3) := by decide +kernel
theorem dX5_scatter_50 : decode cX5_scatter 50 = .ok (.astore 7, 2) := by decide +kernel
theorem dX5_scatter_52 : decode cX5_scatter 52 = .ok (.aload 7, 2) := by decide +kernel
theorem dX5_scatter_54 : decode cX5_scatter 54 = .ok (.getfield 185, 3) := by decide +kernel
theorem dX5_scatter_57 : decode cX5_scatter 57 = .ok (.lconst 0, 1) := by decide +kernel
theorem dX5_scatter_58 : decode cX5_scatter 58 = .ok (.lcmp, 1) := by decide +kernel
theorem dX5_scatter_59 : decode cX5_scatter 59 = .ok (.ifCond .gt 5, 3) := by decide +kernel
theorem dX5_scatter_62 : decode cX5_scatter 62 = .ok (.lconst 0, 1) := by decide +kernel
theorem dX5_scatter_63 : decode cX5_scatter 63 = .ok (.lreturn, 1) := by decide +kernel
theorem dX5_scatter_64 : decode cX5_scatter 64 = .ok (.aload 7, 2) := by decide +kernel
theorem dX5_scatter_66 : decode cX5_scatter 66 = .ok (.getfield 185, 3) := by decide +kernel
theorem dX5_scatter_69 : decode cX5_scatter 69 = .ok (.aload 7, 2) := by decide +kernel
theorem dX5_scatter_71 : decode cX5_scatter 71 = .ok (.getfield 201, 3) := by decide +kernel
theorem dX5_scatter_74 : decode cX5_scatter 74 = .ok (.lmul, 1) := by decide +kernel
theorem dX5_scatter_75 : decode cX5_scatter 75 = .ok (.aload 7, 2) := by decide +kernel
theorem dX5_scatter_77 : decode cX5_scatter 77 = .ok (.getfield 192, 3) := by decide +kernel
theorem dX5_scatter_80 : decode cX5_scatter 80 = .ok (.aload 7, 2) := by decide +kernel
theorem dX5_scatter_82 : decode cX5_scatter 82 = .ok (.getfield 192, 3) := by decide +kernel
theorem dX5_scatter_85 : decode cX5_scatter 85 = .ok (.lmul, 1) := by decide +kernel
theorem dX5_scatter_86 : decode cX5_scatter 86 = .ok (.lsub, 1) := by decide +kernel
theorem dX5_scatter_87 : decode cX5_scatter 87 = .ok (.lstore 8, 2) := by decide +kernel
theorem dX5_scatter_89 : decode cX5_scatter 89 = .ok (.ldc2_w 190, 3) := by decide +kernel
theorem dX5_scatter_92 : decode cX5_scatter 92 = .ok (.lload 8, 2) := by decide +kernel
theorem dX5_scatter_94 : decode cX5_scatter 94 = .ok (.lmul, 1) := by decide +kernel
theorem dX5_scatter_95 : decode cX5_scatter 95 = .ok (.aload 7, 2) := by decide +kernel
theorem dX5_scatter_97 : decode cX5_scatter 97 = .ok (.getfield 185, 3) := by decide +kernel
theorem dX5_scatter_100 : decode cX5_scatter 100 = .ok (.aload 7, 2) := by decide +kernel
theorem dX5_scatter_102 : decode cX5_scatter 102 = .ok (.getfield 185, 3) := by decide +kernel
theorem dX5_scatter_105 : decode cX5_scatter 105 = .ok (.lmul, 1) := by decide +kernel
theorem dX5_scatter_106 : decode cX5_scatter 106 = .ok (.invokestatic 195, 3) := by decide +kernel
theorem dX5_scatter_109 : decode cX5_scatter 109 = .ok (.lreturn, 1) := by decide +kernel
theorem dX5_likeness_0 : decode cX5_likeness 0 = .ok (.iload_n 1, 1) := by decide +kernel
theorem dX5_likeness_1 : decode cX5_likeness 1 = .ok (.iload_n 2, 1) := by decide +kernel
theorem dX5_likeness_2 : decode cX5_likeness 2 = .ok (.iload_n 3, 1) := by decide +kernel
theorem dX5_likeness_3 : decode cX5_likeness 3 = .ok (.iload 4, 2) := by decide +kernel
theorem dX5_likeness_5 : decode cX5_likeness 5 = .ok (.invokestatic 172, 3) := by decide +kernel
theorem dX5_likeness_8 : decode cX5_likeness 8 = .ok (.ifCond .eq 11, 3) := by decide +kernel
theorem dX5_likeness_11 : decode cX5_likeness 11 = .ok (.new 71, 3) := by decide +kernel
theorem dX5_likeness_14 : decode cX5_likeness 14 = .ok (.dup, 1) := by decide +kernel
theorem dX5_likeness_15 : decode cX5_likeness 15 = .ok (.invokespecial 73, 3) := by decide +kernel
theorem dX5_likeness_18 : decode cX5_likeness 18 = .ok (.athrow, 1) := by decide +kernel
theorem dX5_likeness_19 : decode cX5_likeness 19 = .ok (.new 176, 3) := by decide +kernel
theorem dX5_likeness_22 : decode cX5_likeness 22 = .ok (.dup, 1) := by decide +kernel
theorem dX5_likeness_23 : decode cX5_likeness 23 = .ok (.iload_n 1, 1) := by decide +kernel
theorem dX5_likeness_24 : decode cX5_likeness 24 = .ok (.iload_n 2, 1) := by decide +kernel
theorem dX5_likeness_25 : decode cX5_likeness 25 = .ok (.iload_n 3, 1) := by decide +kernel
theorem dX5_likeness_26 : decode cX5_likeness 26 = .ok (.iload 4, 2) := by decide +kernel
theorem dX5_likeness_28 : decode cX5_likeness 28 = .ok (.invokespecial 178, 3) := by decide +kernel
theorem dX5_likeness_31 : decode cX5_likeness 31 = .ok (.astore 5, 2) := by decide +kernel
theorem dX5_likeness_33 : decode cX5_likeness 33 = .ok (.aload_n 0, 1) := by decide +kernel
theorem dX5_likeness_34 : decode cX5_likeness 34 = .ok (.iconst 0, 1) := by decide +kernel
theorem dX5_likeness_35 : decode cX5_likeness 35 = .ok (.iconst 0, 1) := by decide +kernel
theorem dX5_likeness_36 : decode cX5_likeness 36 = .ok (.aload 5, 2) := by decide +kernel
theorem dX5_likeness_38 : decode cX5_likeness 38 = .ok (.invokevirtual 181, 3) := by decide +kernel
theorem dX5_likeness_41 : decode cX5_likeness 41 = .ok (.astore 6, 2) := by decide +kernel
theorem dX5_likeness_43 : decode cX5_likeness 43 = .ok (.aload 6, 2) := by decide +kernel
theorem dX5_likeness_45 : decode cX5_likeness 45 = .ok (.getfield 192, 3) := by decide +kernel
theorem dX5_likeness_48 : decode cX5_likeness 48 = .ok (.lconst 0, 1) := by decide +kernel
theorem dX5_likeness_49 : decode cX5_likeness 49 = .ok (.lcmp, 1) := by decide +kernel
theorem dX5_likeness_50 : decode cX5_likeness 50 = .ok (.ifCond .le 13, 3) := by decide +kernel
theorem dX5_likeness_53 : decode cX5_likeness 53 = .ok (.aload 6, 2) := by decide +kernel
theorem dX5_likeness_55 : decode cX5_likeness 55 = .ok (.getfield 185, 3) := by decide +kernel
theorem dX5_likeness_58 : decode cX5_likeness 58 = .ok (.lconst 0, 1) := by decide +kernel
theorem dX5_likeness_59 : decode cX5_likeness 59 = .ok (.lcmp, 1) := by decide +kernel
theorem dX5_likeness_60 : decode cX5_likeness 60 = .ok (.ifCond .gt 5, 3) := by decide +kernel
theorem dX5_likeness_63 : decode cX5_likeness 63 = .ok (.fconst 0, 1) := by decide +kernel
theorem dX5_likeness_64 : decode cX5_likeness 64 = .ok (.freturn, 1) := by decide +kernel
theorem dX5_likeness_65 : decode cX5_likeness 65 = .ok (.aload 6, 2) := by decide +kernel
theorem dX5_likeness_67 : decode cX5_likeness 67 = .ok (.getfield 192, 3) := by decide +kernel
theorem dX5_likeness_70 : decode cX5_likeness 70 = .ok (.l2f, 1) := by decide +kernel
theorem dX5_likeness_71 : decode cX5_likeness 71 = .ok (.fstore 7, 2) := by decide +kernel
theorem dX5_likeness_73 : decode cX5_likeness 73 = .ok (.aload_n 0, 1) := by decide +kernel
theorem dX5_likeness_74 : decode cX5_likeness 74 = .ok (.iconst 0, 1) := by decide +kernel
theorem dX5_likeness_75 : decode cX5_likeness 75 = .ok (.iconst 1, 1) := by decide +kernel
theorem dX5_likeness_76 : decode cX5_likeness 76 = .ok (.aload 5, 2) := by decide +kernel
theorem dX5_likeness_78 : decode cX5_likeness 78 = .ok (.invokevirtual 181, 3) := by decide +kernel
theorem dX5_likeness_81 : decode cX5_likeness 81 = .ok (.getfield 192, 3) := by decide +kernel
theorem dX5_likeness_84 : decode cX5_likeness 84 = .ok (.l2f, 1) := by decide +kernel
theorem dX5_likeness_85 : decode cX5_likeness 85 = .ok (.fstore 8, 2) := by decide +kernel
theorem dX5_likeness_87 : decode cX5_likeness 87 = .ok (.aload 6, 2) := by decide +kernel
theorem dX5_likeness_89 : decode cX5_likeness 89 = .ok (.getfield 185, 3) := by decide +kernel
theorem dX5_likeness_92 : decode cX5_likeness 92 = .ok (.l2f, 1) := by decide +kernel
theorem dX5_likeness_93 : decode cX5_likeness 93 = .ok (.fstore 9, 2) := by decide +kernel
theorem dX5_likeness_95 : decode cX5_likeness 95 = .ok (.fload 8, 2) := by decide +kernel
theorem dX5_likeness_97 : decode cX5_likeness 97 = .ok (.fload 7, 2) := by decide +kernel
theorem dX5_likeness_99 : decode cX5_likeness 99 = .ok (.fdiv, 1) := by decide +kernel
theorem dX5_likeness_100 : decode cX5_likeness 100 = .ok (.fstore 10, 2) := by decide +kernel
theorem dX5_likeness_102 : decode cX5_likeness 102 = .ok (.fload 7, 2) := by decide +kernel
theorem dX5_likeness_104 : decode cX5_likeness 104 = .ok (.fload 9, 2) := by decide +kernel
theorem dX5_likeness_106 : decode cX5_likeness 106 = .ok (.fdiv, 1) := by decide +kernel
theorem dX5_likeness_107 : decode cX5_likeness 107 = .ok (.fstore 11, 2) := by decide +kernel
theorem dX5_likeness_109 : decode cX5_likeness 109 = .ok (.fload 10, 2) := by decide +kernel
theorem dX5_likeness_111 : decode cX5_likeness 111 = .ok (.iload_n 3, 1) := by decide +kernel
theorem dX5_likeness_112 : decode cX5_likeness 112 = .ok (.i2f, 1) := by decide +kernel
theorem dX5_likeness_113 : decode cX5_likeness 113 = .ok (.fmul, 1) := by decide +kernel
theorem dX5_likeness_114 : decode cX5_likeness 114 = .ok (.fload 11, 2) := by decide +kernel
theorem dX5_likeness_116 : decode cX5_likeness 116 = .ok (.fmul, 1) := by decide +kernel
theorem dX5_likeness_117 : decode cX5_likeness 117 = .ok (.freturn, 1) := by decide +kernel
theorem dX5_ahead_0 : decode cX5_ahead 0 = .ok (.iload_n 1, 1) := by decide +kernel
theorem dX5_ahead_1 : decode cX5_ahead 1 = .ok (.invokestatic 37, 3) := by decide +kernel
theorem dX5_ahead_4 : decode cX5_ahead 4 = .ok (.ifCond .eq 11, 3) := by decide +kernel
theorem dX5_ahead_7 : decode cX5_ahead 7 = .ok (.new 44, 3) := by decide +kernel
theorem dX5_ahead_10 : decode cX5_ahead 10 = .ok (.dup, 1) := by decide +kernel
theorem dX5_ahead_11 : decode cX5_ahead 11 = .ok (.invokespecial 46, 3) := by decide +kernel
theorem dX5_ahead_14 : decode cX5_ahead 14 = .ok (.athrow, 1) := by decide +kernel
theorem dX5_ahead_15 : decode cX5_ahead 15 = .ok (.iload_n 2, 1) := by decide +kernel
theorem dX5_ahead_16 : decode cX5_ahead 16 = .ok (.iconst 0, 1) := by decide +kernel
theorem dX5_ahead_17 : decode cX5_ahead 17 = .ok (.iconst 5, 1) := by decide +kernel
theorem dX5_ahead_18 : decode cX5_ahead 18 = .ok (.invokestatic 74, 3) := by decide +kernel
theorem dX5_ahead_21 : decode cX5_ahead 21 = .ok (.ifCond .eq 11, 3) := by decide +kernel
theorem dX5_ahead_24 : decode cX5_ahead 24 = .ok (.new 71, 3) := by decide +kernel
theorem dX5_ahead_27 : decode cX5_ahead 27 = .ok (.dup, 1) := by decide +kernel
theorem dX5_ahead_28 : decode cX5_ahead 28 = .ok (.invokespecial 73, 3) := by decide +kernel
theorem dX5_ahead_31 : decode cX5_ahead 31 = .ok (.athrow, 1) := by decide +kernel
theorem dX5_ahead_32 : decode cX5_ahead 32 = .ok (.aload_n 0, 1) := by decide +kernel
theorem dX5_ahead_33 : decode cX5_ahead 33 = .ok (.getfield 16, 3) := by decide +kernel
theorem dX5_ahead_36 : decode cX5_ahead 36 = .ok (.aload_n 0, 1) := by decide +kernel
theorem dX5_ahead_37 : decode cX5_ahead 37 = .ok (.getfield 10, 3) := by decide +kernel
theorem dX5_ahead_40 : decode cX5_ahead 40 = .ok (.invokevirtual 204, 3) := by decide +kernel
theorem dX5_ahead_43 : decode cX5_ahead 43 = .ok (.iconst 0, 1) := by decide +kernel
theorem dX5_ahead_44 : decode cX5_ahead 44 = .ok (.istore_n 3, 1) := by decide +kernel
theorem dX5_ahead_45 : decode cX5_ahead 45 = .ok (.iload_n 3, 1) := by decide +kernel
theorem dX5_ahead_46 : decode cX5_ahead 46 = .ok (.iload_n 2, 1) := by decide +kernel
theorem dX5_ahead_47 : decode cX5_ahead 47 = .ok (.if_icmp .ge 16, 3) := by decide +kernel
theorem dX5_ahead_50 : decode cX5_ahead 50 = .ok (.aload_n 0, 1) := by decide +kernel
theorem dX5_ahead_51 : decode cX5_ahead 51 = .ok (.getfield 16, 3) := by decide +kernel
theorem dX5_ahead_54 : decode cX5_ahead 54 = .ok (.invokevirtual 119, 3) := by decide +kernel
theorem dX5_ahead_57 : decode cX5_ahead 57 = .ok (.iinc 3 1, 3) := by decide +kernel
theorem dX5_ahead_60 : decode cX5_ahead 60 = .ok (.goto (-15), 3) := by decide +kernel
theorem dX5_ahead_63 : decode cX5_ahead 63 = .ok (.aload_n 0, 1) := by decide +kernel
theorem dX5_ahead_64 : decode cX5_ahead 64 = .ok (.getfield 16, 3) := by decide +kernel
theorem dX5_ahead_67 : decode cX5_ahead 67 = .ok (.getfield 78, 3) := by decide +kernel
theorem dX5_ahead_70 : decode cX5_ahead 70 = .ok (.iload_n 1, 1) := by decide +kernel
theorem dX5_ahead_71 : decode cX5_ahead 71 = .ok (.iaload, 1) := by decide +kernel
theorem dX5_ahead_72 : decode cX5_ahead 72 = .ok (.ireturn, 1) := by decide +kernel
theorem dX5_aheadAnew_0 : decode cX5_aheadAnew 0 = .ok (.iload_n 1, 1) := by decide +kernel
theorem dX5_aheadAnew_1 : decode cX5_aheadAnew 1 = .ok (.invokestatic 37, 3) := by decide +kernel
theorem dX5_aheadAnew_4 : decode cX5_aheadAnew 4 = .ok (.ifCond .eq 11, 3) := by decide +kernel
theorem dX5_aheadAnew_7 : decode cX5_aheadAnew 7 = .ok (.new 44, 3) := by decide +kernel
theorem dX5_aheadAnew_10 : decode cX5_aheadAnew 10 = .ok (.dup, 1) := by decide +kernel
theorem dX5_aheadAnew_11 : decode cX5_aheadAnew 11 = .ok (.invokespecial 46, 3) := by decide +kernel
theorem dX5_aheadAnew_14 : decode cX5_aheadAnew 14 = .ok (.athrow, 1) := by decide +kernel
theorem dX5_aheadAnew_15 : decode cX5_aheadAnew 15 = .ok (.iload_n 2, 1) := by decide +kernel
theorem dX5_aheadAnew_16 : decode cX5_aheadAnew 16 = .ok (.iconst 0, 1) := by decide +kernel
theorem dX5_aheadAnew_17 : decode cX5_aheadAnew 17 = .ok (.iconst 5, 1) := by decide +kernel
theorem dX5_aheadAnew_18 : decode cX5_aheadAnew 18 = .ok (.invokestatic 74, 3) := by decide +kernel
theorem dX5_aheadAnew_21 : decode cX5_aheadAnew 21 = .ok (.ifCond .eq 11, 3) := by decide +kernel
theorem dX5_aheadAnew_24 : decode cX5_aheadAnew 24 = .ok (.new 71, 3) := by decide +kernel
theorem dX5_aheadAnew_27 : decode cX5_aheadAnew 27 = .ok (.dup, 1) := by decide +kernel
theorem dX5_aheadAnew_28 : decode cX5_aheadAnew 28 = .ok (.invokespecial 73, 3) := by decide +kernel
theorem dX5_aheadAnew_31 : decode cX5_aheadAnew 31 = .ok (.athrow, 1) := by decide +kernel
theorem dX5_aheadAnew_32 : decode cX5_aheadAnew 32 = .ok (.aload_n 0, 1) := by decide +kernel
theorem dX5_aheadAnew_33 : decode cX5_aheadAnew 33 = .ok (.getfield 10, 3) := by decide +kernel
theorem dX5_aheadAnew_36 : decode cX5_aheadAnew 36 = .ok (.iload_n 1, 1) := by decide +kernel
theorem dX5_aheadAnew_37 : decode cX5_aheadAnew 37 = .ok (.iload_n 2, 1) := by decide +kernel
theorem dX5_aheadAnew_38 : decode cX5_aheadAnew 38 = .ok (.invokestatic 207, 3) := by decide +kernel
theorem dX5_aheadAnew_41 : decode cX5_aheadAnew 41 = .ok (.ireturn, 1) := by decide +kernel
theorem dX5_mixed_0 : decode cX5_mixed 0 = .ok (.iload_n 1, 1) := by decide +kernel
theorem dX5_mixed_1 : decode cX5_mixed 1 = .ok (.lookupswitch 38 #[(0, 27), (1, 33)], 27) := by decide +kernel
theorem dX5_mixed_28 : decode cX5_mixed 28 = .ok (.aload_n 0, 1) := by decide +kernel
theorem dX5_mixed_29 : decode cX5_mixed 29 = .ok (.invokevirtual 211, 3) := by decide +kernel
theorem dX5_mixed_32 : decode cX5_mixed 32 = .ok (.i2l, 1) := by decide +kernel
theorem dX5_mixed_33 : decode cX5_mixed 33 = .ok (.lreturn, 1) := by decide +kernel
theorem dX5_mixed_34 : decode cX5_mixed 34 = .ok (.aload_n 0, 1) := by decide +kernel
theorem dX5_mixed_35 : decode cX5_mixed 35 = .ok (.invokevirtual 215, 3) := by decide +kernel
theorem dX5_mixed_38 : decode cX5_mixed 38 = .ok (.lreturn, 1) := by decide +kernel
theorem dX5_mixed_39 : decode cX5_mixed 39 = .ok (.new 71, 3) := by decide +kernel
theorem dX5_mixed_42 : decode cX5_mixed 42 = .ok (.dup, 1) := by decide +kernel
theorem dX5_mixed_43 : decode cX5_mixed 43 = .ok (.invokespecial 73, 3) := by decide +kernel
theorem dX5_mixed_46 : decode cX5_mixed 46 = .ok (.athrow, 1) := by decide +kernel
theorem dX5_record_0 : decode cX5_record 0 = .ok (.iload_n 1, 1) := by decide +kernel
theorem dX5_record_1 : decode cX5_record 1 = .ok (.iconst 0, 1) := by decide +kernel
theorem dX5_record_2 : decode cX5_record 2 = .ok (.aload_n 0, 1) := by decide +kernel
theorem dX5_record_3 : decode cX5_record 3 = .ok (.getfield 29, 3) := by decide +kernel
theorem dX5_record_6 : decode cX5_record 6 = .ok (.getfield 97, 3) := by decide +kernel
theorem dX5_record_9 : decode cX5_record 9 = .ok (.iconst 1, 1) := by decide +kernel
theorem dX5_record_10 : decode cX5_record 10 = .ok (.isub, 1) := by decide +kernel
theorem dX5_record_11 : decode cX5_record 11 = .ok (.invokestatic 74, 3) := by decide +kernel
theorem dX5_record_14 : decode cX5_record 14 = .ok (.ifCond .ne 22, 3) := by decide +kernel
theorem dX5_record_17 : decode cX5_record 17 = .ok (.iload_n 2, 1) := by decide +kernel
theorem dX5_record_18 : decode cX5_record 18 = .ok (.iconst 0, 1) := by decide +kernel
theorem dX5_record_19 : decode cX5_record 19 = .ok (.aload_n 0, 1) := by decide +kernel
theorem dX5_record_20 : decode cX5_record 20 = .ok (.getfield 29, 3) := by decide +kernel
theorem dX5_record_23 : decode cX5_record 23 = .ok (.getfield 219, 3) := by decide +kernel
theorem dX5_record_26 : decode cX5_record 26 = .ok (.iload_n 1, 1) := by decide +kernel
theorem dX5_record_27 : decode cX5_record 27 = .ok (.iaload, 1) := by decide +kernel
theorem dX5_record_28 : decode cX5_record 28 = .ok (.iconst 1, 1) := by decide +kernel
theorem dX5_record_29 : decode cX5_record 29 = .ok (.isub, 1) := by decide +kernel
theorem dX5_record_30 : decode cX5_record 30 = .ok (.invokestatic 74, 3) := by decide +kernel
theorem dX5_record_33 : decode cX5_record 33 = .ok (.ifCond .eq 11, 3) := by decide +kernel
theorem dX5_record_36 : decode cX5_record 36 = .ok (.new 44, 3) := by decide +kernel
theorem dX5_record_39 : decode cX5_record 39 = .ok (.dup, 1) := by decide +kernel
theorem dX5_record_40 : decode cX5_record 40 = .ok (.invokespecial 46, 3) := by decide +kernel
theorem dX5_record_43 : decode cX5_record 43 = .ok (.athrow, 1) := by decide +kernel
theorem dX5_record_44 : decode cX5_record 44 = .ok (.aload_n 0, 1) := by decide +kernel
theorem dX5_record_45 : decode cX5_record 45 = .ok (.getfield 29, 3) := by decide +kernel
theorem dX5_record_48 : decode cX5_record 48 = .ok (.getfield 222, 3) := by decide +kernel
theorem dX5_record_51 : decode cX5_record 51 = .ok (.iload_n 1, 1) := by decide +kernel
theorem dX5_record_52 : decode cX5_record 52 = .ok (.aaload, 1) := by decide +kernel
theorem dX5_record_53 : decode cX5_record 53 = .ok (.aload_n 0, 1) := by decide +kernel
theorem dX5_record_54 : decode cX5_record 54 = .ok (.getfield 29, 3) := by decide +kernel
theorem dX5_record_57 : decode cX5_record 57 = .ok (.getfield 219, 3) := by decide +kernel
theorem dX5_record_60 : decode cX5_record 60 = .ok (.iload_n 1, 1) := by decide +kernel
theorem dX5_record_61 : decode cX5_record 61 = .ok (.iaload, 1) := by decide +kernel
theorem dX5_record_62 : decode cX5_record 62 = .ok (.iconst 1, 1) := by decide +kernel
theorem dX5_record_63 : decode cX5_record 63 = .ok (.isub, 1) := by decide +kernel
theorem dX5_record_64 : decode cX5_record 64 = .ok (.iload_n 2, 1) := by decide +kernel
theorem dX5_record_65 : decode cX5_record 65 = .ok (.isub, 1) := by decide +kernel
theorem dX5_record_66 : decode cX5_record 66 = .ok (.baload, 1) := by decide +kernel
theorem dX5_record_67 : decode cX5_record 67 = .ok (.ireturn, 1) := by decide +kernel
theorem dX5_beat_0 : decode cX5_beat 0 = .ok (.iload_n 1, 1) := by decide +kernel
theorem dX5_beat_1 : decode cX5_beat 1 = .ok (.iconst 0, 1) := by decide +kernel
theorem dX5_beat_2 : decode cX5_beat 2 = .ok (.aload_n 0, 1) := by decide +kernel
theorem dX5_beat_3 : decode cX5_beat 3 = .ok (.getfield 29, 3) := by decide +kernel
theorem dX5_beat_6 : decode cX5_beat 6 = .ok (.getfield 97, 3) := by decide +kernel
theorem dX5_beat_9 : decode cX5_beat 9 = .ok (.iconst 1, 1) := by decide +kernel
theorem dX5_beat_10 : decode cX5_beat 10 = .ok (.isub, 1) := by decide +kernel
theorem dX5_beat_11 : decode cX5_beat 11 = .ok (.invokestatic 74, 3) := by decide +kernel
theorem dX5_beat_14 : decode cX5_beat 14 = .ok (.ifCond .eq 11, 3) := by decide +kernel
theorem dX5_beat_17 : decode cX5_beat 17 = .ok (.new 44, 3) := by decide +kernel
theorem dX5_beat_20 : decode cX5_beat 20 = .ok (.dup, 1) := by decide +kernel
theorem dX5_beat_21 : decode cX5_beat 21 = .ok (.invokespecial 46, 3) := by decide +kernel
theorem dX5_beat_24 : decode cX5_beat 24 = .ok (.athrow, 1) := by decide +kernel
theorem dX5_beat_25 : decode cX5_beat 25 = .ok (.aload_n 0, 1) := by decide +kernel
theorem dX5_beat_26 : decode cX5_beat 26 = .ok (.getfield 29, 3) := by decide +kernel
theorem dX5_beat_29 : decode cX5_beat 29 = .ok (.iload_n 1, 1) := by decide +kernel
theorem dX5_beat_30 : decode cX5_beat 30 = .ok (.invokevirtual 225, 3) := by decide +kernel
theorem dX5_beat_33 : decode cX5_beat 33 = .ok (.ireturn, 1) := by decide +kernel
theorem dX5_better_0 : decode cX5_better 0 = .ok (.iload_n 1, 1) := by decide +kernel
theorem dX5_better_1 : decode cX5_better 1 = .ok (.invokestatic 41, 3) := by decide +kernel
theorem dX5_better_4 : decode cX5_better 4 = .ok (.ifCond .eq 11, 3) := by decide +kernel
theorem dX5_better_7 : decode cX5_better 7 = .ok (.new 44, 3) := by decide +kernel
theorem dX5_better_10 : decode cX5_better 10 = .ok (.dup, 1) := by decide +kernel
theorem dX5_better_11 : decode cX5_better 11 = .ok (.invokespecial 46, 3) := by decide +kernel
theorem dX5_better_14 : decode cX5_better 14 = .ok (.athrow, 1) := by decide +kernel
theorem dX5_better_15 : decode cX5_better 15 = .ok (.iload_n 2, 1) := by decide +kernel
theorem dX5_better_16 : decode cX5_better 16 = .ok (.iconst 1, 1) := by decide +kernel
theorem dX5_better_17 : decode cX5_better 17 = .ok (.bipush 10, 2) := by decide +kernel
theorem dX5_better_19 : decode cX5_better 19 = .ok (.invokestatic 74, 3) := by decide +kernel
theorem dX5_better_22 : decode cX5_better 22 = .ok (.ifCond .eq 11, 3) := by decide +kernel
theorem dX5_better_25 : decode cX5_better 25 = .ok (.new 71, 3) := by decide +kernel
theorem dX5_better_28 : decode cX5_better 28 = .ok (.dup, 1) := by decide +kernel
theorem dX5_better_29 : decode cX5_better 29 = .ok (.invokespecial 73, 3) := by decide +kernel
theorem dX5_better_32 : decode cX5_better 32 = .ok (.athrow, 1) := by decide +kernel
theorem dX5_better_33 : decode cX5_better 33 = .ok (.iconst (-1), 1) := by decide +kernel
theorem dX5_better_34 : decode cX5_better 34 = .ok (.istore_n 3, 1) := by decide +kernel
theorem dX5_better_35 : decode cX5_better 35 = .ok (.aload_n 0, 1) := by decide +kernel
theorem dX5_better_36 : decode cX5_better 36 = .ok (.iconst (-1), 1) := by decide +kernel
theorem dX5_better_37 : decode cX5_better 37 = .ok (.iload_n 1, 1) := by decide +kernel
theorem dX5_better_38 : decode cX5_better 38 = .ok (.iload_n 2, 1) := by decide +kernel
theorem dX5_better_39 : decode cX5_better 39 = .ok (.invokevirtual 228, 3) := by decide +kernel
theorem dX5_better_42 : decode cX5_better 42 = .ok (.istore 4, 2) := by decide +kernel
theorem dX5_better_44 : decode cX5_better 44 = .ok (.iconst 0, 1) := by decide +kernel
theorem dX5_better_45 : decode cX5_better 45 = .ok (.istore 5, 2) := by decide +kernel
theorem dX5_better_47 : decode cX5_better 47 = .ok (.iload 5, 2) := by decide +kernel
theorem dX5_better_49 : decode cX5_better 49 = .ok (.bipush 96, 2) := by decide +kernel
theorem dX5_better_51 : decode cX5_better 51 = .ok (.if_icmp .ge 47, 3) := by decide +kernel
theorem dX5_better_54 : decode cX5_better 54 = .ok (.aload_n 0, 1) := by decide +kernel
theorem dX5_better_55 : decode cX5_better 55 = .ok (.getfield 10, 3) := by decide +kernel
theorem dX5_better_58 : decode cX5_better 58 = .ok (.getfield 60, 3) := by decide +kernel
theorem dX5_better_61 : decode cX5_better 61 = .ok (.iload 5, 2) := by decide +kernel
theorem dX5_better_63 : decode cX5_better 63 = .ok (.iaload, 1) := by decide +kernel
theorem dX5_better_64 : decode cX5_better 64 = .ok (.iload_n 1, 1) := by decide +kernel
theorem dX5_better_65 : decode cX5_better 65 = .ok (.if_icmp .ne 27, 3) := by decide +kernel
theorem dX5_better_68 : decode cX5_better 68 = .ok (.aload_n 0, 1) := by decide +kernel
theorem dX5_better_69 : decode cX5_better 69 = .ok (.iload 5, 2) := by decide +kernel
theorem dX5_better_71 : decode cX5_better 71 = .ok (.iload_n 1, 1) := by decide +kernel
theorem dX5_better_72 : decode cX5_better 72 = .ok (.iload_n 2, 1) := by decide +kernel
theorem dX5_better_73 : decode cX5_better 73 = .ok (.invokevirtual 228, 3) := by decide +kernel
theorem dX5_better_76 : decode cX5_better 76 = .ok (.istore 6, 2) := by decide +kernel
theorem dX5_better_78 : decode cX5_better 78 = .ok (.iload 6, 2) := by decide +kernel
theorem dX5_better_80 : decode cX5_better 80 = .ok (.iload 4, 2) := by decide +kernel
theorem dX5_better_82 : decode cX5_better 82 = .ok (.if_icmp .ge 10, 3) := by decide +kernel
theorem dX5_better_85 : decode cX5_better 85 = .ok (.iload 6, 2) := by decide +kernel
theorem dX5_better_87 : decode cX5_better 87 = .ok (.istore 4, 2) := by decide +kernel
theorem dX5_better_89 : decode cX5_better 89 = .ok (.iload 5, 2) := by decide +kernel
theorem dX5_better_91 : decode cX5_better 91 = .ok (.istore_n 3, 1) := by decide +kernel
theorem dX5_better_92 : decode cX5_better 92 = .ok (.iinc 5 1, 3) := by decide +kernel
theorem dX5_better_95 : decode cX5_better 95 = .ok (.goto (-48), 3) := by decide +kernel
theorem dX5_better_98 : decode cX5_better 98 = .ok (.iload_n 3, 1) := by decide +kernel
theorem dX5_better_99 : decode cX5_better 99 = .ok (.ireturn, 1) := by decide +kernel
theorem dX5_isOutside_0 : decode cX5_isOutside 0 = .ok (.iload_n 0, 1) := by decide +kernel
theorem dX5_isOutside_1 : decode cX5_isOutside 1 = .ok (.iload_n 1, 1) := by decide +kernel
theorem dX5_isOutside_2 : decode cX5_isOutside 2 = .ok (.if_icmp .lt 8, 3) := by decide +kernel
theorem dX5_isOutside_5 : decode cX5_isOutside 5 = .ok (.iload_n 0, 1) := by decide +kernel
theorem dX5_isOutside_6 : decode cX5_isOutside 6 = .ok (.iload_n 2, 1) := by decide +kernel
theorem dX5_isOutside_7 : decode cX5_isOutside 7 = .ok (.if_icmp .le 7, 3) := by decide +kernel
theorem dX5_isOutside_10 : decode cX5_isOutside 10 = .ok (.iconst 1, 1) := by decide +kernel
theorem dX5_isOutside_11 : decode cX5_isOutside 11 = .ok (.goto 4, 3) := by decide +kernel
theorem dX5_isOutside_14 : decode cX5_isOutside 14 = .ok (.iconst 0, 1) := by decide +kernel
theorem dX5_isOutside_15 : decode cX5_isOutside 15 = .ok (.ireturn, 1) := by decide +kernel
theorem dX5_isNoCell_0 : decode cX5_isNoCell 0 = .ok (.iload_n 0, 1) := by decide +kernel
theorem dX5_isNoCell_1 : decode cX5_isNoCell 1 = .ok (.ifCond .lt 9, 3) := by decide +kernel
theorem dX5_isNoCell_4 : decode cX5_isNoCell 4 = .ok (.iload_n 0, 1) := by decide +kernel
theorem dX5_isNoCell_5 : decode cX5_isNoCell 5 = .ok (.bipush 96, 2) := by decide +kernel
theorem dX5_isNoCell_7 : decode cX5_isNoCell 7 = .ok (.if_icmp .lt 7, 3) := by decide +kernel
theorem dX5_isNoCell_10 : decode cX5_isNoCell 10 = .ok (.iconst 1, 1) := by decide +kernel
theorem dX5_isNoCell_11 : decode cX5_isNoCell 11 = .ok (.goto 4, 3) := by decide +kernel
theorem dX5_isNoCell_14 : decode cX5_isNoCell 14 = .ok (.iconst 0, 1) := by decide +kernel
theorem dX5_isNoCell_15 : decode cX5_isNoCell 15 = .ok (.ireturn, 1) := by decide +kernel
theorem dX5_isNoBody_0 : decode cX5_isNoBody 0 = .ok (.iload_n 0, 1) := by decide +kernel
theorem dX5_isNoBody_1 : decode cX5_isNoBody 1 = .ok (.ifCond .lt 8, 3) := by decide +kernel
theorem dX5_isNoBody_4 : decode cX5_isNoBody 4 = .ok (.iload_n 0, 1) := by decide +kernel
theorem dX5_isNoBody_5 : decode cX5_isNoBody 5 = .ok (.iconst 4, 1) := by decide +kernel
theorem dX5_isNoBody_6 : decode cX5_isNoBody 6 = .ok (.if_icmp .lt 7, 3) := by decide +kernel
theorem dX5_isNoBody_9 : decode cX5_isNoBody 9 = .ok (.iconst 1, 1) := by decide +kernel
theorem dX5_isNoBody_10 : decode cX5_isNoBody 10 = .ok (.goto 4, 3) := by decide +kernel
theorem dX5_isNoBody_13 : decode cX5_isNoBody 13 = .ok (.iconst 0, 1) := by decide +kernel
theorem dX5_isNoBody_14 : decode cX5_isNoBody 14 = .ok (.ireturn, 1) := by decide +kernel
theorem dX5_isNoWindow_0 : decode cX5_isNoWindow 0 = .ok (.iload_n 0, 1) := by decide +kernel
theorem dX5_isNoWindow_1 : decode cX5_isNoWindow 1 = .ok (.iconst 0, 1) := by decide +kernel
theorem dX5_isNoWindow_2 : decode cX5_isNoWindow 2 = .ok (.bipush 7, 2) := by decide +kernel
theorem dX5_isNoWindow_4 : decode cX5_isNoWindow 4 = .ok (.invokestatic 74, 3) := by decide +kernel
theorem dX5_isNoWindow_7 : decode cX5_isNoWindow 7 = .ok (.ifCond .ne 35, 3) := by decide +kernel
theorem dX5_isNoWindow_10 : decode cX5_isNoWindow 10 = .ok (.iload_n 1, 1) := by decide +kernel
theorem dX5_isNoWindow_11 : decode cX5_isNoWindow 11 = .ok (.iconst 0, 1) := by decide +kernel
theorem dX5_isNoWindow_12 : decode cX5_isNoWindow 12 = .ok (.bipush 11, 2) := by decide +kernel
theorem dX5_isNoWindow_14 : decode cX5_isNoWindow 14 = .ok (.invokestatic 74, 3) := by decide +kernel
theorem dX5_isNoWindow_17 : decode cX5_isNoWindow 17 = .ok (.ifCond .ne 25, 3) := by decide +kernel
theorem dX5_isNoWindow_20 : decode cX5_isNoWindow 20 = .ok (.iload_n 2, 1) := by decide +kernel
theorem dX5_isNoWindow_21 : decode cX5_isNoWindow 21 = .ok (.iconst 1, 1) := by decide +kernel
theorem dX5_isNoWindow_22 : decode cX5_isNoWindow 22 = .ok (.bipush 8, 2) := by decide +kernel
theorem dX5_isNoWindow_24 : decode cX5_isNoWindow 24 = .ok (.iload_n 0, 1) := by decide +kernel
theorem dX5_isNoWindow_25 : decode cX5_isNoWindow 25 = .ok (.isub, 1) := by decide +kernel
theorem dX5_isNoWindow_26 : decode cX5_isNoWindow 26 = .ok (.invokestatic 74, 3) := by decide +kernel
theorem dX5_isNoWindow_29 : decode cX5_isNoWindow 29 = .ok (.ifCond .ne 13, 3) := by decide +kernel
theorem dX5_isNoWindow_32 : decode cX5_isNoWindow 32 = .ok (.iload_n 3, 1) := by decide +kernel
theorem dX5_isNoWindow_33 : decode cX5_isNoWindow 33 = .ok (.iconst 1, 1) := by decide +kernel
theorem dX5_isNoWindow_34 : decode cX5_isNoWindow 34 = .ok (.bipush 12, 2) := by decide +kernel
theorem dX5_isNoWindow_36 : decode cX5_isNoWindow 36 = .ok (.invokestatic 74, 3) := by decide +kernel
theorem dX5_isNoWindow_39 : decode cX5_isNoWindow 39 = .ok (.ifCond .eq 7, 3) := by decide +kernel
theorem dX5_isNoWindow_42 : decode cX5_isNoWindow 42 = .ok (.iconst 1, 1) := by decide +kernel
theorem dX5_isNoWindow_43 : decode cX5_isNoWindow 43 = .ok (.goto 4, 3) := by decide +kernel
theorem dX5_isNoWindow_46 : decode cX5_isNoWindow 46 = .ok (.iconst 0, 1) := by decide +kernel
theorem dX5_isNoWindow_47 : decode cX5_isNoWindow 47 = .ok (.ireturn, 1) := by decide +kernel
theorem dX5_opposite_0 : decode cX5_opposite 0 = .ok (.iload_n 0, 1) := by decide +kernel
theorem dX5_opposite_1 : decode cX5_opposite 1 = .ok (.iconst 2, 1) := by decide +kernel
theorem dX5_opposite_2 : decode cX5_opposite 2 = .ok (.ixor, 1) := by decide +kernel
theorem dX5_opposite_3 : decode cX5_opposite 3 = .ok (.ireturn, 1) := by decide +kernel
theorem dX5_has_0 : decode cX5_has 0 = .ok (.iload_n 0, 1) := by decide +kernel
theorem dX5_has_1 : decode cX5_has 1 = .ok (.iload_n 1, 1) := by decide +kernel
theorem dX5_has_2 : decode cX5_has 2 = .ok (.ishr, 1) := by decide +kernel
theorem dX5_has_3 : decode cX5_has 3 = .ok (.iconst 1, 1) := by decide +kernel
theorem dX5_has_4 : decode cX5_has 4 = .ok (.iand, 1) := by decide +kernel
theorem dX5_has_5 : decode cX5_has 5 = .ok (.ifCond .eq 7, 3) := by decide +kernel
theorem dX5_has_8 : decode cX5_has 8 = .ok (.iconst 1, 1) := by decide +kernel
theorem dX5_has_9 : decode cX5_has 9 = .ok (.goto 4, 3) := by decide +kernel
theorem dX5_has_12 : decode cX5_has 12 = .ok (.iconst 0, 1) := by decide +kernel
theorem dX5_has_13 : decode cX5_has 13 = .ok (.ireturn, 1) := by decide +kernel
theorem dX5_turned_0 : decode cX5_turned 0 = .ok (.iload_n 0, 1) := by decide +kernel
theorem dX5_turned_1 : decode cX5_turned 1 = .ok (.iload_n 1, 1) := by decide +kernel
theorem dX5_turned_2 : decode cX5_turned 2 = .ok (.ishl, 1) := by decide +kernel
theorem dX5_turned_3 : decode cX5_turned 3 = .ok (.iload_n 0, 1) := by decide +kernel
theorem dX5_turned_4 : decode cX5_turned 4 = .ok (.iconst 4, 1) := by decide +kernel
theorem dX5_turned_5 : decode cX5_turned 5 = .ok (.iload_n 1, 1) := by decide +kernel
theorem dX5_turned_6 : decode cX5_turned 6 = .ok (.isub, 1) := by decide +kernel
theorem dX5_turned_7 : decode cX5_turned 7 = .ok (.ishr, 1) := by decide +kernel
theorem dX5_turned_8 : decode cX5_turned 8 = .ok (.ior, 1) := by decide +kernel
theorem dX5_turned_9 : decode cX5_turned 9 = .ok (.bipush 15, 2) := by decide +kernel
theorem dX5_turned_11 : decode cX5_turned 11 = .ok (.iand, 1) := by decide +kernel
theorem dX5_turned_12 : decode cX5_turned 12 = .ok (.ireturn, 1) := by decide +kernel
theorem dX5_isMeeting_0 : decode cX5_isMeeting 0 = .ok (.iload_n 0, 1) := by decide +kernel
theorem dX5_isMeeting_1 : decode cX5_isMeeting 1 = .ok (.iconst 5, 1) := by decide +kernel
theorem dX5_isMeeting_2 : decode cX5_isMeeting 2 = .ok (.if_icmp .eq 9, 3) := by decide +kernel
theorem dX5_isMeeting_5 : decode cX5_isMeeting 5 = .ok (.iload_n 0, 1) := by decide +kernel
theorem dX5_isMeeting_6 : decode cX5_isMeeting 6 = .ok (.bipush 10, 2) := by decide +kernel
theorem dX5_isMeeting_8 : decode cX5_isMeeting 8 = .ok (.if_icmp .ne 7, 3) := by decide +kernel
theorem dX5_isMeeting_11 : decode cX5_isMeeting 11 = .ok (.iconst 1, 1) := by decide +kernel
theorem dX5_isMeeting_12 : decode cX5_isMeeting 12 = .ok (.goto 4, 3) := by decide +kernel
theorem dX5_isMeeting_15 : decode cX5_isMeeting 15 = .ok (.iconst 0, 1) := by decide +kernel
theorem dX5_isMeeting_16 : decode cX5_isMeeting 16 = .ok (.ireturn, 1) := by decide +kernel
theorem dX5_beside_0 : decode cX5_beside 0 = .ok (.iload_n 1, 1) := by decide +kernel
theorem dX5_beside_1 : decode cX5_beside 1 = .ok (.tableswitch 80 0 2 #[27, 47, 62], 27) := by decide +kernel
theorem dX5_beside_28 : decode cX5_beside 28 = .ok (.iload_n 0, 1) := by decide +kernel
theorem dX5_beside_29 : decode cX5_beside 29 = .ok (.bipush 12, 2) := by decide +kernel
theorem dX5_beside_31 : decode cX5_beside 31 = .ok (.irem, 1) := by decide +kernel
theorem dX5_beside_32 : decode cX5_beside 32 = .ok (.bipush 11, 2) := by decide +kernel
theorem dX5_beside_34 : decode cX5_beside 34 = .ok (.if_icmp .ne 10, 3) := by decide +kernel
theorem dX5_beside_37 : decode cX5_beside 37 = .ok (.iload_n 0, 1) := by decide +kernel
theorem dX5_beside_38 : decode cX5_beside 38 = .ok (.bipush 11, 2) := by decide +kernel
theorem dX5_beside_40 : decode cX5_beside 40 = .ok (.isub, 1) := by decide +kernel
theorem dX5_beside_41 : decode cX5_beside 41 = .ok (.goto 6, 3) := by decide +kernel
theorem dX5_beside_44 : decode cX5_beside 44 = .ok (.iload_n 0, 1) := by decide +kernel
theorem dX5_beside_45 : decode cX5_beside 45 = .ok (.iconst 1, 1) := by decide +kernel
theorem dX5_beside_46 : decode cX5_beside 46 = .ok (.iadd, 1) := by decide +kernel
theorem dX5_beside_47 : decode cX5_beside 47 = .ok (.ireturn, 1) := by decide +kernel
theorem dX5_beside_48 : decode cX5_beside 48 = .ok (.iload_n 0, 1) := by decide +kernel
theorem dX5_beside_49 : decode cX5_beside 49 = .ok (.bipush 12, 2) := by decide +kernel
theorem dX5_beside_51 : decode cX5_beside 51 = .ok (.if_icmp .ge 7, 3) := by decide +kernel
theorem dX5_beside_54 : decode cX5_beside 54 = .ok (.iconst (-1), 1) := by decide +kernel
theorem dX5_beside_55 : decode cX5_beside 55 = .ok (.goto 7, 3) := by decide +kernel
theorem dX5_beside_58 : decode cX5_beside 58 = .ok (.iload_n 0, 1) := by decide +kernel
theorem dX5_beside_59 : decode cX5_beside 59 = .ok (.bipush 12, 2) := by decide +kernel
theorem dX5_beside_61 : decode cX5_beside 61 = .ok (.isub, 1) := by decide +kernel
theorem dX5_beside_62 : decode cX5_beside 62 = .ok (.ireturn, 1) := by decide +kernel
theorem dX5_beside_63 : decode cX5_beside 63 = .ok (.iload_n 0, 1) := by decide +kernel
theorem dX5_beside_64 : decode cX5_beside 64 = .ok (.bipush 12, 2) := by decide +kernel
theorem dX5_beside_66 : decode cX5_beside 66 = .ok (.irem, 1) := by decide +kernel
theorem dX5_beside_67 : decode cX5_beside 67 = .ok (.ifCond .ne 10, 3) := by decide +kernel
theorem dX5_beside_70 : decode cX5_beside 70 = .ok (.iload_n 0, 1) := by decide +kernel
theorem dX5_beside_71 : decode cX5_beside 71 = .ok (.bipush 11, 2) := by decide +kernel
theorem dX5_beside_73 : decode cX5_beside 73 = .ok (.iadd, 1) := by decide +kernel
theorem dX5_beside_74 : decode cX5_beside 74 = .ok (.goto 6, 3) := by decide +kernel
theorem dX5_beside_77 : decode cX5_beside 77 = .ok (.iload_n 0, 1) := by decide +kernel
theorem dX5_beside_78 : decode cX5_beside 78 = .ok (.iconst 1, 1) := by decide +kernel
theorem dX5_beside_79 : decode cX5_beside 79 = .ok (.isub, 1) := by decide +kernel
theorem dX5_beside_80 : decode cX5_beside 80 = .ok (.ireturn, 1) := by decide +kernel
theorem dX5_beside_81 : decode cX5_beside 81 = .ok (.iload_n 0, 1) := by decide +kernel
theorem dX5_beside_82 : decode cX5_beside 82 = .ok (.bipush 84, 2) := by decide +kernel
theorem dX5_beside_84 : decode cX5_beside 84 = .ok (.if_icmp .lt 7, 3) := by decide +kernel
theorem dX5_beside_87 : decode cX5_beside 87 = .ok (.iconst (-1), 1) := by decide +kernel
theorem dX5_beside_88 : decode cX5_beside 88 = .ok (.goto 7, 3) := by decide +kernel
theorem dX5_beside_91 : decode cX5_beside 91 = .ok (.iload_n 0, 1) := by decide +kernel
theorem dX5_beside_92 : decode cX5_beside 92 = .ok (.bipush 12, 2) := by decide +kernel
theorem dX5_beside_94 : decode cX5_beside 94 = .ok (.iadd, 1) := by decide +kernel
theorem dX5_beside_95 : decode cX5_beside 95 = .ok (.ireturn, 1) := by decide +kernel
theorem dX5_bitsOf_0 : decode cX5_bitsOf 0 = .ok (.iconst 0, 1) := by decide +kernel
theorem dX5_bitsOf_1 : decode cX5_bitsOf 1 = .ok (.istore_n 1, 1) := by decide +kernel
theorem dX5_bitsOf_2 : decode cX5_bitsOf 2 = .ok (.aload_n 0, 1) := by decide +kernel
theorem dX5_bitsOf_3 : decode cX5_bitsOf 3 = .ok (.astore_n 2, 1) := by decide +kernel
theorem dX5_bitsOf_4 : decode cX5_bitsOf 4 = .ok (.aload_n 2, 1) := by decide +kernel
theorem dX5_bitsOf_5 : decode cX5_bitsOf 5 = .ok (.arraylength, 1) := by decide +kernel
theorem dX5_bitsOf_6 : decode cX5_bitsOf 6 = .ok (.istore_n 3, 1) := by decide +kernel
theorem dX5_bitsOf_7 : decode cX5_bitsOf 7 = .ok (.iconst 0, 1) := by decide +kernel
theorem dX5_bitsOf_8 : decode cX5_bitsOf 8 = .ok (.istore 4, 2) := by decide +kernel
theorem dX5_bitsOf_10 : decode cX5_bitsOf 10 = .ok (.iload 4, 2) := by decide +kernel
theorem dX5_bitsOf_12 : decode cX5_bitsOf 12 = .ok (.iload_n 3, 1) := by decide +kernel
theorem dX5_bitsOf_13 : decode cX5_bitsOf 13 = .ok (.if_icmp .ge 23, 3) := by decide +kernel
theorem dX5_bitsOf_16 : decode cX5_bitsOf 16 = .ok (.aload_n 2, 1) := by decide +kernel
theorem dX5_bitsOf_17 : decode cX5_bitsOf 17 = .ok (.iload 4, 2) := by decide +kernel
theorem dX5_bitsOf_19 : decode cX5_bitsOf 19 = .ok (.iaload, 1) := by decide +kernel
theorem dX5_bitsOf_20 : decode cX5_bitsOf 20 = .ok (.istore 5, 2) := by decide +kernel
theorem dX5_bitsOf_22 : decode cX5_bitsOf 22 = .ok (.iload_n 1, 1) := by decide +kernel
theorem dX5_bitsOf_23 : decode cX5_bitsOf 23 = .ok (.iload 5, 2) := by decide +kernel
theorem dX5_bitsOf_25 : decode cX5_bitsOf 25 = .ok (.invokestatic 92, 3) := by decide +kernel
theorem dX5_bitsOf_28 : decode cX5_bitsOf 28 = .ok (.iadd, 1) := by decide +kernel
theorem dX5_bitsOf_29 : decode cX5_bitsOf 29 = .ok (.istore_n 1, 1) := by decide +kernel
theorem dX5_bitsOf_30 : decode cX5_bitsOf 30 = .ok (.iinc 4 1, 3) := by decide +kernel
theorem dX5_bitsOf_33 : decode cX5_bitsOf 33 = .ok (.goto (-23), 3) := by decide +kernel
theorem dX5_bitsOf_36 : decode cX5_bitsOf 36 = .ok (.iload_n 1, 1) := by decide +kernel
theorem dX5_bitsOf_37 : decode cX5_bitsOf 37 = .ok (.ireturn, 1) := by decide +kernel
theorem dX5_mayBeWall_0 : decode cX5_mayBeWall 0 = .ok (.aload_n 0, 1) := by decide +kernel
theorem dX5_mayBeWall_1 : decode cX5_mayBeWall 1 = .ok (.getfield 10, 3) := by decide +kernel
theorem dX5_mayBeWall_4 : decode cX5_mayBeWall 4 = .ok (.getfield 57, 3) := by decide +kernel
theorem dX5_mayBeWall_7 : decode cX5_mayBeWall 7 = .ok (.iload_n 1, 1) := by decide +kernel
theorem dX5_mayBeWall_8 : decode cX5_mayBeWall 8 = .ok (.iaload, 1) := by decide +kernel
theorem dX5_mayBeWall_9 : decode cX5_mayBeWall 9 = .ok (.ifCond .ne 41, 3) := by decide +kernel
theorem dX5_mayBeWall_12 : decode cX5_mayBeWall 12 = .ok (.aload_n 0, 1) := by decide +kernel
theorem dX5_mayBeWall_13 : decode cX5_mayBeWall 13 = .ok (.getfield 10, 3) := by decide +kernel
theorem dX5_mayBeWall_16 : decode cX5_mayBeWall 16 = .ok (.getfield 78, 3) := by decide +kernel
theorem dX5_mayBeWall_19 : decode cX5_mayBeWall 19 = .ok (.iload_n 1, 1) := by decide +kernel
theorem dX5_mayBeWall_20 : decode cX5_mayBeWall 20 = .ok (.iaload, 1) := by decide +kernel
theorem dX5_mayBeWall_21 : decode cX5_mayBeWall 21 = .ok (.ifCond .ne 29, 3) := by decide +kernel
theorem dX5_mayBeWall_24 : decode cX5_mayBeWall 24 = .ok (.aload_n 0, 1) := by decide +kernel
theorem dX5_mayBeWall_25 : decode cX5_mayBeWall 25 = .ok (.getfield 22, 3) := by decide +kernel
theorem dX5_mayBeWall_28 : decode cX5_mayBeWall 28 = .ok (.iload_n 1, 1) := by decide +kernel
theorem dX5_mayBeWall_29 : decode cX5_mayBeWall 29 = .ok (.invokevirtual 232, 3) := by decide +kernel
theorem dX5_mayBeWall_32 : decode cX5_mayBeWall 32 = .ok (.ifCond .ne 18, 3) := by decide +kernel
theorem dX5_mayBeWall_35 : decode cX5_mayBeWall 35 = .ok (.aload_n 0, 1) := by decide +kernel
theorem dX5_mayBeWall_36 : decode cX5_mayBeWall 36 = .ok (.getfield 29, 3) := by decide +kernel
theorem dX5_mayBeWall_39 : decode cX5_mayBeWall 39 = .ok (.iload_n 1, 1) := by decide +kernel
theorem dX5_mayBeWall_40 : decode cX5_mayBeWall 40 = .ok (.invokevirtual 235, 3) := by decide +kernel
theorem dX5_mayBeWall_43 : decode cX5_mayBeWall 43 = .ok (.ifCond .ne 7, 3) := by decide +kernel
theorem dX5_mayBeWall_46 : decode cX5_mayBeWall 46 = .ok (.iconst 1, 1) := by decide +kernel
theorem dX5_mayBeWall_47 : decode cX5_mayBeWall 47 = .ok (.goto 4, 3) := by decide +kernel
theorem dX5_mayBeWall_50 : decode cX5_mayBeWall 50 = .ok (.iconst 0, 1) := by decide +kernel
theorem dX5_mayBeWall_51 : decode cX5_mayBeWall 51 = .ok (.ireturn, 1) := by decide +kernel
theorem dX5_tallyOf_0 : decode cX5_tallyOf 0 = .ok (.new 186, 3) := by decide +kernel
theorem dX5_tallyOf_3 : decode cX5_tallyOf 3 = .ok (.dup, 1) := by decide +kernel
theorem dX5_tallyOf_4 : decode cX5_tallyOf 4 = .ok (.invokespecial 236, 3) := by decide +kernel
theorem dX5_tallyOf_7 : decode cX5_tallyOf 7 = .ok (.astore 4, 2) := by decide +kernel
theorem dX5_tallyOf_9 : decode cX5_tallyOf 9 = .ok (.iconst 0, 1) := by decide +kernel
theorem dX5_tallyOf_10 : decode cX5_tallyOf 10 = .ok (.istore 5, 2) := by decide +kernel
theorem dX5_tallyOf_12 : decode cX5_tallyOf 12 = .ok (.iload 5, 2) := by decide +kernel
theorem dX5_tallyOf_14 : decode cX5_tallyOf 14 = .ok (.bipush 96, 2) := by decide +kernel
theorem dX5_tallyOf_16 : decode cX5_tallyOf 16 = .ok (.if_icmp .ge 66, 3) := by decide +kernel
theorem dX5_tallyOf_19 : decode cX5_tallyOf 19 = .ok (.aload_n 0, 1) := by decide +kernel
theorem dX5_tallyOf_20 : decode cX5_tallyOf 20 = .ok (.getfield 10, 3) := by decide +kernel
theorem dX5_tallyOf_23 : decode cX5_tallyOf 23 = .ok (.getfield 57, 3) := by decide +kernel
theorem dX5_tallyOf_26 : decode cX5_tallyOf 26 = .ok (.iload 5, 2) := by decide +kernel
theorem dX5_tallyOf_28 : decode cX5_tallyOf 28 = .ok (.iaload, 1) := by decide +kernel
theorem dX5_tallyOf_29 : decode cX5_tallyOf 29 = .ok (.iconst 1, 1) := by decide +kernel
theorem dX5_tallyOf_30 : decode cX5_tallyOf 30 = .ok (.if_icmp .eq 46, 3) := by decide +kernel
theorem dX5_tallyOf_33 : decode cX5_tallyOf 33 = .ok (.aload_n 3, 1) := by decide +kernel
theorem dX5_tallyOf_34 : decode cX5_tallyOf 34 = .ok (.iload 5, 2) := by decide +kernel
theorem dX5_tallyOf_36 : decode cX5_tallyOf 36 = .ok (.invokevirtual 237, 3) := by decide +kernel
theorem dX5_tallyOf_39 : decode cX5_tallyOf 39 = .ok (.ifCond .eq 37, 3) := by decide +kernel
theorem dX5_tallyOf_42 : decode cX5_tallyOf 42 = .ok (.aload 4, 2) := by decide +kernel
theorem dX5_tallyOf_44 : decode cX5_tallyOf 44 = .ok (.iload_n 1, 1) := by decide +kernel
theorem dX5_tallyOf_45 : decode cX5_tallyOf 45 = .ok (.ifCond .eq 17, 3) := by decide +kernel
theorem dX5_tallyOf_48 : decode cX5_tallyOf 48 = .ok (.aload_n 0, 1) := by decide +kernel
theorem dX5_tallyOf_49 : decode cX5_tallyOf 49 = .ok (.getfield 22, 3) := by decide +kernel
theorem dX5_tallyOf_52 : decode cX5_tallyOf 52 = .ok (.iload 5, 2) := by decide +kernel
theorem dX5_tallyOf_54 : decode cX5_tallyOf 54 = .ok (.iload_n 2, 1) := by decide +kernel
theorem dX5_tallyOf_55 : decode cX5_tallyOf 55 = .ok (.invokevirtual 240, 3) := by decide +kernel
theorem dX5_tallyOf_58 : decode cX5_tallyOf 58 = .ok (.i2l, 1) := by decide +kernel
theorem dX5_tallyOf_59 : decode cX5_tallyOf 59 = .ok (.goto 14, 3) := by decide +kernel
theorem dX5_tallyOf_62 : decode cX5_tallyOf 62 = .ok (.aload_n 0, 1) := by decide +kernel
theorem dX5_tallyOf_63 : decode cX5_tallyOf 63 = .ok (.getfield 10, 3) := by decide +kernel
theorem dX5_tallyOf_66 : decode cX5_tallyOf 66 = .ok (.iload 5, 2) := by decide +kernel
theorem dX5_tallyOf_68 : decode cX5_tallyOf 68 = .ok (.iload_n 2, 1) := by decide +kernel
theorem dX5_tallyOf_69 : decode cX5_tallyOf 69 = .ok (.invokevirtual 244, 3) := by decide +kernel
theorem dX5_tallyOf_72 : decode cX5_tallyOf 72 = .ok (.i2l, 1) := by decide +kernel
theorem dX5_tallyOf_73 : decode cX5_tallyOf 73 = .ok (.invokevirtual 245, 3) := by decide +kernel
theorem dX5_tallyOf_76 : decode cX5_tallyOf 76 = .ok (.iinc 5 1, 3) := by decide +kernel
theorem dX5_tallyOf_79 : decode cX5_tallyOf 79 = .ok (.goto (-67), 3) := by decide +kernel
theorem dX5_tallyOf_82 : decode cX5_tallyOf 82 = .ok (.aload 4, 2) := by decide +kernel
theorem dX5_tallyOf_84 : decode cX5_tallyOf 84 = .ok (.areturn, 1) := by decide +kernel
theorem dX5_arrived_0 : decode cX5_arrived 0 = .ok (.aload_n 0, 1) := by decide +kernel
theorem dX5_arrived_1 : decode cX5_arrived 1 = .ok (.iload_n 1, 1) := by decide +kernel
theorem dX5_arrived_2 : decode cX5_arrived 2 = .ok (.invokevirtual 249, 3) := by decide +kernel
theorem dX5_arrived_5 : decode cX5_arrived 5 = .ok (.ifCond .ne 8, 3) := by decide +kernel
theorem dX5_arrived_8 : decode cX5_arrived 8 = .ok (.iload_n 2, 1) := by decide +kernel
theorem dX5_arrived_9 : decode cX5_arrived 9 = .ok (.iconst 5, 1) := by decide +kernel
theorem dX5_arrived_10 : decode cX5_arrived 10 = .ok (.if_icmp .le 5, 3) := by decide +kernel
theorem dX5_arrived_13 : decode cX5_arrived 13 = .ok (.iconst 0, 1) := by decide +kernel
theorem dX5_arrived_14 : decode cX5_arrived 14 = .ok (.ireturn, 1) := by decide +kernel
theorem dX5_arrived_15 : decode cX5_arrived 15 = .ok (.iload_n 2, 1) := by decide +kernel
theorem dX5_arrived_16 : decode cX5_arrived 16 = .ok (.ifCond .gt 10, 3) := by decide +kernel
theorem dX5_arrived_19 : decode cX5_arrived 19 = .ok (.aload_n 0, 1) := by decide +kernel
theorem dX5_arrived_20 : decode cX5_arrived 20 = .ok (.getfield 78, 3) := by decide +kernel
theorem dX5_arrived_23 : decode cX5_arrived 23 = .ok (.iload_n 1, 1) := by decide +kernel
theorem dX5_arrived_24 : decode cX5_arrived 24 = .ok (.iaload, 1) := by decide +kernel
theorem dX5_arrived_25 : decode cX5_arrived 25 = .ok (.ireturn, 1) := by decide +kernel
theorem dX5_arrived_26 : decode cX5_arrived 26 = .ok (.aload_n 0, 1) := by decide +kernel
theorem dX5_arrived_27 : decode cX5_arrived 27 = .ok (.getfield 57, 3) := by decide +kernel
theorem dX5_arrived_30 : decode cX5_arrived 30 = .ok (.iload_n 1, 1) := by decide +kernel
theorem dX5_arrived_31 : decode cX5_arrived 31 = .ok (.iaload, 1) := by decide +kernel
theorem dX5_arrived_32 : decode cX5_arrived 32 = .ok (.iconst 3, 1) := by decide +kernel
theorem dX5_arrived_33 : decode cX5_arrived 33 = .ok (.if_icmp .ne 5, 3) := by decide +kernel
theorem dX5_arrived_36 : decode cX5_arrived 36 = .ok (.iconst 0, 1) := by decide +kernel
theorem dX5_arrived_37 : decode cX5_arrived 37 = .ok (.ireturn, 1) := by decide +kernel
theorem dX5_arrived_38 : decode cX5_arrived 38 = .ok (.aload_n 0, 1) := by decide +kernel
theorem dX5_arrived_39 : decode cX5_arrived 39 = .ok (.getfield 57, 3) := by decide +kernel
theorem dX5_arrived_42 : decode cX5_arrived 42 = .ok (.iload_n 1, 1) := by decide +kernel
theorem dX5_arrived_43 : decode cX5_arrived 43 = .ok (.iaload, 1) := by decide +kernel
theorem dX5_arrived_44 : decode cX5_arrived 44 = .ok (.iconst 2, 1) := by decide +kernel
theorem dX5_arrived_45 : decode cX5_arrived 45 = .ok (.if_icmp .ne 7, 3) := by decide +kernel
theorem dX5_arrived_48 : decode cX5_arrived 48 = .ok (.iconst 1, 1) := by decide +kernel
theorem dX5_arrived_49 : decode cX5_arrived 49 = .ok (.goto 4, 3) := by decide +kernel
theorem dX5_arrived_52 : decode cX5_arrived 52 = .ok (.iconst 0, 1) := by decide +kernel
theorem dX5_arrived_53 : decode cX5_arrived 53 = .ok (.istore_n 3, 1) := by decide +kernel
theorem dX5_arrived_54 : decode cX5_arrived 54 = .ok (.iconst 0, 1) := by decide +kernel
theorem dX5_arrived_55 : decode cX5_arrived 55 = .ok (.istore 4, 2) := by decide +kernel
theorem dX5_arrived_57 : decode cX5_arrived 57 = .ok (.iload 4, 2) := by decide +kernel
theorem dX5_arrived_59 : decode cX5_arrived 59 = .ok (.iconst 4, 1) := by decide +kernel
theorem dX5_arrived_60 : decode cX5_arrived 60 = .ok (.if_icmp .ge 99, 3) := by decide +kernel
theorem dX5_arrived_63 : decode cX5_arrived 63 = .ok (.iload_n 1, 1) := by decide +kernel
theorem dX5_arrived_64 : decode cX5_arrived 64 = .ok (.iload 4, 2) := by decide +kernel
theorem dX5_arrived_66 : decode cX5_arrived 66 = .ok (.invokestatic 158, 3) := by decide +kernel
theorem dX5_arrived_69 : decode cX5_arrived 69 = .ok (.invokestatic 252, 3) := by decide +kernel
theorem dX5_arrived_72 : decode cX5_arrived 72 = .ok (.istore 5, 2) := by decide +kernel
theorem dX5_arrived_74 : decode cX5_arrived 74 = .ok (.aload_n 0, 1) := by decide +kernel
theorem dX5_arrived_75 : decode cX5_arrived 75 = .ok (.iload 5, 2) := by decide +kernel
theorem dX5_arrived_77 : decode cX5_arrived 77 = .ok (.invokevirtual 249, 3) := by decide +kernel
theorem dX5_arrived_80 : decode cX5_arrived 80 = .ok (.istore 6, 2) := by decide +kernel
theorem dX5_arrived_82 : decode cX5_arrived 82 = .ok (.aload_n 0, 1) := by decide +kernel
theorem dX5_arrived_83 : decode cX5_arrived 83 = .ok (.iload 6, 2) := by decide +kernel
theorem dX5_arrived_85 : decode cX5_arrived 85 = .ok (.ifCond .eq 7, 3) := by decide +kernel
theorem dX5_arrived_88 : decode cX5_arrived 88 = .ok (.iload_n 1, 1) := by decide +kernel
theorem dX5_arrived_89 : decode cX5_arrived 89 = .ok (.goto 5, 3) := by decide +kernel
theorem dX5_arrived_92 : decode cX5_arrived 92 = .ok (.iload 5, 2) := by decide +kernel
theorem dX5_arrived_94 : decode cX5_arrived 94 = .ok (.iload_n 2, 1) := by decide +kernel
theorem dX5_arrived_95 : decode cX5_arrived 95 = .ok (.iconst 1, 1) := by decide +kernel
theorem dX5_arrived_96 : decode cX5_arrived 96 = .ok (.isub, 1) := by decide +kernel
theorem dX5_arrived_97 : decode cX5_arrived 97 = .ok (.invokestatic 207, 3) := by decide +kernel
theorem dX5_arrived_100 : decode cX5_arrived 100 = .ok (.istore 7, 2) := by decide +kernel
theorem dX5_arrived_102 : decode cX5_arrived 102 = .ok (.iload 7, 2) := by decide +kernel
theorem dX5_arrived_104 : decode cX5_arrived 104 = .ok (.invokestatic 255, 3) := by decide +kernel
theorem dX5_arrived_107 : decode cX5_arrived 107 = .ok (.ifCond .eq 12, 3) := by decide +kernel
theorem dX5_arrived_110 : decode cX5_arrived 110 = .ok (.iload 7, 2) := by decide +kernel
theorem dX5_arrived_112 : decode cX5_arrived 112 = .ok (.iconst 1, 1) := by decide +kernel
theorem dX5_arrived_113 : decode cX5_arrived 113 = .ok (.invokestatic 258, 3) := by decide +kernel
theorem dX5_arrived_116 : decode cX5_arrived 116 = .ok (.goto 5, 3) := by decide +kernel
theorem dX5_arrived_119 : decode cX5_arrived 119 = .ok (.iload 7, 2) := by decide +kernel
theorem dX5_arrived_121 : decode cX5_arrived 121 = .ok (.istore 8, 2) := by decide +kernel
theorem dX5_arrived_123 : decode cX5_arrived 123 = .ok (.iload 8, 2) := by decide +kernel
theorem dX5_arrived_125 : decode cX5_arrived 125 = .ok (.iload 6, 2) := by decide +kernel
theorem dX5_arrived_127 : decode cX5_arrived 127 = .ok (.ifCond .eq 11, 3) := by decide +kernel
theorem dX5_arrived_130 : decode cX5_arrived 130 = .ok (.iload 4, 2) := by decide +kernel
theorem dX5_arrived_132 : decode cX5_arrived 132 = .ok (.invokestatic 158, 3) := by decide +kernel
theorem dX5_arrived_135 : decode cX5_arrived 135 = .ok (.goto 5, 3) := by decide +kernel
theorem dX5_arrived_138 : decode cX5_arrived 138 = .ok (.iload 4, 2) := by decide +kernel
theorem dX5_arrived_140 : decode cX5_arrived 140 = .ok (.invokestatic 81, 3) := by decide +kernel
theorem dX5_arrived_143 : decode cX5_arrived 143 = .ok (.ifCond .eq 10, 3) := by decide +kernel
theorem dX5_arrived_146 : decode cX5_arrived 146 = .ok (.iload_n 3, 1) := by decide +kernel
theorem dX5_arrived_147 : decode cX5_arrived 147 = .ok (.iconst 1, 1) := by decide +kernel
theorem dX5_arrived_148 : decode cX5_arrived 148 = .ok (.iload 4, 2) := by decide +kernel
theorem dX5_arrived_150 : decode cX5_arrived 150 = .ok (.ishl, 1) := by decide +kernel
theorem dX5_arrived_151 : decode cX5_arrived 151 = .ok (.ior, 1) := by decide +kernel
theorem dX5_arrived_152 : decode cX5_arrived 152 = .ok (.istore_n 3, 1) := by decide +kernel
theorem dX5_arrived_153 : decode cX5_arrived 153 = .ok (.iinc 4 1, 3) := by decide +kernel
theorem dX5_arrived_156 : decode cX5_arrived 156 = .ok (.goto (-99), 3) := by decide +kernel
theorem dX5_arrived_159 : decode cX5_arrived 159 = .ok (.iload_n 3, 1) := by decide +kernel
theorem dX5_arrived_160 : decode cX5_arrived 160 = .ok (.ireturn, 1) := by decide +kernel
theorem dX5_edgesOfInk_0 : decode cX5_edgesOfInk 0 = .ok (.iconst 0, 1) := by decide +kernel
theorem dX5_edgesOfInk_1 : decode cX5_edgesOfInk 1 = .ok (.istore_n 1, 1) := by decide +kernel
theorem dX5_edgesOfInk_2 : decode cX5_edgesOfInk 2 = .ok (.iconst 0, 1) := by decide +kernel
theorem dX5_edgesOfInk_3 : decode cX5_edgesOfInk 3 = .ok (.istore_n 2, 1) := by decide +kernel
theorem dX5_edgesOfInk_4 : decode cX5_edgesOfInk 4 = .ok (.iload_n 2, 1) := by decide +kernel
theorem dX5_edgesOfInk_5 : decode cX5_edgesOfInk 5 = .ok (.bipush 96, 2) := by decide +kernel
theorem dX5_edgesOfInk_7 : decode cX5_edgesOfInk 7 = .ok (.if_icmp .ge 51, 3) := by decide +kernel
theorem dX5_edgesOfInk_10 : decode cX5_edgesOfInk 10 = .ok (.iload_n 1, 1) := by decide +kernel
theorem dX5_edgesOfInk_11 : decode cX5_edgesOfInk 11 = .ok (.aload_n 0, 1) := by decide +kernel
theorem dX5_edgesOfInk_12 : decode cX5_edgesOfInk 12 = .ok (.iload_n 2, 1) := by decide +kernel
theorem dX5_edgesOfInk_13 : decode cX5_edgesOfInk 13 = .ok (.iload_n 2, 1) := by decide +kernel
theorem dX5_edgesOfInk_14 : decode cX5_edgesOfInk 14 = .ok (.iconst 0, 1) := by decide +kernel
theorem dX5_edgesOfInk_15 : decode cX5_edgesOfInk 15 = .ok (.invokestatic 252, 3) := by decide +kernel
theorem dX5_edgesOfInk_18 : decode cX5_edgesOfInk 18 = .ok (.invokevirtual 261, 3) := by decide +kernel
theorem dX5_edgesOfInk_21 : decode cX5_edgesOfInk 21 = .ok (.ifCond .eq 7, 3) := by decide +kernel
theorem dX5_edgesOfInk_24 : decode cX5_edgesOfInk 24 = .ok (.iconst 1, 1) := by decide +kernel
theorem dX5_edgesOfInk_25 : decode cX5_edgesOfInk 25 = .ok (.goto 4, 3) := by decide +kernel
theorem dX5_edgesOfInk_28 : decode cX5_edgesOfInk 28 = .ok (.iconst 0, 1) := by decide +kernel
theorem dX5_edgesOfInk_29 : decode cX5_edgesOfInk 29 = .ok (.iadd, 1) := by decide +kernel
theorem dX5_edgesOfInk_30 : decode cX5_edgesOfInk 30 = .ok (.istore_n 1, 1) := by decide +kernel
theorem dX5_edgesOfInk_31 : decode cX5_edgesOfInk 31 = .ok (.iload_n 1, 1) := by decide +kernel
theorem dX5_edgesOfInk_32 : decode cX5_edgesOfInk 32 = .ok (.aload_n 0, 1) := by decide +kernel
theorem dX5_edgesOfInk_33 : decode cX5_edgesOfInk 33 = .ok (.iload_n 2, 1) := by decide +kernel
theorem dX5_edgesOfInk_34 : decode cX5_edgesOfInk 34 = .ok (.iload_n 2, 1) := by decide +kernel
theorem dX5_edgesOfInk_35 : decode cX5_edgesOfInk 35 = .ok (.iconst 3, 1) := by decide +kernel
theorem dX5_edgesOfInk_36 : decode cX5_edgesOfInk 36 = .ok (.invokestatic 252, 3) := by decide +kernel
theorem dX5_edgesOfInk_39 : decode cX5_edgesOfInk 39 = .ok (.invokevirtual 261, 3) := by decide +kernel
theorem dX5_edgesOfInk_42 : decode cX5_edgesOfInk 42 = .ok (.ifCond .eq 7, 3) := by decide +kernel
theorem dX5_edgesOfInk_45 : decode cX5_edgesOfInk 45 = .ok (.iconst 1, 1) := by decide +kernel
theorem dX5_edgesOfInk_46 : decode cX5_edgesOfInk 46 = .ok (.goto 4, 3) := by decide +kernel
theorem dX5_edgesOfInk_49 : decode cX5_edgesOfInk 49 = .ok (.iconst 0, 1) := by decide +kernel
theorem dX5_edgesOfInk_50 : decode cX5_edgesOfInk 50 = .ok (.iadd, 1) := by decide +kernel
theorem dX5_edgesOfInk_51 : decode cX5_edgesOfInk 51 = .ok (.istore_n 1, 1) := by decide +kernel
theorem dX5_edgesOfInk_52 : decode cX5_edgesOfInk 52 = .ok (.iinc 2 1, 3) := by decide +kernel
theorem dX5_edgesOfInk_55 : decode cX5_edgesOfInk 55 = .ok (.goto (-51), 3) := by decide +kernel
theorem dX5_edgesOfInk_58 : decode cX5_edgesOfInk 58 = .ok (.iload_n 1, 1) := by decide +kernel
theorem dX5_edgesOfInk_59 : decode cX5_edgesOfInk 59 = .ok (.ireturn, 1) := by decide +kernel
theorem dX5_isEdgeOfInk_0 : decode cX5_isEdgeOfInk 0 = .ok (.iload_n 1, 1) := by decide +kernel
theorem dX5_isEdgeOfInk_1 : decode cX5_isEdgeOfInk 1 = .ok (.invokestatic 37, 3) := by decide +kernel
theorem dX5_isEdgeOfInk_4 : decode cX5_isEdgeOfInk 4 = .ok (.ifCond .ne 10, 3) := by decide +kernel
theorem dX5_isEdgeOfInk_7 : decode cX5_isEdgeOfInk 7 = .ok (.iload_n 2, 1) := by decide +kernel
theorem dX5_isEdgeOfInk_8 : decode cX5_isEdgeOfInk 8 = .ok (.invokestatic 37, 3) := by decide +kernel
theorem dX5_isEdgeOfInk_11 : decode cX5_isEdgeOfInk 11 = .ok (.ifCond .eq 5, 3) := by decide +kernel
theorem dX5_isEdgeOfInk_14 : decode cX5_isEdgeOfInk 14 = .ok (.iconst 0, 1) := by decide +kernel
theorem dX5_isEdgeOfInk_15 : decode cX5_isEdgeOfInk 15 = .ok (.ireturn, 1) := by decide +kernel
theorem dX5_isEdgeOfInk_16 : decode cX5_isEdgeOfInk 16 = .ok (.aload_n 0, 1) := by decide +kernel
theorem dX5_isEdgeOfInk_17 : decode cX5_isEdgeOfInk 17 = .ok (.getfield 10, 3) := by decide +kernel
theorem dX5_isEdgeOfInk_20 : decode cX5_isEdgeOfInk 20 = .ok (.iload_n 1, 1) := by decide +kernel
theorem dX5_isEdgeOfInk_21 : decode cX5_isEdgeOfInk 21 = .ok (.invokevirtual 264, 3) := by decide +kernel
theorem dX5_isEdgeOfInk_24 : decode cX5_isEdgeOfInk 24 = .ok (.ifCond .eq 14, 3) := by decide +kernel
theorem dX5_isEdgeOfInk_27 : decode cX5_isEdgeOfInk 27 = .ok (.aload_n 0, 1) := by decide +kernel
theorem dX5_isEdgeOfInk_28 : decode cX5_isEdgeOfInk 28 = .ok (.getfield 10, 3) := by decide +kernel
theorem dX5_isEdgeOfInk_31 : decode cX5_isEdgeOfInk 31 = .ok (.iload_n 2, 1) := by decide +kernel
theorem dX5_isEdgeOfInk_32 : decode cX5_isEdgeOfInk 32 = .ok (.invokevirtual 267, 3) := by decide +kernel
theorem dX5_isEdgeOfInk_35 : decode cX5_isEdgeOfInk 35 = .ok (.ifCond .ne 25, 3) := by decide +kernel
theorem dX5_isEdgeOfInk_38 : decode cX5_isEdgeOfInk 38 = .ok (.aload_n 0, 1) := by decide +kernel
theorem dX5_isEdgeOfInk_39 : decode cX5_isEdgeOfInk 39 = .ok (.getfield 10, 3) := by decide +kernel
theorem dX5_isEdgeOfInk_42 : decode cX5_isEdgeOfInk 42 = .ok (.iload_n 1, 1) := by decide +kernel
theorem dX5_isEdgeOfInk_43 : decode cX5_isEdgeOfInk 43 = .ok (.invokevirtual 267, 3) := by decide +kernel
theorem dX5_isEdgeOfInk_46 : decode cX5_isEdgeOfInk 46 = .ok (.ifCond .eq 18, 3) := by decide +kernel
theorem dX5_isEdgeOfInk_49 : decode cX5_isEdgeOfInk 49 = .ok (.aload_n 0, 1) := by decide +kernel
theorem dX5_isEdgeOfInk_50 : decode cX5_isEdgeOfInk 50 = .ok (.getfield 10, 3) := by decide +kernel
theorem dX5_isEdgeOfInk_53 : decode cX5_isEdgeOfInk 53 = .ok (.iload_n 2, 1) := by decide +kernel
theorem dX5_isEdgeOfInk_54 : decode cX5_isEdgeOfInk 54 = .ok (.invokevirtual 264, 3) := by decide +kernel
theorem dX5_isEdgeOfInk_57 : decode cX5_isEdgeOfInk 57 = .ok (.ifCond .eq 7, 3) := by decide +kernel
theorem dX5_isEdgeOfInk_60 : decode cX5_isEdgeOfInk 60 = .ok (.iconst 1, 1) := by decide +kernel
theorem dX5_isEdgeOfInk_61 : decode cX5_isEdgeOfInk 61 = .ok (.goto 4, 3) := by decide +kernel
theorem dX5_isEdgeOfInk_64 : decode cX5_isEdgeOfInk 64 = .ok (.iconst 0, 1) := by decide +kernel
theorem dX5_isEdgeOfInk_65 : decode cX5_isEdgeOfInk 65 = .ok (.ireturn, 1) := by decide +kernel
theorem dX5_unevenInk_0 : decode cX5_unevenInk 0 = .ok (.aload_n 0, 1) := by decide +kernel
theorem dX5_unevenInk_1 : decode cX5_unevenInk 1 = .ok (.getfield 10, 3) := by decide +kernel
theorem dX5_unevenInk_4 : decode cX5_unevenInk 4 = .ok (.getfield 78, 3) := by decide +kernel
theorem dX5_unevenInk_7 : decode cX5_unevenInk 7 = .ok (.invokestatic 148, 3) := by decide +kernel
theorem dX5_unevenInk_10 : decode cX5_unevenInk 10 = .ok (.i2l, 1) := by decide +kernel
theorem dX5_unevenInk_11 : decode cX5_unevenInk 11 = .ok (.lstore_n 1, 1) := by decide +kernel
theorem dX5_unevenInk_12 : decode cX5_unevenInk 12 = .ok (.aload_n 0, 1) := by decide +kernel
theorem dX5_unevenInk_13 : decode cX5_unevenInk 13 = .ok (.getfield 10, 3) := by decide +kernel
theorem dX5_unevenInk_16 : decode cX5_unevenInk 16 = .ok (.getfield 89, 3) := by decide +kernel
theorem dX5_unevenInk_19 : decode cX5_unevenInk 19 = .ok (.invokestatic 148, 3) := by decide +kernel
theorem dX5_unevenInk_22 : decode cX5_unevenInk 22 = .ok (.i2l, 1) := by decide +kernel
theorem dX5_unevenInk_23 : decode cX5_unevenInk 23 = .ok (.lstore_n 3, 1) := by decide +kernel
theorem dX5_unevenInk_24 : decode cX5_unevenInk 24 = .ok (.lconst 0, 1) := by decide +kernel
theorem dX5_unevenInk_25 : decode cX5_unevenInk 25 = .ok (.lstore 5, 2) := by decide +kernel
theorem dX5_unevenInk_27 : decode cX5_unevenInk 27 = .ok (.iconst 0, 1) := by decide +kernel
theorem dX5_unevenInk_28 : decode cX5_unevenInk 28 = .ok (.istore 7, 2) := by decide +kernel
theorem dX5_unevenInk_30 : decode cX5_unevenInk 30 = .ok (.iload 7, 2) := by decide +kernel
theorem dX5_unevenInk_32 : decode cX5_unevenInk 32 = .ok (.bipush 8, 2) := by decide +kernel
theorem dX5_unevenInk_34 : decode cX5_unevenInk 34 = .ok (.if_icmp .ge 87, 3) := by decide +kernel
theorem dX5_unevenInk_37 : decode cX5_unevenInk 37 = .ok (.iconst 0, 1) := by decide +kernel
theorem dX5_unevenInk_38 : decode cX5_unevenInk 38 = .ok (.istore 8, 2) := by decide +kernel
theorem dX5_unevenInk_40 : decode cX5_unevenInk 40 = .ok (.iload 8, 2) := by decide +kernel
theorem dX5_unevenInk_42 : decode cX5_unevenInk 42 = .ok (.bipush 12, 2) := by decide +kernel
theorem dX5_unevenInk_44 : decode cX5_unevenInk 44 = .ok (.if_icmp .ge 71, 3) := by decide +kernel
theorem dX5_unevenInk_47 : decode cX5_unevenInk 47 = .ok (.new 176, 3) := by decide +kernel
theorem dX5_unevenInk_50 : decode cX5_unevenInk 50 = .ok (.dup, 1) := by decide +kernel
theorem dX5_unevenInk_51 : decode cX5_unevenInk 51 = .ok (.iload 7, 2) := by decide +kernel
theorem dX5_unevenInk_53 : decode cX5_unevenInk 53 = .ok (.iload 8, 2) := by decide +kernel
theorem dX5_unevenInk_55 : decode cX5_unevenInk 55 = .ok (.iconst 2, 1) := by decide +kernel
theorem dX5_unevenInk_56 : decode cX5_unevenInk 56 = .ok (.iconst 2, 1) := by decide +kernel
theorem dX5_unevenInk_57 : decode cX5_unevenInk 57 = .ok (.invokespecial 178, 3) := by decide +kernel
theorem dX5_unevenInk_60 : decode cX5_unevenInk 60 = .ok (.astore 9, 2) := by decide +kernel
theorem dX5_unevenInk_62 : decode cX5_unevenInk 62 = .ok (.aload 9, 2) := by decide +kernel
theorem dX5_unevenInk_64 : decode cX5_unevenInk 64 = .ok (.aload_n 0, 1) := by decide +kernel
theorem dX5_unevenInk_65 : decode cX5_unevenInk 65 = .ok (.getfield 10, 3) := by decide +kernel
theorem dX5_unevenInk_68 : decode cX5_unevenInk 68 = .ok (.getfield 89, 3) := by decide +kernel
theorem dX5_unevenInk_71 : decode cX5_unevenInk 71 = .ok (.invokestatic 270, 3) := by decide +kernel
theorem dX5_unevenInk_74 : decode cX5_unevenInk 74 = .ok (.i2l, 1) := by decide +kernel
theorem dX5_unevenInk_75 : decode cX5_unevenInk 75 = .ok (.lstore 10, 2) := by decide +kernel
theorem dX5_unevenInk_77 : decode cX5_unevenInk 77 = .ok (.aload 9, 2) := by decide +kernel
theorem dX5_unevenInk_79 : decode cX5_unevenInk 79 = .ok (.aload_n 0, 1) := by decide +kernel
theorem dX5_unevenInk_80 : decode cX5_unevenInk 80 = .ok (.getfield 10, 3) := by decide +kernel
theorem dX5_unevenInk_83 : decode cX5_unevenInk 83 = .ok (.getfield 78, 3) := by decide +kernel
theorem dX5_unevenInk_86 : decode cX5_unevenInk 86 = .ok (.invokestatic 270, 3) := by decide +kernel
theorem dX5_unevenInk_89 : decode cX5_unevenInk 89 = .ok (.i2l, 1) := by decide +kernel
theorem dX5_unevenInk_90 : decode cX5_unevenInk 90 = .ok (.lstore 12, 2) := by decide +kernel
theorem dX5_unevenInk_92 : decode cX5_unevenInk 92 = .ok (.lload 5, 2) := by decide +kernel
theorem dX5_unevenInk_94 : decode cX5_unevenInk 94 = .ok (.lload 10, 2) := by decide +kernel
theorem dX5_unevenInk_96 : decode cX5_unevenInk 96 = .ok (.lload_n 1, 1) := by decide +kernel
theorem dX5_unevenInk_97 : decode cX5_unevenInk 97 = .ok (.lmul, 1) := by decide +kernel
theorem dX5_unevenInk_98 : decode cX5_unevenInk 98 = .ok (.lload_n 3, 1) := by decide +kernel
theorem dX5_unevenInk_99 : decode cX5_unevenInk 99 = .ok (.lload 12, 2) := by decide +kernel
theorem dX5_unevenInk_101 : decode cX5_unevenInk 101 = .ok (.lmul, 1) := by decide +kernel
theorem dX5_unevenInk_102 : decode cX5_unevenInk 102 = .ok (.lsub, 1) := by decide +kernel
theorem dX5_unevenInk_103 : decode cX5_unevenInk 103 = .ok (.invokestatic 274, 3) := by decide +kernel
theorem dX5_unevenInk_106 : decode cX5_unevenInk 106 = .ok (.ladd, 1) := by decide +kernel
theorem dX5_unevenInk_107 : decode cX5_unevenInk 107 = .ok (.lstore 5, 2) := by decide +kernel
theorem dX5_unevenInk_109 : decode cX5_unevenInk 109 = .ok (.iinc 8 2, 3) := by decide +kernel
theorem dX5_unevenInk_112 : decode cX5_unevenInk 112 = .ok (.goto (-72), 3) := by decide +kernel
theorem dX5_unevenInk_115 : decode cX5_unevenInk 115 = .ok (.iinc 7 2, 3) := by decide +kernel
theorem dX5_unevenInk_118 : decode cX5_unevenInk 118 = .ok (.goto (-88), 3) := by decide +kernel
theorem dX5_unevenInk_121 : decode cX5_unevenInk 121 = .ok (.lload 5, 2) := by decide +kernel
theorem dX5_unevenInk_123 : decode cX5_unevenInk 123 = .ok (.lreturn, 1) := by decide +kernel
theorem dX5_bitsWithin_0 : decode cX5_bitsWithin 0 = .ok (.iconst 0, 1) := by decide +kernel
theorem dX5_bitsWithin_1 : decode cX5_bitsWithin 1 = .ok (.istore_n 2, 1) := by decide +kernel
theorem dX5_bitsWithin_2 : decode cX5_bitsWithin 2 = .ok (.iconst 0, 1) := by decide +kernel
theorem dX5_bitsWithin_3 : decode cX5_bitsWithin 3 = .ok (.istore_n 3, 1) := by decide +kernel
theorem dX5_bitsWithin_4 : decode cX5_bitsWithin 4 = .ok (.iload_n 3, 1) := by decide +kernel
theorem dX5_bitsWithin_5 : decode cX5_bitsWithin 5 = .ok (.bipush 96, 2) := by decide +kernel
theorem dX5_bitsWithin_7 : decode cX5_bitsWithin 7 = .ok (.if_icmp .ge 32, 3) := by decide +kernel
theorem dX5_bitsWithin_10 : decode cX5_bitsWithin 10 = .ok (.iload_n 3, 1) := by decide +kernel
theorem dX5_bitsWithin_11 : decode cX5_bitsWithin 11 = .ok (.aload_n 1, 1) := by decide +kernel
theorem dX5_bitsWithin_12 : decode cX5_bitsWithin 12 = .ok (.arraylength, 1) := by decide +kernel
theorem dX5_bitsWithin_13 : decode cX5_bitsWithin 13 = .ok (.if_icmp .ge 26, 3) := by decide +kernel
theorem dX5_bitsWithin_16 : decode cX5_bitsWithin 16 = .ok (.aload_n 0, 1) := by decide +kernel
theorem dX5_bitsWithin_17 : decode cX5_bitsWithin 17 = .ok (.iload_n 3, 1) := by decide +kernel
theorem dX5_bitsWithin_18 : decode cX5_bitsWithin 18 = .ok (.invokevirtual 237, 3) := by decide +kernel
theorem dX5_bitsWithin_21 : decode cX5_bitsWithin 21 = .ok (.ifCond .eq 12, 3) := by decide +kernel
theorem dX5_bitsWithin_24 : decode cX5_bitsWithin 24 = .ok (.iload_n 2, 1) := by decide +kernel
theorem dX5_bitsWithin_25 : decode cX5_bitsWithin 25 = .ok (.aload_n 1, 1) := by decide +kernel
theorem dX5_bitsWithin_26 : decode cX5_bitsWithin 26 = .ok (.iload_n 3, 1) := by decide +kernel
theorem dX5_bitsWithin_27 : decode cX5_bitsWithin 27 = .ok (.iaload, 1) := by decide +kernel
theorem dX5_bitsWithin_28 : decode cX5_bitsWithin 28 = .ok (.invokestatic 92, 3) := by decide +kernel
theorem dX5_bitsWithin_31 : decode cX5_bitsWithin 31 = .ok (.iadd, 1) := by decide +kernel
theorem dX5_bitsWithin_32 : decode cX5_bitsWithin 32 = .ok (.istore_n 2, 1) := by decide +kernel
theorem dX5_bitsWithin_33 : decode cX5_bitsWithin 33 = .ok (.iinc 3 1, 3) := by decide +kernel
theorem dX5_bitsWithin_36 : decode cX5_bitsWithin 36 = .ok (.goto (-32), 3) := by decide +kernel
theorem dX5_bitsWithin_39 : decode cX5_bitsWithin 39 = .ok (.iload_n 2, 1) := by decide +kernel
theorem dX5_bitsWithin_40 : decode cX5_bitsWithin 40 = .ok (.ireturn, 1) := by decide +kernel
theorem dX5_pushWithout_0 : decode cX5_pushWithout 0 = .ok (.aload_n 0, 1) := by decide +kernel
theorem dX5_pushWithout_1 : decode cX5_pushWithout 1 = .ok (.getfield 16, 3) := by decide +kernel
theorem dX5_pushWithout_4 : decode cX5_pushWithout 4 = .ok (.aload_n 0, 1) := by decide +kernel
theorem dX5_pushWithout_5 : decode cX5_pushWithout 5 = .ok (.getfield 10, 3) := by decide +kernel
theorem dX5_pushWithout_8 : decode cX5_pushWithout 8 = .ok (.invokevirtual 204, 3) := by decide +kernel
theorem dX5_pushWithout_11 : decode cX5_pushWithout 11 = .ok (.iload_n 1, 1) := by decide +kernel
theorem dX5_pushWithout_12 : decode cX5_pushWithout 12 = .ok (.invokestatic 37, 3) := by decide +kernel
theorem dX5_pushWithout_15 : decode cX5_pushWithout 15 = .ok (.ifCond .ne 11, 3) := by decide +kernel
theorem dX5_pushWithout_18 : decode cX5_pushWithout 18 = .ok (.aload_n 0, 1) := by decide +kernel
theorem dX5_pushWithout_19 : decode cX5_pushWithout 19 = .ok (.getfield 16, 3) := by decide +kernel
theorem dX5_pushWithout_22 : decode cX5_pushWithout 22 = .ok (.iload_n 1, 1) := by decide +kernel
theorem dX5_pushWithout_23 : decode cX5_pushWithout 23 = .ok (.invokevirtual 67, 3) := by decide +kernel
theorem dX5_pushWithout_26 : decode cX5_pushWithout 26 = .ok (.iconst 0, 1) := by decide +kernel
theorem dX5_pushWithout_27 : decode cX5_pushWithout 27 = .ok (.istore 4, 2) := by decide +kernel
theorem dX5_pushWithout_29 : decode cX5_pushWithout 29 = .ok (.iload 4, 2) := by decide +kernel
theorem dX5_pushWithout_31 : decode cX5_pushWithout 31 = .ok (.iload_n 3, 1) := by decide +kernel
theorem dX5_pushWithout_32 : decode cX5_pushWithout 32 = .ok (.if_icmp .ge 16, 3) := by decide +kernel
theorem dX5_pushWithout_35 : decode cX5_pushWithout 35 = .ok (.aload_n 0, 1) := by decide +kernel
theorem dX5_pushWithout_36 : decode cX5_pushWithout 36 = .ok (.getfield 16, 3) := by decide +kernel
theorem dX5_pushWithout_39 : decode cX5_pushWithout 39 = .ok (.invokevirtual 119, 3) := by decide +kernel
theorem dX5_pushWithout_42 : decode cX5_pushWithout 42 = .ok (.iinc 4 1, 3) := by decide +kernel
theorem dX5_pushWithout_45 : decode cX5_pushWithout 45 = .ok (.goto (-16), 3) := by decide +kernel
theorem dX5_pushWithout_48 : decode cX5_pushWithout 48 = .ok (.iload_n 2, 1) := by decide +kernel
theorem dX5_pushWithout_49 : decode cX5_pushWithout 49 = .ok (.invokestatic 41, 3) := by decide +kernel
theorem dX5_pushWithout_52 : decode cX5_pushWithout 52 = .ok (.ifCond .eq 7, 3) := by decide +kernel
theorem dX5_pushWithout_55 : decode cX5_pushWithout 55 = .ok (.iconst 0, 1) := by decide +kernel
theorem dX5_pushWithout_56 : decode cX5_pushWithout 56 = .ok (.goto 22, 3) := by decide +kernel
theorem dX5_pushWithout_59 : decode cX5_pushWithout 59 = .ok (.aload_n 0, 1) := by decide +kernel
theorem dX5_pushWithout_60 : decode cX5_pushWithout 60 = .ok (.getfield 16, 3) := by decide +kernel
theorem dX5_pushWithout_63 : decode cX5_pushWithout 63 = .ok (.getfield 142, 3) := by decide +kernel
theorem dX5_pushWithout_66 : decode cX5_pushWithout 66 = .ok (.iload_n 2, 1) := by decide +kernel
theorem dX5_pushWithout_67 : decode cX5_pushWithout 67 = .ok (.iaload, 1) := by decide +kernel
theorem dX5_pushWithout_68 : decode cX5_pushWithout 68 = .ok (.aload_n 0, 1) := by decide +kernel
theorem dX5_pushWithout_69 : decode cX5_pushWithout 69 = .ok (.getfield 10, 3) := by decide +kernel
theorem dX5_pushWithout_72 : decode cX5_pushWithout 72 = .ok (.getfield 142, 3) := by decide +kernel
theorem dX5_pushWithout_75 : decode cX5_pushWithout 75 = .ok (.iload_n 2, 1) := by decide +kernel
theorem dX5_pushWithout_76 : decode cX5_pushWithout 76 = .ok (.iaload, 1) := by decide +kernel
theorem dX5_pushWithout_77 : decode cX5_pushWithout 77 = .ok (.isub, 1) := by decide +kernel
theorem dX5_pushWithout_78 : decode cX5_pushWithout 78 = .ok (.ireturn, 1) := by decide +kernel
theorem dX6_init_0 : decode cX6_init 0 = .ok (.aload_n 0, 1) := by decide +kernel
theorem dX6_init_1 : decode cX6_init 1 = .ok (.invokespecial 1, 3) := by decide +kernel
theorem dX6_init_4 : decode cX6_init 4 = .ok (.aload_n 0, 1) := by decide +kernel
theorem dX6_init_5 : decode cX6_init 5 = .ok (.bipush 96, 2) := by decide +kernel
theorem dX6_init_7 : decode cX6_init 7 = .ok (.newarray .int, 2) := by decide +kernel
theorem dX6_init_9 : decode cX6_init 9 = .ok (.putfield 7, 3) := by decide +kernel
theorem dX6_init_12 : decode cX6_init 12 = .ok (.aload_n 0, 1) := by decide +kernel
theorem dX6_init_13 : decode cX6_init 13 = .ok (.bipush 96, 2) := by decide +kernel
theorem dX6_init_15 : decode cX6_init 15 = .ok (.newarray .int, 2) := by decide +kernel
theorem dX6_init_17 : decode cX6_init 17 = .ok (.putfield 13, 3) := by decide +kernel
theorem dX6_init_20 : decode cX6_init 20 = .ok (.aload_n 0, 1) := by decide +kernel
theorem dX6_init_21 : decode cX6_init 21 = .ok (.bipush 96, 2) := by decide +kernel
theorem dX6_init_23 : decode cX6_init 23 = .ok (.newarray .int, 2) := by decide +kernel
theorem dX6_init_25 : decode cX6_init 25 = .ok (.putfield 16, 3) := by decide +kernel
theorem dX6_init_28 : decode cX6_init 28 = .ok (.aload_n 0, 1) := by decide +kernel
theorem dX6_init_29 : decode cX6_init 29 = .ok (.bipush 96, 2) := by decide +kernel
theorem dX6_init_31 : decode cX6_init 31 = .ok (.newarray .int, 2) := by decide +kernel
theorem dX6_init_33 : decode cX6_init 33 = .ok (.putfield 19, 3) := by decide +kernel
theorem dX6_init_36 : decode cX6_init 36 = .ok (.aload_n 0, 1) := by decide +kernel
theorem dX6_init_37 : decode cX6_init 37 = .ok (.bipush 96, 2) := by decide +kernel
theorem dX6_init_39 : decode cX6_init 39 = .ok (.newarray .int, 2) := by decide +kernel
theorem dX6_init_41 : decode cX6_init 41 = .ok (.putfield 22, 3) := by decide +kernel
theorem dX6_init_44 : decode cX6_init 44 = .ok (.aload_n 0, 1) := by decide +kernel
theorem dX6_init_45 : decode cX6_init 45 = .ok (.bipush 96, 2) := by decide +kernel
theorem dX6_init_47 : decode cX6_init 47 = .ok (.newarray .int, 2) := by decide +kernel
theorem dX6_init_49 : decode cX6_init 49 = .ok (.putfield 25, 3) := by decide +kernel
theorem dX6_init_52 : decode cX6_init 52 = .ok (.aload_n 0, 1) := by decide +kernel
theorem dX6_init_53 : decode cX6_init 53 = .ok (.bipush 96, 2) := by decide +kernel
theorem dX6_init_55 : decode cX6_init 55 = .ok (.newarray .int, 2) := by decide +kernel
theorem dX6_init_57 : decode cX6_init 57 = .ok (.putfield 28, 3) := by decide +kernel
theorem dX6_init_60 : decode cX6_init 60 = .ok (.aload_n 0, 1) := by decide +kernel
theorem dX6_init_61 : decode cX6_init 61 = .ok (.bipush 96, 2) := by decide +kernel
theorem dX6_init_63 : decode cX6_init 63 = .ok (.newarray .int, 2) := by decide +kernel
theorem dX6_init_65 : decode cX6_init 65 = .ok (.putfield 31, 3) := by decide +kernel
theorem dX6_init_68 : decode cX6_init 68 = .ok (.aload_n 0, 1) := by decide +kernel
theorem dX6_init_69 : decode cX6_init 69 = .ok (.sipush 384, 3) := by decide +kernel
theorem dX6_init_72 : decode cX6_init 72 = .ok (.newarray .int, 2) := by decide +kernel
theorem dX6_init_74 : decode cX6_init 74 = .ok (.putfield 34, 3) := by decide +kernel
theorem dX6_init_77 : decode cX6_init 77 = .ok (.aload_n 0, 1) := by decide +kernel
theorem dX6_init_78 : decode cX6_init 78 = .ok (.sipush 384, 3) := by decide +kernel
theorem dX6_init_81 : decode cX6_init 81 = .ok (.newarray .int, 2) := by decide +kernel
theorem dX6_init_83 : decode cX6_init 83 = .ok (.putfield 37, 3) := by decide +kernel
theorem dX6_init_86 : decode cX6_init 86 = .ok (.aload_n 0, 1) := by decide +kernel
theorem dX6_init_87 : decode cX6_init 87 = .ok (.bipush 12, 2) := by decide +kernel
theorem dX6_init_89 : decode cX6_init 89 = .ok (.newarray .int, 2) := by decide +kernel
theorem dX6_init_91 : decode cX6_init 91 = .ok (.putfield 40, 3) := by decide +kernel
theorem dX6_init_94 : decode cX6_init 94 = .ok (.aload_n 0, 1) := by decide +kernel
theorem dX6_init_95 : decode cX6_init 95 = .ok (.iconst 4, 1) := by decide +kernel
theorem dX6_init_96 : decode cX6_init 96 = .ok (.newarray .int, 2) := by decide +kernel
theorem dX6_init_98 : decode cX6_init 98 = .ok (.putfield 43, 3) := by decide +kernel
theorem dX6_init_101 : decode cX6_init 101 = .ok (.aload_n 0, 1) := by decide +kernel
theorem dX6_init_102 : decode cX6_init 102 = .ok (.bipush 12, 2) := by decide +kernel
theorem dX6_init_104 : decode cX6_init 104 = .ok (.newarray .int, 2) := by decide +kernel
theorem dX6_init_106 : decode cX6_init 106 = .ok (.putfield 46, 3) := by decide +kernel
theorem dX6_init_109 : decode cX6_init 109 = .ok (.aload_n 0, 1) := by decide +kernel
theorem dX6_init_110 : decode cX6_init 110 = .ok (.iconst 4, 1) := by decide +kernel
theorem dX6_init_111 : decode cX6_init 111 = .ok (.newarray .int, 2) := by decide +kernel
theorem dX6_init_113 : decode cX6_init 113 = .ok (.putfield 49, 3) := by decide +kernel
theorem dX6_init_116 : decode cX6_init 116 = .ok (.aload_n 0, 1) := by decide +kernel
theorem dX6_init_117 : decode cX6_init 117 = .ok (.iconst 4, 1) := by decide +kernel
theorem dX6_init_118 : decode cX6_init 118 = .ok (.newarray .int, 2) := by decide +kernel
theorem dX6_init_120 : decode cX6_init 120 = .ok (.putfield 52, 3) := by decide +kernel
theorem dX6_init_123 : decode cX6_init 123 = .ok (.aload_n 0, 1) := by decide +kernel
theorem dX6_init_124 : decode cX6_init 124 = .ok (.sipush 20000, 3) := by decide +kernel
theorem dX6_init_127 : decode cX6_init 127 = .ok (.newarray .int, 2) := by decide +kernel
theorem dX6_init_129 : decode cX6_init 129 = .ok (.putfield 55, 3) := by decide +kernel
theorem dX6_init_132 : decode cX6_init 132 = .ok (.iconst 0, 1) := by decide +kernel
theorem dX6_init_133 : decode cX6_init 133 = .ok (.istore_n 1, 1) := by decide +kernel
theorem dX6_init_134 : decode cX6_init 134 = .ok (.iload_n 1, 1) := by decide +kernel
theorem dX6_init_135 : decode cX6_init 135 = .ok (.bipush 96, 2) := by decide +kernel
theorem dX6_init_137 : decode cX6_init 137 = .ok (.if_icmp .ge 16, 3) := by decide +kernel
theorem dX6_init_140 : decode cX6_init 140 = .ok (.aload_n 0, 1) := by decide +kernel
theorem dX6_init_141 : decode cX6_init 141 = .ok (.getfield 13, 3) := by decide +kernel
theorem dX6_init_144 : decode cX6_init 144 = .ok (.iload_n 1, 1) := by decide +kernel
theorem dX6_init_145 : decode cX6_init 145 = .ok (.iconst (-1), 1) := by decide +kernel
theorem dX6_init_146 : decode cX6_init 146 = .ok (.iastore, 1) := by decide +kernel
theorem dX6_init_147 : decode cX6_init 147 = .ok (.iinc 1 1, 3) := by decide +kernel
theorem dX6_init_150 : decode cX6_init 150 = .ok (.goto (-16), 3) := by decide +kernel
theorem dX6_init_153 : decode cX6_init 153 = .ok (.return_, 1) := by decide +kernel
theorem dX6_thrown_0 : decode cX6_thrown 0 = .ok (.aload_n 0, 1) := by decide +kernel
theorem dX6_thrown_1 : decode cX6_thrown 1 = .ok (.getfield 58, 3) := by decide +kernel
theorem dX6_thrown_4 : decode cX6_thrown 4 = .ok (.ireturn, 1) := by decide +kernel
theorem dX6_refused_0 : decode cX6_refused 0 = .ok (.aload_n 0, 1) := by decide +kernel
theorem dX6_refused_1 : decode cX6_refused 1 = .ok (.iload_n 1, 1) := by decide +kernel
theorem dX6_refused_2 : decode cX6_refused 2 = .ok (.putfield 58, 3) := by decide +kernel
theorem dX6_refused_5 : decode cX6_refused 5 = .ok (.iload_n 1, 1) := by decide +kernel
theorem dX6_refused_6 : decode cX6_refused 6 = .ok (.ifCond .eq 7, 3) := by decide +kernel
theorem dX6_refused_9 : decode cX6_refused 9 = .ok (.iconst 1, 1) := by decide +kernel
theorem dX6_refused_10 : decode cX6_refused 10 = .ok (.goto 4, 3) := by decide +kernel
theorem dX6_refused_13 : decode cX6_refused 13 = .ok (.iconst 0, 1) := by decide +kernel
theorem dX6_refused_14 : decode cX6_refused 14 = .ok (.ireturn, 1) := by decide +kernel
theorem dX6_within_0 : decode cX6_within 0 = .ok (.iload_n 0, 1) := by decide +kernel
theorem dX6_within_1 : decode cX6_within 1 = .ok (.iload_n 1, 1) := by decide +kernel
theorem dX6_within_2 : decode cX6_within 2 = .ok (.if_icmp .lt 12, 3) := by decide +kernel
theorem dX6_within_5 : decode cX6_within 5 = .ok (.iload_n 0, 1) := by decide +kernel
theorem dX6_within_6 : decode cX6_within 6 = .ok (.iload_n 2, 1) := by decide +kernel
theorem dX6_within_7 : decode cX6_within 7 = .ok (.if_icmp .gt 7, 3) := by decide +kernel
theorem dX6_within_10 : decode cX6_within 10 = .ok (.iconst 1, 1) := by decide +kernel
theorem dX6_within_11 : decode cX6_within 11 = .ok (.goto 4, 3) := by decide +kernel
theorem dX6_within_14 : decode cX6_within 14 = .ok (.iconst 0, 1) := by decide +kernel
theorem dX6_within_15 : decode cX6_within 15 = .ok (.ireturn, 1) := by decide +kernel
theorem dX6_isCell_0 : decode cX6_isCell 0 = .ok (.iload_n 1, 1) := by decide +kernel
theorem dX6_isCell_1 : decode cX6_isCell 1 = .ok (.iconst 0, 1) := by decide +kernel
theorem dX6_isCell_2 : decode cX6_isCell 2 = .ok (.bipush 95, 2) := by decide +kernel
theorem dX6_isCell_4 : decode cX6_isCell 4 = .ok (.invokestatic 62, 3) := by decide +kernel
theorem dX6_isCell_7 : decode cX6_isCell 7 = .ok (.ireturn, 1) := by decide +kernel
theorem dX6_beside_0 : decode cX6_beside 0 = .ok (.iload_n 0, 1) := by decide +kernel
theorem dX6_beside_1 : decode cX6_beside 1 = .ok (.bipush 12, 2) := by decide +kernel
theorem dX6_beside_3 : decode cX6_beside 3 = .ok (.idiv, 1) := by decide +kernel
theorem dX6_beside_4 : decode cX6_beside 4 = .ok (.istore_n 2, 1) := by decide +kernel
theorem dX6_beside_5 : decode cX6_beside 5 = .ok (.iload_n 1, 1) := by decide +kernel
theorem dX6_beside_6 : decode cX6_beside 6 = .ok (.ifCond .ne 20, 3) := by decide +kernel
theorem dX6_beside_9 : decode cX6_beside 9 = .ok (.bipush 12, 2) := by decide +kernel
theorem dX6_beside_11 : decode cX6_beside 11 = .ok (.iload_n 2, 1) := by decide +kernel
theorem dX6_beside_12 : decode cX6_beside 12 = .ok (.imul, 1) := by decide +kernel
theorem dX6_beside_13 : decode cX6_beside 13 = .ok (.iload_n 0, 1) := by decide +kernel
theorem dX6_beside_14 : decode cX6_beside 14 = .ok (.iconst 1, 1) := by decide +kernel
theorem dX6_beside_15 : decode cX6_beside 15 = .ok (.iadd, 1) := by decide +kernel
theorem dX6_beside_16 : decode cX6_beside 16 = .ok (.bipush 12, 2) := by decide +kernel
theorem dX6_beside_18 : decode cX6_beside 18 = .ok (.iload_n 2, 1) := by decide +kernel
theorem dX6_beside_19 : decode cX6_beside 19 = .ok (.imul, 1) := by decide +kernel
theorem dX6_beside_20 : decode cX6_beside 20 = .ok (.isub, 1) := by decide +kernel
theorem dX6_beside_21 : decode cX6_beside 21 = .ok (.bipush 12, 2) := by decide +kernel
theorem dX6_beside_23 : decode cX6_beside 23 = .ok (.irem, 1) := by decide +kernel
theorem dX6_beside_24 : decode cX6_beside 24 = .ok (.iadd, 1) := by decide +kernel
theorem dX6_beside_25 : decode cX6_beside 25 = .ok (.ireturn, 1) := by decide +kernel
theorem dX6_beside_26 : decode cX6_beside 26 = .ok (.iload_n 1, 1) := by decide +kernel
theorem dX6_beside_27 : decode cX6_beside 27 = .ok (.iconst 2, 1) := by decide +kernel
theorem dX6_beside_28 : decode cX6_beside 28 = .ok (.if_icmp .ne 21, 3) := by decide +kernel
theorem dX6_beside_31 : decode cX6_beside 31 = .ok (.bipush 12, 2) := by decide +kernel
theorem dX6_beside_33 : decode cX6_beside 33 = .ok (.iload_n 2, 1) := by decide +kernel
theorem dX6_beside_34 : decode cX6_beside 34 = .ok (.imul, 1) := by decide +kernel
theorem dX6_beside_35 : decode cX6_beside 35 = .ok (.iload_n 0, 1) := by decide +kernel
theorem dX6_beside_36 : decode cX6_beside 36 = .ok (.bipush 11, 2) := by decide +kernel
theorem dX6_beside_38 : decode cX6_beside 38 = .ok (.iadd, 1) := by decide +kernel
theorem dX6_beside_39 : decode cX6_beside 39 = .ok (.bipush 12, 2) := by decide +kernel
theorem dX6_beside_41 : decode cX6_beside 41 = .ok (.iload_n 2, 1) := by decide +kernel
theorem dX6_beside_42 : decode cX6_beside 42 = .ok (.imul, 1) := by decide +kernel
theorem dX6_beside_43 : decode cX6_beside 43 = .ok (.isub, 1) := by decide +kernel
theorem dX6_beside_44 : decode cX6_beside 44 = .ok (.bipush 12, 2) := by decide +kernel
theorem dX6_beside_46 : decode cX6_beside 46 = .ok (.irem, 1) := by decide +kernel
theorem dX6_beside_47 : decode cX6_beside 47 = .ok (.iadd, 1) := by decide +kernel
theorem dX6_beside_48 : decode cX6_beside 48 = .ok (.ireturn, 1) := by decide +kernel
theorem dX6_beside_49 : decode cX6_beside 49 = .ok (.iload_n 1, 1) := by decide +kernel
theorem dX6_beside_50 : decode cX6_beside 50 = .ok (.iconst 1, 1) := by decide +kernel
theorem dX6_beside_51 : decode cX6_beside 51 = .ok (.if_icmp .ne 18, 3) := by decide +kernel
theorem dX6_beside_54 : decode cX6_beside 54 = .ok (.iload_n 2, 1) := by decide +kernel
theorem dX6_beside_55 : decode cX6_beside 55 = .ok (.ifCond .ne 7, 3) := by decide +kernel
theorem dX6_beside_58 : decode cX6_beside 58 = .ok (.iconst (-1), 1) := by decide +kernel
theorem dX6_beside_59 : decode cX6_beside 59 = .ok (.goto 24, 3) := by decide +kernel
theorem dX6_beside_62 : decode cX6_beside 62 = .ok (.iload_n 0, 1) := by decide +kernel
theorem dX6_beside_63 : decode cX6_beside 63 = .ok (.bipush 12, 2) := by decide +kernel
theorem dX6_beside_65 : decode cX6_beside 65 = .ok (.isub, 1) := by decide +kernel
theorem dX6_beside_66 : decode cX6_beside 66 = .ok (.goto 17, 3) := by decide +kernel
theorem dX6_beside_69 : decode cX6_beside 69 = .ok (.iload_n 2, 1) := by decide +kernel
theorem dX6_beside_70 : decode cX6_beside 70 = .ok (.bipush 7, 2) := by decide +kernel
theorem dX6_beside_72 : decode cX6_beside 72 = .ok (.if_icmp .ne 7, 3) := by decide +kernel
theorem dX6_beside_75 : decode cX6_beside 75 = .ok (.iconst (-1), 1) := by decide +kernel
theorem dX6_beside_76 : decode cX6_beside 76 = .ok (.goto 7, 3) := by decide +kernel
theorem dX6_beside_79 : decode cX6_beside 79 = .ok (.iload_n 0, 1) := by decide +kernel
theorem dX6_beside_80 : decode cX6_beside 80 = .ok (.bipush 12, 2) := by decide +kernel
theorem dX6_beside_82 : decode cX6_beside 82 = .ok (.iadd, 1) := by decide +kernel
theorem dX6_beside_83 : decode cX6_beside 83 = .ok (.ireturn, 1) := by decide +kernel
theorem dX6_blocks_0 : decode cX6_blocks 0 = .ok (.iload_n 1, 1) := by decide +kernel
theorem dX6_blocks_1 : decode cX6_blocks 1 = .ok (.iconst (-1), 1) := by decide +kernel
theorem dX6_blocks_2 : decode cX6_blocks 2 = .ok (.if_icmp .eq 13, 3) := by decide +kernel
theorem dX6_blocks_5 : decode cX6_blocks 5 = .ok (.aload_n 0, 1) := by decide +kernel
theorem dX6_blocks_6 : decode cX6_blocks 6 = .ok (.getfield 7, 3) := by decide +kernel
theorem dX6_blocks_9 : decode cX6_blocks 9 = .ok (.iload_n 1, 1) := by decide +kernel
theorem dX6_blocks_10 : decode cX6_blocks 10 = .ok (.iaload, 1) := by decide +kernel
theorem dX6_blocks_11 : decode cX6_blocks 11 = .ok (.iconst 1, 1) := by decide +kernel
theorem dX6_blocks_12 : decode cX6_blocks 12 = .ok (.if_icmp .ne 7, 3) := by decide +kernel
theorem dX6_blocks_15 : decode cX6_blocks 15 = .ok (.iconst 1, 1) := by decide +kernel
theorem dX6_blocks_16 : decode cX6_blocks 16 = .ok (.goto 4, 3) := by decide +kernel
theorem dX6_blocks_19 : decode cX6_blocks 19 = .ok (.iconst 0, 1) := by decide +kernel
theorem dX6_blocks_20 : decode cX6_blocks 20 = .ok (.ireturn, 1) := by decide +kernel
theorem dX6_many_0 : decode cX6_many 0 = .ok (.iload_n 0, 1) := by decide +kernel
theorem dX6_many_1 : decode cX6_many 1 = .ok (.iconst 1, 1) := by decide +kernel
theorem dX6_many_2 : decode cX6_many 2 = .ok (.iand, 1) := by decide +kernel
theorem dX6_many_3 : decode cX6_many 3 = .ok (.iload_n 0, 1) := by decide +kernel
theorem dX6_many_4 : decode cX6_many 4 = .ok (.iconst 1, 1) := by decide +kernel
theorem dX6_many_5 : decode cX6_many 5 = .ok (.ishr, 1) := by decide +kernel
theorem dX6_many_6 : decode cX6_many 6 = .ok (.iconst 1, 1) := by decide +kernel
theorem dX6_many_7 : decode cX6_many 7 = .ok (.iand, 1) := by decide +kernel
theorem dX6_many_8 : decode cX6_many 8 = .ok (.iadd, 1) := by decide +kernel
theorem dX6_many_9 : decode cX6_many 9 = .ok (.iload_n 0, 1) := by decide +kernel
theorem dX6_many_10 : decode cX6_many 10 = .ok (.iconst 2, 1) := by decide +kernel
theorem dX6_many_11 : decode cX6_many 11 = .ok (.ishr, 1) := by decide +kernel
theorem dX6_many_12 : decode cX6_many 12 = .ok (.iconst 1, 1) := by decide +kernel
theorem dX6_many_13 : decode cX6_many 13 = .ok (.iand, 1) := by decide +kernel
theorem dX6_many_14 : decode cX6_many 14 = .ok (.iadd, 1) := by decide +kernel
theorem dX6_many_15 : decode cX6_many 15 = .ok (.iload_n 0, 1) := by decide +kernel
theorem dX6_many_16 : decode cX6_many 16 = .ok (.iconst 3, 1) := by decide +kernel
theorem dX6_many_17 : decode cX6_many 17 = .ok (.ishr, 1) := by decide +kernel
theorem dX6_many_18 : decode cX6_many 18 = .ok (.iconst 1, 1) := by decide +kernel
theorem dX6_many_19 : decode cX6_many 19 = .ok (.iand, 1) := by decide +kernel
theorem dX6_many_20 : decode cX6_many 20 = .ok (.iadd, 1) := by decide +kernel
theorem dX6_many_21 : decode cX6_many 21 = .ok (.ireturn, 1) := by decide +kernel
theorem dX6_opposite_0 : decode cX6_opposite 0 = .ok (.iload_n 0, 1) := by decide +kernel
theorem dX6_opposite_1 : decode cX6_opposite 1 = .ok (.iconst 2, 1) := by decide +kernel
theorem dX6_opposite_2 : decode cX6_opposite 2 = .ok (.iadd, 1) := by decide +kernel
theorem dX6_opposite_3 : decode cX6_opposite 3 = .ok (.iconst 4, 1) := by decide +kernel
theorem dX6_opposite_4 : decode cX6_opposite 4 = .ok (.irem, 1) := by decide +kernel
theorem dX6_opposite_5 : decode cX6_opposite 5 = .ok (.ireturn, 1) := by decide +kernel
theorem dX6_cellsOf_0 : decode cX6_cellsOf 0 = .ok (.iconst 0, 1) := by decide +kernel
theorem dX6_cellsOf_1 : decode cX6_cellsOf 1 = .ok (.istore_n 2, 1) := by decide +kernel
theorem dX6_cellsOf_2 : decode cX6_cellsOf 2 = .ok (.iconst 0, 1) := by decide +kernel
theorem dX6_cellsOf_3 : decode cX6_cellsOf 3 = .ok (.istore_n 3, 1) := by decide +kernel
theorem dX6_cellsOf_4 : decode cX6_cellsOf 4 = .ok (.iload_n 3, 1) := by decide +kernel
theorem dX6_cellsOf_5 : decode cX6_cellsOf 5 = .ok (.bipush 96, 2) := by decide +kernel
theorem dX6_cellsOf_7 : decode cX6_cellsOf 7 = .ok (.if_icmp .ge 27, 3) := by decide +kernel
theorem dX6_cellsOf_10 : decode cX6_cellsOf 10 = .ok (.iload_n 2, 1) := by decide +kernel
theorem dX6_cellsOf_11 : decode cX6_cellsOf 11 = .ok (.aload_n 0, 1) := by decide +kernel
theorem dX6_cellsOf_12 : decode cX6_cellsOf 12 = .ok (.getfield 13, 3) := by decide +kernel
theorem dX6_cellsOf_15 : decode cX6_cellsOf 15 = .ok (.iload_n 3, 1) := by decide +kernel
theorem dX6_cellsOf_16 : decode cX6_cellsOf 16 = .ok (.iaload, 1) := by decide +kernel
theorem dX6_cellsOf_17 : decode cX6_cellsOf 17 = .ok (.iload_n 1, 1) := by decide +kernel
theorem dX6_cellsOf_18 : decode cX6_cellsOf 18 = .ok (.if_icmp .ne 7, 3) := by decide +kernel
theorem dX6_cellsOf_21 : decode cX6_cellsOf 21 = .ok (.iconst 1, 1) := by decide +kernel
theorem dX6_cellsOf_22 : decode cX6_cellsOf 22 = .ok (.goto 4, 3) := by decide +kernel
theorem dX6_cellsOf_25 : decode cX6_cellsOf 25 = .ok (.iconst 0, 1) := by decide +kernel
theorem dX6_cellsOf_26 : decode cX6_cellsOf 26 = .ok (.iadd, 1) := by decide +kernel
theorem dX6_cellsOf_27 : decode cX6_cellsOf 27 = .ok (.istore_n 2, 1) := by decide +kernel
theorem dX6_cellsOf_28 : decode cX6_cellsOf 28 = .ok (.iinc 3 1, 3) := by decide +kernel
theorem dX6_cellsOf_31 : decode cX6_cellsOf 31 = .ok (.goto (-27), 3) := by decide +kernel
theorem dX6_cellsOf_34 : decode cX6_cellsOf 34 = .ok (.iload_n 2, 1) := by decide +kernel
theorem dX6_cellsOf_35 : decode cX6_cellsOf 35 = .ok (.ireturn, 1) := by decide +kernel
theorem dX6_hasProbe_0 : decode cX6_hasProbe 0 = .ok (.iconst 0, 1) := by decide +kernel
theorem dX6_hasProbe_1 : decode cX6_hasProbe 1 = .ok (.istore_n 2, 1) := by decide +kernel
theorem dX6_hasProbe_2 : decode cX6_hasProbe 2 = .ok (.iconst 0, 1) := by decide +kernel
theorem dX6_hasProbe_3 : decode cX6_hasProbe 3 = .ok (.istore_n 3, 1) := by decide +kernel
theorem dX6_hasProbe_4 : decode cX6_hasProbe 4 = .ok (.iload_n 3, 1) := by decide +kernel
theorem dX6_hasProbe_5 : decode cX6_hasProbe 5 = .ok (.aload_n 0, 1) := by decide +kernel
theorem dX6_hasProbe_6 : decode cX6_hasProbe 6 = .ok (.getfield 66, 3) := by decide +kernel
theorem dX6_hasProbe_9 : decode cX6_hasProbe 9 = .ok (.if_icmp .ge 29, 3) := by decide +kernel
theorem dX6_hasProbe_12 : decode cX6_hasProbe 12 = .ok (.iload_n 2, 1) := by decide +kernel
theorem dX6_hasProbe_13 : decode cX6_hasProbe 13 = .ok (.ifCond .ne 13, 3) := by decide +kernel
theorem dX6_hasProbe_16 : decode cX6_hasProbe 16 = .ok (.aload_n 0, 1) := by decide +kernel
theorem dX6_hasProbe_17 : decode cX6_hasProbe 17 = .ok (.getfield 49, 3) := by decide +kernel
theorem dX6_hasProbe_20 : decode cX6_hasProbe 20 = .ok (.iload_n 3, 1) := by decide +kernel
theorem dX6_hasProbe_21 : decode cX6_hasProbe 21 = .ok (.iaload, 1) := by decide +kernel
theorem dX6_hasProbe_22 : decode cX6_hasProbe 22 = .ok (.iload_n 1, 1) := by decide +kernel
theorem dX6_hasProbe_23 : decode cX6_hasProbe 23 = .ok (.if_icmp .ne 7, 3) := by decide +kernel
theorem dX6_hasProbe_26 : decode cX6_hasProbe 26 = .ok (.iconst 1, 1) := by decide +kernel
theorem dX6_hasProbe_27 : decode cX6_hasProbe 27 = .ok (.goto 4, 3) := by decide +kernel
theorem dX6_hasProbe_30 : decode cX6_hasProbe 30 = .ok (.iconst 0, 1) := by decide +kernel
theorem dX6_hasProbe_31 : decode cX6_hasProbe 31 = .ok (.istore_n 2, 1) := by decide +kernel
theorem dX6_hasProbe_32 : decode cX6_hasProbe 32 = .ok (.iinc 3 1, 3) := by decide +kernel
theorem dX6_hasProbe_35 : decode cX6_hasProbe 35 = .ok (.goto (-31), 3) := by decide +kernel
theorem dX6_hasProbe_38 : decode cX6_hasProbe 38 = .ok (.iload_n 2, 1) := by decide +kernel
theorem dX6_hasProbe_39 : decode cX6_hasProbe 39 = .ok (.ireturn, 1) := by decide +kernel
theorem dX6_canBeWall_0 : decode cX6_canBeWall 0 = .ok (.aload_n 0, 1) := by decide +kernel
theorem dX6_canBeWall_1 : decode cX6_canBeWall 1 = .ok (.getfield 16, 3) := by decide +kernel
theorem dX6_canBeWall_4 : decode cX6_canBeWall 4 = .ok (.iload_n 1, 1) := by decide +kernel
theorem dX6_canBeWall_5 : decode cX6_canBeWall 5 = .ok (.iaload, 1) := by decide +kernel
theorem dX6_canBeWall_6 : decode cX6_canBeWall 6 = .ok (.ifCond .ne 7, 3) := by decide +kernel
theorem dX6_canBeWall_9 : decode cX6_canBeWall 9 = .ok (.iconst 1, 1) := by decide +kernel
theorem dX6_canBeWall_10 : decode cX6_canBeWall 10 = .ok (.goto 4, 3) := by decide +kernel
theorem dX6_canBeWall_13 : decode cX6_canBeWall 13 = .ok (.iconst 0, 1) := by decide +kernel
theorem dX6_canBeWall_14 : decode cX6_canBeWall 14 = .ok (.istore_n 3, 1) := by decide +kernel
theorem dX6_canBeWall_15 : decode cX6_canBeWall 15 = .ok (.iconst 0, 1) := by decide +kernel
theorem dX6_canBeWall_16 : decode cX6_canBeWall 16 = .ok (.istore 4, 2) := by decide +kernel
theorem dX6_canBeWall_18 : decode cX6_canBeWall 18 = .ok (.iload 4, 2) := by decide +kernel
theorem dX6_canBeWall_20 : decode cX6_canBeWall 20 = .ok (.iconst 4, 1) := by decide +kernel
theorem dX6_canBeWall_21 : decode cX6_canBeWall 21 = .ok (.if_icmp .ge 33, 3) := by decide +kernel
theorem dX6_canBeWall_24 : decode cX6_canBeWall 24 = .ok (.iload_n 3, 1) := by decide +kernel
theorem dX6_canBeWall_25 : decode cX6_canBeWall 25 = .ok (.ifCond .eq 21, 3) := by decide +kernel
theorem dX6_canBeWall_28 : decode cX6_canBeWall 28 = .ok (.aload_n 0, 1) := by decide +kernel
theorem dX6_canBeWall_29 : decode cX6_canBeWall 29 = .ok (.getfield 34, 3) := by decide +kernel
theorem dX6_canBeWall_32 : decode cX6_canBeWall 32 = .ok (.iconst 4, 1) := by decide +kernel
theorem dX6_canBeWall_33 : decode cX6_canBeWall 33 = .ok (.iload_n 1, 1) := by decide +kernel
theorem dX6_canBeWall_34 : decode cX6_canBeWall 34 = .ok (.imul, 1) := by decide +kernel
theorem dX6_canBeWall_35 : decode cX6_canBeWall 35 = .ok (.iload 4, 2) := by decide +kernel
theorem dX6_canBeWall_37 : decode cX6_canBeWall 37 = .ok (.iadd, 1) := by decide +kernel
theorem dX6_canBeWall_38 : decode cX6_canBeWall 38 = .ok (.iaload, 1) := by decide +kernel
theorem dX6_canBeWall_39 : decode cX6_canBeWall 39 = .ok (.ifCond .ne 7, 3) := by decide +kernel
theorem dX6_canBeWall_42 : decode cX6_canBeWall 42 = .ok (.iconst 1, 1) := by decide +kernel
theorem dX6_canBeWall_43 : decode cX6_canBeWall 43 = .ok (.goto 4, 3) := by decide +kernel
theorem dX6_canBeWall_46 : decode cX6_canBeWall 46 = .ok (.iconst 0, 1) := by decide +kernel
theorem dX6_canBeWall_47 : decode cX6_canBeWall 47 = .ok (.istore_n 3, 1) := by decide +kernel
theorem dX6_canBeWall_48 : decode cX6_canBeWall 48 = .ok (.iinc 4 1, 3) := by decide +kernel
theorem dX6_canBeWall_51 : decode cX6_canBeWall 51 = .ok (.goto (-33), 3) := by decide +kernel
theorem dX6_canBeWall_54 : decode cX6_canBeWall 54 = .ok (.aload_n 0, 1) := by decide +kernel
theorem dX6_canBeWall_55 : decode cX6_canBeWall 55 = .ok (.getfield 7, 3) := by decide +kernel
theorem dX6_canBeWall_58 : decode cX6_canBeWall 58 = .ok (.iload_n 1, 1) := by decide +kernel
theorem dX6_canBeWall_59 : decode cX6_canBeWall 59 = .ok (.iaload, 1) := by decide +kernel
theorem dX6_canBeWall_60 : decode cX6_canBeWall 60 = .ok (.ifCond .ne 34, 3) := by decide +kernel
theorem dX6_canBeWall_63 : decode cX6_canBeWall 63 = .ok (.iload_n 3, 1) := by decide +kernel
theorem dX6_canBeWall_64 : decode cX6_canBeWall 64 = .ok (.ifCond .eq 30, 3) := by decide +kernel
theorem dX6_canBeWall_67 : decode cX6_canBeWall 67 = .ok (.aload_n 0, 1) := by decide +kernel
theorem dX6_canBeWall_68 : decode cX6_canBeWall 68 = .ok (.iload_n 1, 1) := by decide +kernel
theorem dX6_canBeWall_69 : decode cX6_canBeWall 69 = .ok (.invokevirtual 69, 3) := by decide +kernel
theorem dX6_canBeWall_72 : decode cX6_canBeWall 72 = .ok (.ifCond .ne 22, 3) := by decide +kernel
theorem dX6_canBeWall_75 : decode cX6_canBeWall 75 = .ok (.iload_n 2, 1) := by decide +kernel
theorem dX6_canBeWall_76 : decode cX6_canBeWall 76 = .ok (.iconst (-1), 1) := by decide +kernel
theorem dX6_canBeWall_77 : decode cX6_canBeWall 77 = .ok (.if_icmp .eq 13, 3) := by decide +kernel
theorem dX6_canBeWall_80 : decode cX6_canBeWall 80 = .ok (.aload_n 0, 1) := by decide +kernel
theorem dX6_canBeWall_81 : decode cX6_canBeWall 81 = .ok (.iload_n 2, 1) := by decide +kernel
theorem dX6_canBeWall_82 : decode cX6_canBeWall 82 = .ok (.invokevirtual 73, 3) := by decide +kernel
theorem dX6_canBeWall_85 : decode cX6_canBeWall 85 = .ok (.bipush 12, 2) := by decide +kernel
theorem dX6_canBeWall_87 : decode cX6_canBeWall 87 = .ok (.if_icmp .ge 7, 3) := by decide +kernel
theorem dX6_canBeWall_90 : decode cX6_canBeWall 90 = .ok (.iconst 1, 1) := by decide +kernel
theorem dX6_canBeWall_91 : decode cX6_canBeWall 91 = .ok (.goto 4, 3) := by decide +kernel
theorem dX6_canBeWall_94 : decode cX6_canBeWall 94 = .ok (.iconst 0, 1) := by decide +kernel
theorem dX6_canBeWall_95 : decode cX6_canBeWall 95 = .ok (.ireturn, 1) := by decide +kernel
theorem dX6_wall_0 : decode cX6_wall 0 = .ok (.aload_n 0, 1) := by decide +kernel
theorem dX6_wall_1 : decode cX6_wall 1 = .ok (.iload_n 1, 1) := by decide +kernel
theorem dX6_wall_2 : decode cX6_wall 2 = .ok (.invokevirtual 77, 3) := by decide +kernel
theorem dX6_wall_5 : decode cX6_wall 5 = .ok (.ifCond .eq 16, 3) := by decide +kernel
theorem dX6_wall_8 : decode cX6_wall 8 = .ok (.iload_n 2, 1) := by decide +kernel
theorem dX6_wall_9 : decode cX6_wall 9 = .ok (.iconst (-1), 1) := by decide +kernel
theorem dX6_wall_10 : decode cX6_wall 10 = .ok (.iconst 3, 1) := by decide +kernel
theorem dX6_wall_11 : decode cX6_wall 11 = .ok (.invokestatic 62, 3) := by decide +kernel
theorem dX6_wall_14 : decode cX6_wall 14 = .ok (.ifCond .eq 7, 3) := by decide +kernel
theorem dX6_wall_17 : decode cX6_wall 17 = .ok (.iconst 1, 1) := by decide +kernel
theorem dX6_wall_18 : decode cX6_wall 18 = .ok (.goto 4, 3) := by decide +kernel
theorem dX6_wall_21 : decode cX6_wall 21 = .ok (.iconst 0, 1) := by decide +kernel
theorem dX6_wall_22 : decode cX6_wall 22 = .ok (.istore_n 3, 1) := by decide +kernel
theorem dX6_wall_23 : decode cX6_wall 23 = .ok (.aload_n 0, 1) := by decide +kernel
theorem dX6_wall_24 : decode cX6_wall 24 = .ok (.iload_n 3, 1) := by decide +kernel
theorem dX6_wall_25 : decode cX6_wall 25 = .ok (.ifCond .ne 7, 3) := by decide +kernel
theorem dX6_wall_28 : decode cX6_wall 28 = .ok (.iconst 1, 1) := by decide +kernel
theorem dX6_wall_29 : decode cX6_wall 29 = .ok (.goto 17, 3) := by decide +kernel
theorem dX6_wall_32 : decode cX6_wall 32 = .ok (.aload_n 0, 1) := by decide +kernel
theorem dX6_wall_33 : decode cX6_wall 33 = .ok (.iload_n 1, 1) := by decide +kernel
theorem dX6_wall_34 : decode cX6_wall 34 = .ok (.iload_n 2, 1) := by decide +kernel
theorem dX6_wall_35 : decode cX6_wall 35 = .ok (.invokevirtual 80, 3) := by decide +kernel
theorem dX6_wall_38 : decode cX6_wall 38 = .ok (.ifCond .ne 7, 3) := by decide +kernel
theorem dX6_wall_41 : decode cX6_wall 41 = .ok (.iconst 2, 1) := by decide +kernel
theorem dX6_wall_42 : decode cX6_wall 42 = .ok (.goto 4, 3) := by decide +kernel
theorem dX6_wall_45 : decode cX6_wall 45 = .ok (.iconst 0, 1) := by decide +kernel
theorem dX6_wall_46 : decode cX6_wall 46 = .ok (.invokevirtual 84, 3) := by decide +kernel
theorem dX6_wall_49 : decode cX6_wall 49 = .ok (.ifCond .eq 4, 3) := by decide +kernel
theorem dX6_wall_52 : decode cX6_wall 52 = .ok (.return_, 1) := by decide +kernel
theorem dX6_wall_53 : decode cX6_wall 53 = .ok (.aload_n 0, 1) := by decide +kernel
theorem dX6_wall_54 : decode cX6_wall 54 = .ok (.getfield 7, 3) := by decide +kernel
theorem dX6_wall_57 : decode cX6_wall 57 = .ok (.iload_n 1, 1) := by decide +kernel
theorem dX6_wall_58 : decode cX6_wall 58 = .ok (.iconst 1, 1) := by decide +kernel
theorem dX6_wall_59 : decode cX6_wall 59 = .ok (.iastore, 1) := by decide +kernel
theorem dX6_wall_60 : decode cX6_wall 60 = .ok (.aload_n 0, 1) := by decide +kernel
theorem dX6_wall_61 : decode cX6_wall 61 = .ok (.getfield 13, 3) := by decide +kernel
theorem dX6_wall_64 : decode cX6_wall 64 = .ok (.iload_n 1, 1) := by decide +kernel
theorem dX6_wall_65 : decode cX6_wall 65 = .ok (.iload_n 2, 1) := by decide +kernel
theorem dX6_wall_66 : decode cX6_wall 66 = .ok (.iastore, 1) := by decide +kernel
theorem dX6_wall_67 : decode cX6_wall 67 = .ok (.aload_n 0, 1) := by decide +kernel
theorem dX6_wall_68 : decode cX6_wall 68 = .ok (.iconst 0, 1) := by decide +kernel
theorem dX6_wall_69 : decode cX6_wall 69 = .ok (.putfield 87, 3) := by decide +kernel
theorem dX6_wall_72 : decode cX6_wall 72 = .ok (.return_, 1) := by decide +kernel
theorem dX6_clear_0 : decode cX6_clear 0 = .ok (.aload_n 0, 1) := by decide +kernel
theorem dX6_clear_1 : decode cX6_clear 1 = .ok (.aload_n 0, 1) := by decide +kernel
theorem dX6_clear_2 : decode cX6_clear 2 = .ok (.iload_n 1, 1) := by decide +kernel
theorem dX6_clear_3 : decode cX6_clear 3 = .ok (.invokevirtual 77, 3) := by decide +kernel
theorem dX6_clear_6 : decode cX6_clear 6 = .ok (.ifCond .eq 7, 3) := by decide +kernel
theorem dX6_clear_9 : decode cX6_clear 9 = .ok (.iconst 0, 1) := by decide +kernel
theorem dX6_clear_10 : decode cX6_clear 10 = .ok (.goto 4, 3) := by decide +kernel
theorem dX6_clear_13 : decode cX6_clear 13 = .ok (.iconst 1, 1) := by decide +kernel
theorem dX6_clear_14 : decode cX6_clear 14 = .ok (.invokevirtual 84, 3) := by decide +kernel
theorem dX6_clear_17 : decode cX6_clear 17 = .ok (.ifCond .eq 5, 3) := by decide +kernel
theorem dX6_clear_20 : decode cX6_clear 20 = .ok (.iconst 0, 1) := by decide +kernel
theorem dX6_clear_21 : decode cX6_clear 21 = .ok (.ireturn, 1) := by decide +kernel
theorem dX6_clear_22 : decode cX6_clear 22 = .ok (.aload_n 0, 1) := by decide +kernel
theorem dX6_clear_23 : decode cX6_clear 23 = .ok (.getfield 7, 3) := by decide +kernel
theorem dX6_clear_26 : decode cX6_clear 26 = .ok (.iload_n 1, 1) := by decide +kernel
theorem dX6_clear_27 : decode cX6_clear 27 = .ok (.iaload, 1) := by decide +kernel
theorem dX6_clear_28 : decode cX6_clear 28 = .ok (.istore_n 2, 1) := by decide +kernel
theorem dX6_clear_29 : decode cX6_clear 29 = .ok (.aload_n 0, 1) := by decide +kernel
theorem dX6_clear_30 : decode cX6_clear 30 = .ok (.getfield 7, 3) := by decide +kernel
theorem dX6_clear_33 : decode cX6_clear 33 = .ok (.iload_n 1, 1) := by decide +kernel
theorem dX6_clear_34 : decode cX6_clear 34 = .ok (.iconst 0, 1) := by decide +kernel
theorem dX6_clear_35 : decode cX6_clear 35 = .ok (.iastore, 1) := by decide +kernel
theorem dX6_clear_36 : decode cX6_clear 36 = .ok (.aload_n 0, 1) := by decide +kernel
theorem dX6_clear_37 : decode cX6_clear 37 = .ok (.getfield 13, 3) := by decide +kernel
theorem dX6_clear_40 : decode cX6_clear 40 = .ok (.iload_n 1, 1) := by decide +kernel
theorem dX6_clear_41 : decode cX6_clear 41 = .ok (.iconst (-1), 1) := by decide +kernel
theorem dX6_clear_42 : decode cX6_clear 42 = .ok (.iastore, 1) := by decide +kernel
theorem dX6_clear_43 : decode cX6_clear 43 = .ok (.aload_n 0, 1) := by decide +kernel
theorem dX6_clear_44 : decode cX6_clear 44 = .ok (.iconst 0, 1) := by decide +kernel
theorem dX6_clear_45 : decode cX6_clear 45 = .ok (.putfield 87, 3) := by decide +kernel
theorem dX6_clear_48 : decode cX6_clear 48 = .ok (.iload_n 2, 1) := by decide +kernel
theorem dX6_clear_49 : decode cX6_clear 49 = .ok (.ireturn, 1) := by decide +kernel
theorem dX6_open_0 : decode cX6_open 0 = .ok (.aload_n 0, 1) := by decide +kernel
theorem dX6_open_1 : decode cX6_open 1 = .ok (.aload_n 0, 1) := by decide +kernel
theorem dX6_open_2 : decode cX6_open 2 = .ok (.iload_n 1, 1) := by decide +kernel
theorem dX6_open_3 : decode cX6_open 3 = .ok (.invokevirtual 77, 3) := by decide +kernel
theorem dX6_open_6 : decode cX6_open 6 = .ok (.ifCond .ne 7, 3) := by decide +kernel
theorem dX6_open_9 : decode cX6_open 9 = .ok (.iconst 1, 1) := by decide +kernel
theorem dX6_open_10 : decode cX6_open 10 = .ok (.goto 30, 3) := by decide +kernel
theorem dX6_open_13 : decode cX6_open 13 = .ok (.iload_n 2, 1) := by decide +kernel
theorem dX6_open_14 : decode cX6_open 14 = .ok (.iconst 2, 1) := by decide +kernel
theorem dX6_open_15 : decode cX6_open 15 = .ok (.iconst 3, 1) := by decide +kernel
theorem dX6_open_16 : decode cX6_open 16 = .ok (.invokestatic 62, 3) := by decide +kernel
theorem dX6_open_19 : decode cX6_open 19 = .ok (.ifCond .ne 7, 3) := by decide +kernel
theorem dX6_open_22 : decode cX6_open 22 = .ok (.iconst 2, 1) := by decide +kernel
theorem dX6_open_23 : decode cX6_open 23 = .ok (.goto 17, 3) := by decide +kernel
theorem dX6_open_26 : decode cX6_open 26 = .ok (.aload_n 0, 1) := by decide +kernel
theorem dX6_open_27 : decode cX6_open 27 = .ok (.getfield 7, 3) := by decide +kernel
theorem dX6_open_30 : decode cX6_open 30 = .ok (.iload_n 1, 1) := by decide +kernel
theorem dX6_open_31 : decode cX6_open 31 = .ok (.iaload, 1) := by decide +kernel
theorem dX6_open_32 : decode cX6_open 32 = .ok (.ifCond .eq 7, 3) := by decide +kernel
theorem dX6_open_35 : decode cX6_open 35 = .ok (.iconst 3, 1) := by decide +kernel
theorem dX6_open_36 : decode cX6_open 36 = .ok (.goto 4, 3) := by decide +kernel
theorem dX6_open_39 : decode cX6_open 39 = .ok (.iconst 0, 1) := by decide +kernel
theorem dX6_open_40 : decode cX6_open 40 = .ok (.invokevirtual 84, 3) := by decide +kernel
theorem dX6_open_43 : decode cX6_open 43 = .ok (.ifCond .eq 4, 3) := by decide +kernel
theorem dX6_open_46 : decode cX6_open 46 = .ok (.return_, 1) := by decide +kernel
theorem dX6_open_47 : decode cX6_open 47 = .ok (.aload_n 0, 1) := by decide +kernel
theorem dX6_open_48 : decode cX6_open 48 = .ok (.getfield 7, 3) := by decide +kernel
theorem dX6_open_51 : decode cX6_open 51 = .ok (.iload_n 1, 1) := by decide +kernel
theorem dX6_open_52 : decode cX6_open 52 = .ok (.iload_n 2, 1) := by decide +kernel
theorem dX6_open_53 : decode cX6_open 53 = .ok (.iastore, 1) := by decide +kernel
theorem dX6_open_54 : decode cX6_open 54 = .ok (.aload_n 0, 1) := by decide +kernel
theorem dX6_open_55 : decode cX6_open 55 = .ok (.iconst 0, 1) := by decide +kernel
theorem dX6_open_56 : decode cX6_open 56 = .ok (.putfield 87, 3) := by decide +kernel
theorem dX6_open_59 : decode cX6_open 59 = .ok (.return_, 1) := by decide +kernel
theorem dX6_particle_0 : decode cX6_particle 0 = .ok (.aload_n 0, 1) := by decide +kernel
theorem dX6_particle_1 : decode cX6_particle 1 = .ok (.iload_n 1, 1) := by decide +kernel
theorem dX6_particle_2 : decode cX6_particle 2 = .ok (.invokevirtual 77, 3) := by decide +kernel
theorem dX6_particle_5 : decode cX6_particle 5 = .ok (.istore_n 3, 1) := by decide +kernel
theorem dX6_particle_6 : decode cX6_particle 6 = .ok (.iload_n 2, 1) := by decide +kernel
theorem dX6_particle_7 : decode cX6_particle 7 = .ok (.iconst 0, 1) := by decide +kernel
theorem dX6_particle_8 : decode cX6_particle 8 = .ok (.iconst 3, 1) := by decide +kernel
theorem dX6_particle_9 : decode cX6_particle 9 = .ok (.invokestatic 62, 3) := by decide +kernel
theorem dX6_particle_12 : decode cX6_particle 12 = .ok (.istore 4, 2) := by decide +kernel
theorem dX6_particle_14 : decode cX6_particle 14 = .ok (.aload_n 0, 1) := by decide +kernel
theorem dX6_particle_15 : decode cX6_particle 15 = .ok (.iload_n 3, 1) := by decide +kernel
theorem dX6_particle_16 : decode cX6_particle 16 = .ok (.ifCond .ne 7, 3) := by decide +kernel
theorem dX6_particle_19 : decode cX6_particle 19 = .ok (.iconst 1, 1) := by decide +kernel
theorem dX6_particle_20 : decode cX6_particle 20 = .ok (.goto 41, 3) := by decide +kernel
theorem dX6_particle_23 : decode cX6_particle 23 = .ok (.iload 4, 2) := by decide +kernel
theorem dX6_particle_25 : decode cX6_particle 25 = .ok (.ifCond .ne 7, 3) := by decide +kernel
theorem dX6_particle_28 : decode cX6_particle 28 = .ok (.iconst 2, 1) := by decide +kernel
theorem dX6_particle_29 : decode cX6_particle 29 = .ok (.goto 32, 3) := by decide +kernel
theorem dX6_particle_32 : decode cX6_particle 32 = .ok (.aload_n 0, 1) := by decide +kernel
theorem dX6_particle_33 : decode cX6_particle 33 = .ok (.getfield 7, 3) := by decide +kernel
theorem dX6_particle_36 : decode cX6_particle 36 = .ok (.iload_n 1, 1) := by decide +kernel
theorem dX6_particle_37 : decode cX6_particle 37 = .ok (.iaload, 1) := by decide +kernel
theorem dX6_particle_38 : decode cX6_particle 38 = .ok (.iconst 1, 1) := by decide +kernel
theorem dX6_particle_39 : decode cX6_particle 39 = .ok (.if_icmp .eq 17, 3) := by decide +kernel
theorem dX6_particle_42 : decode cX6_particle 42 = .ok (.aload_n 0, 1) := by decide +kernel
theorem dX6_particle_43 : decode cX6_particle 43 = .ok (.getfield 16, 3) := by decide +kernel
theorem dX6_particle_46 : decode cX6_particle 46 = .ok (.iload_n 1, 1) := by decide +kernel
theorem dX6_particle_47 : decode cX6_particle 47 = .ok (.iaload, 1) := by decide +kernel
theorem dX6_particle_48 : decode cX6_particle 48 = .ok (.iload_n 2, 1) := by decide +kernel
theorem dX6_particle_49 : decode cX6_particle 49 = .ok (.ishr, 1) := by decide +kernel
theorem dX6_particle_50 : decode cX6_particle 50 = .ok (.iconst 1, 1) := by decide +kernel
theorem dX6_particle_51 : decode cX6_particle 51 = .ok (.iand, 1) := by decide +kernel
theorem dX6_particle_52 : decode cX6_particle 52 = .ok (.iconst 1, 1) := by decide +kernel
theorem dX6_particle_53 : decode cX6_particle 53 = .ok (.if_icmp .ne 7, 3) := by decide +kernel
theorem dX6_particle_56 : decode cX6_particle 56 = .ok (.iconst 3, 1) := by decide +kernel
theorem dX6_particle_57 : decode cX6_particle 57 = .ok (.goto 4, 3) := by decide +kernel
theorem dX6_particle_60 : decode cX6_particle 60 = .ok (.iconst 0, 1) := by decide +kernel
theorem dX6_particle_61 : decode cX6_particle 61 = .ok (.invokevirtual 84, 3) := by decide +kernel
theorem dX6_particle_64 : decode cX6_particle 64 = .ok (.ifCond .eq 5, 3) := by decide +kernel
theorem dX6_particle_67 : decode cX6_particle 67 = .ok (.iconst 0, 1) := by decide +kernel
theorem dX6_particle_68 : decode cX6_particle 68 = .ok (.ireturn, 1) := by decide +kernel
theorem dX6_particle_69 : decode cX6_particle 69 = .ok (.aload_n 0, 1) := by decide +kernel
theorem dX6_particle_70 : decode cX6_particle 70 = .ok (.getfield 16, 3) := by decide +kernel
theorem dX6_particle_73 : decode cX6_particle 73 = .ok (.iload_n 1, 1) := by decide +kernel
theorem dX6_particle_74 : decode cX6_particle 74 = .ok (.dup2, 1) := by decide +kernel
theorem dX6_particle_75 : decode cX6_particle 75 = .ok (.iaload, 1) := by decide +kernel
theorem dX6_particle_76 : decode cX6_particle 76 = .ok (.iconst 1, 1) := by decide +kernel
theorem dX6_particle_77 : decode cX6_particle 77 = .ok (.iload_n 2, 1) := by decide +kernel
theorem dX6_particle_78 : decode cX6_particle 78 = .ok (.ishl, 1) := by decide +kernel
theorem dX6_particle_79 : decode cX6_particle 79 = .ok (.ior, 1) := by decide +kernel
theorem dX6_particle_80 : decode cX6_particle 80 = .ok (.iastore, 1) := by decide +kernel
theorem dX6_particle_81 : decode cX6_particle 81 = .ok (.aload_n 0, 1) := by decide +kernel
theorem dX6_particle_82 : decode cX6_particle 82 = .ok (.iconst 0, 1) := by decide +kernel
theorem dX6_particle_83 : decode cX6_particle 83 = .ok (.putfield 87, 3) := by decide +kernel
theorem dX6_particle_86 : decode cX6_particle 86 = .ok (.aload_n 0, 1) := by decide +kernel
theorem dX6_particle_87 : decode cX6_particle 87 = .ok (.getfield 16, 3) := by decide +kernel
theorem dX6_particle_90 : decode cX6_particle 90 = .ok (.iload_n 1, 1) := by decide +kernel
theorem dX6_particle_91 : decode cX6_particle 91 = .ok (.iaload, 1) := by decide +kernel
theorem dX6_particle_92 : decode cX6_particle 92 = .ok (.ireturn, 1) := by decide +kernel
theorem dX6_ink_0 : decode cX6_ink 0 = .ok (.aload_n 0, 1) := by decide +kernel
theorem dX6_ink_1 : decode cX6_ink 1 = .ok (.aload_n 0, 1) := by decide +kernel
theorem dX6_ink_2 : decode cX6_ink 2 = .ok (.iload_n 1, 1) := by decide +kernel
theorem dX6_ink_3 : decode cX6_ink 3 = .ok (.invokevirtual 77, 3) := by decide +kernel
theorem dX6_ink_6 : decode cX6_ink 6 = .ok (.ifCond .eq 7, 3) := by decide +kernel
theorem dX6_ink_9 : decode cX6_ink 9 = .ok (.iconst 0, 1) := by decide +kernel
theorem dX6_ink_10 : decode cX6_ink 10 = .ok (.goto 4, 3) := by decide +kernel
theorem dX6_ink_13 : decode cX6_ink 13 = .ok (.iconst 1, 1) := by decide +kernel
theorem dX6_ink_14 : decode cX6_ink 14 = .ok (.invokevirtual 84, 3) := by decide +kernel
theorem dX6_ink_17 : decode cX6_ink 17 = .ok (.ifCond .eq 5, 3) := by decide +kernel
theorem dX6_ink_20 : decode cX6_ink 20 = .ok (.iconst 0, 1) := by decide +kernel
theorem dX6_ink_21 : decode cX6_ink 21 = .ok (.ireturn, 1) := by decide +kernel
theorem dX6_ink_22 : decode cX6_ink 22 = .ok (.aload_n 0, 1) := by decide +kernel
theorem dX6_ink_23 : decode cX6_ink 23 = .ok (.getfield 16, 3) := by decide +kernel
theorem dX6_ink_26 : decode cX6_ink 26 = .ok (.iload_n 1, 1) := by decide +kernel
theorem dX6_ink_27 : decode cX6_ink 27 = .ok (.iaload, 1) := by decide +kernel
theorem dX6_ink_28 : decode cX6_ink 28 = .ok (.invokestatic 90, 3) := by decide +kernel
theorem dX6_ink_31 : decode cX6_ink 31 = .ok (.aload_n 0, 1) := by decide +kernel
theorem dX6_ink_32 : decode cX6_ink 32 = .ok (.getfield 19, 3) := by decide +kernel
theorem dX6_ink_35 : decode cX6_ink 35 = .ok (.iload_n 1, 1) := by decide +kernel
theorem dX6_ink_36 : decode cX6_ink 36 = .ok (.iaload, 1) := by decide +kernel
theorem dX6_ink_37 : decode cX6_ink 37 = .ok (.invokestatic 90, 3) := by decide +kernel
theorem dX6_ink_40 : decode cX6_ink 40 = .ok (.isub, 1) := by decide +kernel
theorem dX6_ink_41 : decode cX6_ink 41 = .ok (.istore_n 2, 1) := by decide +kernel
theorem dX6_ink_42 : decode cX6_ink 42 = .ok (.aload_n 0, 1) := by decide +kernel
theorem dX6_ink_43 : decode cX6_ink 43 = .ok (.getfield 19, 3) := by decide +kernel
theorem dX6_ink_46 : decode cX6_ink 46 = .ok (.iload_n 1, 1) := by decide +kernel
theorem dX6_ink_47 : decode cX6_ink 47 = .ok (.aload_n 0, 1) := by decide +kernel
theorem dX6_ink_48 : decode cX6_ink 48 = .ok (.getfield 16, 3) := by decide +kernel
theorem dX6_ink_51 : decode cX6_ink 51 = .ok (.iload_n 1, 1) := by decide +kernel
theorem dX6_ink_52 : decode cX6_ink 52 = .ok (.iaload, 1) := by decide +kernel
theorem dX6_ink_53 : decode cX6_ink 53 = .ok (.iastore, 1) := by decide +kernel
theorem dX6_ink_54 : decode cX6_ink 54 = .ok (.aload_n 0, 1) := by decide +kernel
theorem dX6_ink_55 : decode cX6_ink 55 = .ok (.iconst 0, 1) := by decide +kernel
theorem dX6_ink_56 : decode cX6_ink 56 = .ok (.putfield 87, 3) := by decide +kernel
theorem dX6_ink_59 : decode cX6_ink 59 = .ok (.iload_n 2, 1) := by decide +kernel
theorem dX6_ink_60 : decode cX6_ink 60 = .ok (.ireturn, 1) := by decide +kernel
theorem dX6_probe_0 : decode cX6_probe 0 = .ok (.aload_n 0, 1) := by decide +kernel
theorem dX6_probe_1 : decode cX6_probe 1 = .ok (.aload_n 0, 1) := by decide +kernel
theorem dX6_probe_2 : decode cX6_probe 2 = .ok (.iload_n 1, 1) := by decide +kernel
theorem dX6_probe_3 : decode cX6_probe 3 = .ok (.invokevirtual 77, 3) := by decide +kernel
theorem dX6_probe_6 : decode cX6_probe 6 = .ok (.ifCond .ne 7, 3) := by decide +kernel
theorem dX6_probe_9 : decode cX6_probe 9 = .ok (.iconst 1, 1) := by decide +kernel
theorem dX6_probe_10 : decode cX6_probe 10 = .ok (.goto 26, 3) := by decide +kernel
theorem dX6_probe_13 : decode cX6_probe 13 = .ok (.aload_n 0, 1) := by decide +kernel
theorem dX6_probe_14 : decode cX6_probe 14 = .ok (.getfield 7, 3) := by decide +kernel
theorem dX6_probe_17 : decode cX6_probe 17 = .ok (.iload_n 1, 1) := by decide +kernel
theorem dX6_probe_18 : decode cX6_probe 18 = .ok (.iaload, 1) := by decide +kernel
theorem dX6_probe_19 : decode cX6_probe 19 = .ok (.iconst 1, 1) := by decide +kernel
theorem dX6_probe_20 : decode cX6_probe 20 = .ok (.if_icmp .eq 11, 3) := by decide +kernel
theorem dX6_probe_23 : decode cX6_probe 23 = .ok (.aload_n 0, 1) := by decide +kernel
theorem dX6_probe_24 : decode cX6_probe 24 = .ok (.getfield 66, 3) := by decide +kernel
theorem dX6_probe_27 : decode cX6_probe 27 = .ok (.iconst 4, 1) := by decide +kernel
theorem dX6_probe_28 : decode cX6_probe 28 = .ok (.if_icmp .ne 7, 3) := by decide +kernel
theorem dX6_probe_31 : decode cX6_probe 31 = .ok (.iconst 2, 1) := by decide +kernel
theorem dX6_probe_32 : decode cX6_probe 32 = .ok (.goto 4, 3) := by decide +kernel
theorem dX6_probe_35 : decode cX6_probe 35 = .ok (.iconst 0, 1) := by decide +kernel
theorem dX6_probe_36 : decode cX6_probe 36 = .ok (.invokevirtual 84, 3) := by decide +kernel
theorem dX6_probe_39 : decode cX6_probe 39 = .ok (.ifCond .eq 5, 3) := by decide +kernel
theorem dX6_probe_42 : decode cX6_probe 42 = .ok (.iconst 0, 1) := by decide +kernel
theorem dX6_probe_43 : decode cX6_probe 43 = .ok (.ireturn, 1) := by decide +kernel
theorem dX6_probe_44 : decode cX6_probe 44 = .ok (.aload_n 0, 1) := by decide +kernel
theorem dX6_probe_45 : decode cX6_probe 45 = .ok (.getfield 49, 3) := by decide +kernel
theorem dX6_probe_48 : decode cX6_probe 48 = .ok (.aload_n 0, 1) := by decide +kernel
theorem dX6_probe_49 : decode cX6_probe 49 = .ok (.getfield 66, 3) := by decide +kernel
theorem dX6_probe_52 : decode cX6_probe 52 = .ok (.iload_n 1, 1) := by decide +kernel
theorem dX6_probe_53 : decode cX6_probe 53 = .ok (.iastore, 1) := by decide +kernel
theorem dX6_probe_54 : decode cX6_probe 54 = .ok (.aload_n 0, 1) := by decide +kernel
theorem dX6_probe_55 : decode cX6_probe 55 = .ok (.dup, 1) := by decide +kernel
theorem dX6_probe_56 : decode cX6_probe 56 = .ok (.getfield 66, 3) := by decide +kernel
theorem dX6_probe_59 : decode cX6_probe 59 = .ok (.iconst 1, 1) := by decide +kernel
theorem dX6_probe_60 : decode cX6_probe 60 = .ok (.iadd, 1) := by decide +kernel
theorem dX6_probe_61 : decode cX6_probe 61 = .ok (.putfield 66, 3) := by decide +kernel
theorem dX6_probe_64 : decode cX6_probe 64 = .ok (.aload_n 0, 1) := by decide +kernel
theorem dX6_probe_65 : decode cX6_probe 65 = .ok (.iconst 0, 1) := by decide +kernel
theorem dX6_probe_66 : decode cX6_probe 66 = .ok (.putfield 87, 3) := by decide +kernel
theorem dX6_probe_69 : decode cX6_probe 69 = .ok (.aload_n 0, 1) := by decide +kernel
theorem dX6_probe_70 : decode cX6_probe 70 = .ok (.getfield 66, 3) := by decide +kernel
theorem dX6_probe_73 : decode cX6_probe 73 = .ok (.iconst 1, 1) := by decide +kernel
theorem dX6_probe_74 : decode cX6_probe 74 = .ok (.isub, 1) := by decide +kernel
theorem dX6_probe_75 : decode cX6_probe 75 = .ok (.ireturn, 1) := by decide +kernel
theorem dX6_fault_0 : decode cX6_fault 0 = .ok (.aload_n 0, 1) := by decide +kernel
theorem dX6_fault_1 : decode cX6_fault 1 = .ok (.iload_n 1, 1) := by decide +kernel
theorem dX6_fault_2 : decode cX6_fault 2 = .ok (.iconst 0, 1) := by decide +kernel
theorem dX6_fault_3 : decode cX6_fault 3 = .ok (.iconst 3, 1) := by decide +kernel
theorem dX6_fault_4 : decode cX6_fault 4 = .ok (.invokestatic 62, 3) := by decide +kernel
theorem dX6_fault_7 : decode cX6_fault 7 = .ok (.ifCond .ne 7, 3) := by decide +kernel
theorem dX6_fault_10 : decode cX6_fault 10 = .ok (.iconst 1, 1) := by decide +kernel
theorem dX6_fault_11 : decode cX6_fault 11 = .ok (.goto 18, 3) := by decide +kernel
theorem dX6_fault_14 : decode cX6_fault 14 = .ok (.iload_n 2, 1) := by decide +kernel
theorem dX6_fault_15 : decode cX6_fault 15 = .ok (.bipush (-5), 2) := by decide +kernel
theorem dX6_fault_17 : decode cX6_fault 17 = .ok (.iconst 5, 1) := by decide +kernel
theorem dX6_fault_18 : decode cX6_fault 18 = .ok (.invokestatic 62, 3) := by decide +kernel
theorem dX6_fault_21 : decode cX6_fault 21 = .ok (.ifCond .ne 7, 3) := by decide +kernel
theorem dX6_fault_24 : decode cX6_fault 24 = .ok (.iconst 2, 1) := by decide +kernel
theorem dX6_fault_25 : decode cX6_fault 25 = .ok (.goto 4, 3) := by decide +kernel
theorem dX6_fault_28 : decode cX6_fault 28 = .ok (.iconst 0, 1) := by decide +kernel
theorem dX6_fault_29 : decode cX6_fault 29 = .ok (.invokevirtual 84, 3) := by decide +kernel
theorem dX6_fault_32 : decode cX6_fault 32 = .ok (.ifCond .eq 5, 3) := by decide +kernel
theorem dX6_fault_35 : decode cX6_fault 35 = .ok (.iconst 0, 1) := by decide +kernel
theorem dX6_fault_36 : decode cX6_fault 36 = .ok (.ireturn, 1) := by decide +kernel
theorem dX6_fault_37 : decode cX6_fault 37 = .ok (.aload_n 0, 1) := by decide +kernel
theorem dX6_fault_38 : decode cX6_fault 38 = .ok (.getfield 43, 3) := by decide +kernel
theorem dX6_fault_41 : decode cX6_fault 41 = .ok (.iload_n 1, 1) := by decide +kernel
theorem dX6_fault_42 : decode cX6_fault 42 = .ok (.iaload, 1) := by decide +kernel
theorem dX6_fault_43 : decode cX6_fault 43 = .ok (.istore_n 3, 1) := by decide +kernel
theorem dX6_fault_44 : decode cX6_fault 44 = .ok (.aload_n 0, 1) := by decide +kernel
theorem dX6_fault_45 : decode cX6_fault 45 = .ok (.getfield 43, 3) := by decide +kernel
theorem dX6_fault_48 : decode cX6_fault 48 = .ok (.iload_n 1, 1) := by decide +kernel
theorem dX6_fault_49 : decode cX6_fault 49 = .ok (.iload_n 2, 1) := by decide +kernel
theorem dX6_fault_50 : decode cX6_fault 50 = .ok (.iastore, 1) := by decide +kernel
theorem dX6_fault_51 : decode cX6_fault 51 = .ok (.iload_n 3, 1) := by decide +kernel
theorem dX6_fault_52 : decode cX6_fault 52 = .ok (.ireturn, 1) := by decide +kernel
theorem dX6_allCounts_0 : decode cX6_allCounts 0 = .ok (.lconst 0, 1) := by decide +kernel
theorem dX6_allCounts_1 : decode cX6_allCounts 1 = .ok (.lstore_n 1, 1) := by decide +kernel
theorem dX6_allCounts_2 : decode cX6_allCounts 2 = .ok (.iconst 0, 1) := by decide +kernel
theorem dX6_allCounts_3 : decode cX6_allCounts 3 = .ok (.istore_n 3, 1) := by decide +kernel
theorem dX6_allCounts_4 : decode cX6_allCounts 4 = .ok (.iload_n 3, 1) := by decide +kernel
theorem dX6_allCounts_5 : decode cX6_allCounts 5 = .ok (.sipush 384, 3) := by decide +kernel
theorem dX6_allCounts_8 : decode cX6_allCounts 8 = .ok (.if_icmp .ge 19, 3) := by decide +kernel
theorem dX6_allCounts_11 : decode cX6_allCounts 11 = .ok (.lload_n 1, 1) := by decide +kernel
theorem dX6_allCounts_12 : decode cX6_allCounts 12 = .ok (.aload_n 0, 1) := by decide +kernel
theorem dX6_allCounts_13 : decode cX6_allCounts 13 = .ok (.getfield 34, 3) := by decide +kernel
theorem dX6_allCounts_16 : decode cX6_allCounts 16 = .ok (.iload_n 3, 1) := by decide +kernel
theorem dX6_allCounts_17 : decode cX6_allCounts 17 = .ok (.iaload, 1) := by decide +kernel
theorem dX6_allCounts_18 : decode cX6_allCounts 18 = .ok (.i2l, 1) := by decide +kernel
theorem dX6_allCounts_19 : decode cX6_allCounts 19 = .ok (.ladd, 1) := by decide +kernel
theorem dX6_allCounts_20 : decode cX6_allCounts 20 = .ok (.lstore_n 1, 1) := by decide +kernel
theorem dX6_allCounts_21 : decode cX6_allCounts 21 = .ok (.iinc 3 1, 3) := by decide +kernel
theorem dX6_allCounts_24 : decode cX6_allCounts 24 = .ok (.goto (-20), 3) := by decide +kernel
theorem dX6_allCounts_27 : decode cX6_allCounts 27 = .ok (.lload_n 1, 1) := by decide +kernel
theorem dX6_allCounts_28 : decode cX6_allCounts 28 = .ok (.lreturn, 1) := by decide +kernel
theorem dX6_bring_0 : decode cX6_bring 0 = .ok (.iload_n 2, 1) := by decide +kernel
theorem dX6_bring_1 : decode cX6_bring 1 = .ok (.iconst 0, 1) := by decide +kernel
theorem dX6_bring_2 : decode cX6_bring 2 = .ok (.iconst 3, 1) := by decide +kernel
theorem dX6_bring_3 : decode cX6_bring 3 = .ok (.invokestatic 62, 3) := by decide +kernel
theorem dX6_bring_6 : decode cX6_bring 6 = .ok (.ifCond .eq 17, 3) := by decide +kernel
theorem dX6_bring_9 : decode cX6_bring 9 = .ok (.iload_n 3, 1) := by decide +kernel
theorem dX6_bring_10 : decode cX6_bring 10 = .ok (.iconst 1, 1) := by decide +kernel
theorem dX6_bring_11 : decode cX6_bring 11 = .ok (.ldc 93, 2) := by decide +kernel
theorem dX6_bring_13 : decode cX6_bring 13 = .ok (.invokestatic 62, 3) := by decide +kernel
theorem dX6_bring_16 : decode cX6_bring 16 = .ok (.ifCond .eq 7, 3) := by decide +kernel
theorem dX6_bring_19 : decode cX6_bring 19 = .ok (.iconst 1, 1) := by decide +kernel
theorem dX6_bring_20 : decode cX6_bring 20 = .ok (.goto 4, 3) := by decide +kernel
theorem dX6_bring_23 : decode cX6_bring 23 = .ok (.iconst 0, 1) := by decide +kernel
theorem dX6_bring_24 : decode cX6_bring 24 = .ok (.istore 4, 2) := by decide +kernel
theorem dX6_bring_26 : decode cX6_bring 26 = .ok (.aload_n 0, 1) := by decide +kernel
theorem dX6_bring_27 : decode cX6_bring 27 = .ok (.iload_n 1, 1) := by decide +kernel
theorem dX6_bring_28 : decode cX6_bring 28 = .ok (.invokevirtual 77, 3) := by decide +kernel
theorem dX6_bring_31 : decode cX6_bring 31 = .ok (.istore 5, 2) := by decide +kernel
theorem dX6_bring_33 : decode cX6_bring 33 = .ok (.aload_n 0, 1) := by decide +kernel
theorem dX6_bring_34 : decode cX6_bring 34 = .ok (.iload 5, 2) := by decide +kernel
theorem dX6_bring_36 : decode cX6_bring 36 = .ok (.ifCond .ne 7, 3) := by decide +kernel
theorem dX6_bring_39 : decode cX6_bring 39 = .ok (.iconst 1, 1) := by decide +kernel
theorem dX6_bring_40 : decode cX6_bring 40 = .ok (.goto 41, 3) := by decide +kernel
theorem dX6_bring_43 : decode cX6_bring 43 = .ok (.iload 4, 2) := by decide +kernel
theorem dX6_bring_45 : decode cX6_bring 45 = .ok (.ifCond .ne 7, 3) := by decide +kernel
theorem dX6_bring_48 : decode cX6_bring 48 = .ok (.iconst 2, 1) := by decide +kernel
theorem dX6_bring_49 : decode cX6_bring 49 = .ok (.goto 32, 3) := by decide +kernel
theorem dX6_bring_52 : decode cX6_bring 52 = .ok (.aload_n 0, 1) := by decide +kernel
theorem dX6_bring_53 : decode cX6_bring 53 = .ok (.getfield 7, 3) := by decide +kernel
theorem dX6_bring_56 : decode cX6_bring 56 = .ok (.iload_n 1, 1) := by decide +kernel
theorem dX6_bring_57 : decode cX6_bring 57 = .ok (.iaload, 1) := by decide +kernel
theorem dX6_bring_58 : decode cX6_bring 58 = .ok (.iconst 1, 1) := by decide +kernel
theorem dX6_bring_59 : decode cX6_bring 59 = .ok (.if_icmp .eq 17, 3) := by decide +kernel
theorem dX6_bring_62 : decode cX6_bring 62 = .ok (.aload_n 0, 1) := by decide +kernel
theorem dX6_bring_63 : decode cX6_bring 63 = .ok (.invokevirtual 94, 3) := by decide +kernel
theorem dX6_bring_66 : decode cX6_bring 66 = .ok (.iload_n 3, 1) := by decide +kernel
theorem dX6_bring_67 : decode cX6_bring 67 = .ok (.i2l, 1) := by decide +kernel
theorem dX6_bring_68 : decode cX6_bring 68 = .ok (.ladd, 1) := by decide +kernel
theorem dX6_bring_69 : decode cX6_bring 69 = .ok (.ldc2_w 98, 3) := by decide +kernel
theorem dX6_bring_72 : decode cX6_bring 72 = .ok (.lcmp, 1) := by decide +kernel
theorem dX6_bring_73 : decode cX6_bring 73 = .ok (.ifCond .le 7, 3) := by decide +kernel
theorem dX6_bring_76 : decode cX6_bring 76 = .ok (.iconst 3, 1) := by decide +kernel
theorem dX6_bring_77 : decode cX6_bring 77 = .ok (.goto 4, 3) := by decide +kernel
theorem dX6_bring_80 : decode cX6_bring 80 = .ok (.iconst 0, 1) := by decide +kernel
theorem dX6_bring_81 : decode cX6_bring 81 = .ok (.invokevirtual 84, 3) := by decide +kernel
theorem dX6_bring_84 : decode cX6_bring 84 = .ok (.ifCond .eq 5, 3) := by decide +kernel
theorem dX6_bring_87 : decode cX6_bring 87 = .ok (.iconst 0, 1) := by decide +kernel
theorem dX6_bring_88 : decode cX6_bring 88 = .ok (.ireturn, 1) := by decide +kernel
theorem dX6_bring_89 : decode cX6_bring 89 = .ok (.aload_n 0, 1) := by decide +kernel
theorem dX6_bring_90 : decode cX6_bring 90 = .ok (.getfield 34, 3) := by decide +kernel
theorem dX6_bring_93 : decode cX6_bring 93 = .ok (.iconst 4, 1) := by decide +kernel
theorem dX6_bring_94 : decode cX6_bring 94 = .ok (.iload_n 1, 1) := by decide +kernel
theorem dX6_bring_95 : decode cX6_bring 95 = .ok (.imul, 1) := by decide +kernel
theorem dX6_bring_96 : decode cX6_bring 96 = .ok (.iload_n 2, 1) := by decide +kernel
theorem dX6_bring_97 : decode cX6_bring 97 = .ok (.iadd, 1) := by decide +kernel
theorem dX6_bring_98 : decode cX6_bring 98 = .ok (.dup2, 1) := by decide +kernel
theorem dX6_bring_99 : decode cX6_bring 99 = .ok (.iaload, 1) := by decide +kernel
theorem dX6_bring_100 : decode cX6_bring 100 = .ok (.iload_n 3, 1) := by decide +kernel
theorem dX6_bring_101 : decode cX6_bring 101 = .ok (.iadd, 1) := by decide +kernel
theorem dX6_bring_102 : decode cX6_bring 102 = .ok (.iastore, 1) := by decide +kernel
theorem dX6_bring_103 : decode cX6_bring 103 = .ok (.aload_n 0, 1) := by decide +kernel
theorem dX6_bring_104 : decode cX6_bring 104 = .ok (.getfield 34, 3) := by decide +kernel
theorem dX6_bring_107 : decode cX6_bring 107 = .ok (.iconst 4, 1) := by decide +kernel
theorem dX6_bring_108 : decode cX6_bring 108 = .ok (.iload_n 1, 1) := by decide +kernel
theorem dX6_bring_109 : decode cX6_bring 109 = .ok (.imul, 1) := by decide +kernel
theorem dX6_bring_110 : decode cX6_bring 110 = .ok (.iload_n 2, 1) := by decide +kernel
theorem dX6_bring_111 : decode cX6_bring 111 = .ok (.iadd, 1) := by decide +kernel
theorem dX6_bring_112 : decode cX6_bring 112 = .ok (.iaload, 1) := by decide +kernel
theorem dX6_bring_113 : decode cX6_bring 113 = .ok (.ireturn, 1) := by decide +kernel
theorem dX6_turned_0 : decode cX6_turned 0 = .ok (.bipush 15, 2) := by decide +kernel
theorem dX6_turned_2 : decode cX6_turned 2 = .ok (.iload_n 0, 1) := by decide +kernel
theorem dX6_turned_3 : decode cX6_turned 3 = .ok (.iconst 1, 1) := by decide +kernel
theorem dX6_turned_4 : decode cX6_turned 4 = .ok (.ishl, 1) := by decide +kernel
theorem dX6_turned_5 : decode cX6_turned 5 = .ok (.iload_n 0, 1) := by decide +kernel
theorem dX6_turned_6 : decode cX6_turned 6 = .ok (.iconst 3, 1) := by decide +kernel
theorem dX6_turned_7 : decode cX6_turned 7 = .ok (.ishr, 1) := by decide +kernel
theorem dX6_turned_8 : decode cX6_turned 8 = .ok (.ior, 1) := by decide +kernel
theorem dX6_turned_9 : decode cX6_turned 9 = .ok (.iand, 1) := by decide +kernel
theorem dX6_turned_10 : decode cX6_turned 10 = .ok (.ireturn, 1) := by decide +kernel
theorem dX6_meets_0 : decode cX6_meets 0 = .ok (.iload_n 0, 1) := by decide +kernel
theorem dX6_meets_1 : decode cX6_meets 1 = .ok (.iconst 5, 1) := by decide +kernel
theorem dX6_meets_2 : decode cX6_meets 2 = .ok (.if_icmp .eq 9, 3) := by decide +kernel
theorem dX6_meets_5 : decode cX6_meets 5 = .ok (.iload_n 0, 1) := by decide +kernel
theorem dX6_meets_6 : decode cX6_meets 6 = .ok (.bipush 10, 2) := by decide +kernel
theorem dX6_meets_8 : decode cX6_meets 8 = .ok (.if_icmp .ne 7, 3) := by decide +kernel
theorem dX6_meets_11 : decode cX6_meets 11 = .ok (.iconst 1, 1) := by decide +kernel
theorem dX6_meets_12 : decode cX6_meets 12 = .ok (.goto 4, 3) := by decide +kernel
theorem dX6_meets_15 : decode cX6_meets 15 = .ok (.iconst 0, 1) := by decide +kernel
theorem dX6_meets_16 : decode cX6_meets 16 = .ok (.ireturn, 1) := by decide +kernel
end
section
theorem dX6_advance_0 : decode cX6_advance 0 = .ok (.aload_n 0, 1) := by decide +kernel
theorem dX6_advance_1 : decode cX6_advance 1 = .ok (.iconst 0, 1) := by decide +kernel
theorem dX6_advance_2 : decode cX6_advance 2 = .ok (.putfield 100, 3) := by decide +kernel
theorem dX6_advance_5 : decode cX6_advance 5 = .ok (.iconst 0, 1) := by decide +kernel
theorem dX6_advance_6 : decode cX6_advance 6 = .ok (.istore_n 3, 1) := by decide +kernel
theorem dX6_advance_7 : decode cX6_advance 7 = .ok (.iload_n 3, 1) := by decide +kernel
theorem dX6_advance_8 : decode cX6_advance 8 = .ok (.bipush 12, 2) := by decide +kernel
theorem dX6_advance_10 : decode cX6_advance 10 = .ok (.if_icmp .ge 16, 3) := by decide +kernel
theorem dX6_advance_13 : decode cX6_advance 13 = .ok (.aload_n 0, 1) := by decide +kernel
theorem dX6_advance_14 : decode cX6_advance 14 = .ok (.getfield 46, 3) := by decide +kernel
theorem dX6_advance_17 : decode cX6_advance 17 = .ok (.iload_n 3, 1) := by decide +kernel
theorem dX6_advance_18 : decode cX6_advance 18 = .ok (.iconst 0, 1) := by decide +kernel
theorem dX6_advance_19 : decode cX6_advance 19 = .ok (.iastore, 1) := by decide +kernel
theorem dX6_advance_20 : decode cX6_advance 20 = .ok (.iinc 3 1, 3) := by decide +kernel
theorem dX6_advance_23 : decode cX6_advance 23 = .ok (.goto (-16), 3) := by decide +kernel
theorem dX6_advance_26 : decode cX6_advance 26 = .ok (.iconst 0, 1) := by decide +kernel
theorem dX6_advance_27 : decode cX6_advance 27 = .ok (.istore_n 3, 1) := by decide +kernel
theorem dX6_advance_28 : decode cX6_advance 28 = .ok (.iload_n 3, 1) := by decide +kernel
theorem dX6_advance_29 : decode cX6_advance 29 = .ok (.bipush 96, 2) := by decide +kernel
theorem dX6_advance_31 : decode cX6_advance 31 = .ok (.if_icmp .ge 60, 3) := by decide +kernel
theorem dX6_advance_34 : decode cX6_advance 34 = .ok (.aload_n 1, 1) := by decide +kernel
theorem dX6_advance_35 : decode cX6_advance 35 = .ok (.iload_n 3, 1) := by decide +kernel
theorem dX6_advance_36 : decode cX6_advance 36 = .ok (.iaload, 1) := by decide +kernel
theorem dX6_advance_37 : decode cX6_advance 37 = .ok (.invokestatic 103, 3) := by decide +kernel
theorem dX6_advance_40 : decode cX6_advance 40 = .ok (.ifCond .eq 31, 3) := by decide +kernel
theorem dX6_advance_43 : decode cX6_advance 43 = .ok (.aload_n 1, 1) := by decide +kernel
theorem dX6_advance_44 : decode cX6_advance 44 = .ok (.iload_n 3, 1) := by decide +kernel
theorem dX6_advance_45 : decode cX6_advance 45 = .ok (.aload_n 1, 1) := by decide +kernel
theorem dX6_advance_46 : decode cX6_advance 46 = .ok (.iload_n 3, 1) := by decide +kernel
theorem dX6_advance_47 : decode cX6_advance 47 = .ok (.iaload, 1) := by decide +kernel
theorem dX6_advance_48 : decode cX6_advance 48 = .ok (.invokestatic 106, 3) := by decide +kernel
theorem dX6_advance_51 : decode cX6_advance 51 = .ok (.iastore, 1) := by decide +kernel
theorem dX6_advance_52 : decode cX6_advance 52 = .ok (.aload_n 2, 1) := by decide +kernel
theorem dX6_advance_53 : decode cX6_advance 53 = .ok (.iload_n 3, 1) := by decide +kernel
theorem dX6_advance_54 : decode cX6_advance 54 = .ok (.aload_n 2, 1) := by decide +kernel
theorem dX6_advance_55 : decode cX6_advance 55 = .ok (.iload_n 3, 1) := by decide +kernel
theorem dX6_advance_56 : decode cX6_advance 56 = .ok (.iaload, 1) := by decide +kernel
theorem dX6_advance_57 : decode cX6_advance 57 = .ok (.invokestatic 106, 3) := by decide +kernel
theorem dX6_advance_60 : decode cX6_advance 60 = .ok (.iastore, 1) := by decide +kernel
theorem dX6_advance_61 : decode cX6_advance 61 = .ok (.aload_n 0, 1) := by decide +kernel
theorem dX6_advance_62 : decode cX6_advance 62 = .ok (.dup, 1) := by decide +kernel
theorem dX6_advance_63 : decode cX6_advance 63 = .ok (.getfield 100, 3) := by decide +kernel
theorem dX6_advance_66 : decode cX6_advance 66 = .ok (.iconst 1, 1) := by decide +kernel
theorem dX6_advance_67 : decode cX6_advance 67 = .ok (.iadd, 1) := by decide +kernel
theorem dX6_advance_68 : decode cX6_advance 68 = .ok (.putfield 100, 3) := by decide +kernel
theorem dX6_advance_71 : decode cX6_advance 71 = .ok (.aload_n 0, 1) := by decide +kernel
theorem dX6_advance_72 : decode cX6_advance 72 = .ok (.getfield 22, 3) := by decide +kernel
theorem dX6_advance_75 : decode cX6_advance 75 = .ok (.iload_n 3, 1) := by decide +kernel
theorem dX6_advance_76 : decode cX6_advance 76 = .ok (.iconst 0, 1) := by decide +kernel
theorem dX6_advance_77 : decode cX6_advance 77 = .ok (.iastore, 1) := by decide +kernel
theorem dX6_advance_78 : decode cX6_advance 78 = .ok (.aload_n 0, 1) := by decide +kernel
theorem dX6_advance_79 : decode cX6_advance 79 = .ok (.getfield 25, 3) := by decide +kernel
theorem dX6_advance_82 : decode cX6_advance 82 = .ok (.iload_n 3, 1) := by decide +kernel
theorem dX6_advance_83 : decode cX6_advance 83 = .ok (.iconst 0, 1) := by decide +kernel
theorem dX6_advance_84 : decode cX6_advance 84 = .ok (.iastore, 1) := by decide +kernel
theorem dX6_advance_85 : decode cX6_advance 85 = .ok (.iinc 3 1, 3) := by decide +kernel
theorem dX6_advance_88 : decode cX6_advance 88 = .ok (.goto (-60), 3) := by decide +kernel
theorem dX6_advance_91 : decode cX6_advance 91 = .ok (.iconst 0, 1) := by decide +kernel
theorem dX6_advance_92 : decode cX6_advance 92 = .ok (.istore_n 3, 1) := by decide +kernel
theorem dX6_advance_93 : decode cX6_advance 93 = .ok (.iload_n 3, 1) := by decide +kernel
theorem dX6_advance_94 : decode cX6_advance 94 = .ok (.bipush 96, 2) := by decide +kernel
theorem dX6_advance_96 : decode cX6_advance 96 = .ok (.if_icmp .ge 125, 3) := by decide +kernel
theorem dX6_advance_99 : decode cX6_advance 99 = .ok (.iconst 0, 1) := by decide +kernel
theorem dX6_advance_100 : decode cX6_advance 100 = .ok (.istore 4, 2) := by decide +kernel
theorem dX6_advance_102 : decode cX6_advance 102 = .ok (.iload 4, 2) := by decide +kernel
theorem dX6_advance_104 : decode cX6_advance 104 = .ok (.iconst 4, 1) := by decide +kernel
theorem dX6_advance_105 : decode cX6_advance 105 = .ok (.if_icmp .ge 110, 3) := by decide +kernel
theorem dX6_advance_108 : decode cX6_advance 108 = .ok (.aload_n 1, 1) := by decide +kernel
theorem dX6_advance_109 : decode cX6_advance 109 = .ok (.iload_n 3, 1) := by decide +kernel
theorem dX6_advance_110 : decode cX6_advance 110 = .ok (.iaload, 1) := by decide +kernel
theorem dX6_advance_111 : decode cX6_advance 111 = .ok (.iload 4, 2) := by decide +kernel
theorem dX6_advance_113 : decode cX6_advance 113 = .ok (.ishr, 1) := by decide +kernel
theorem dX6_advance_114 : decode cX6_advance 114 = .ok (.iconst 1, 1) := by decide +kernel
theorem dX6_advance_115 : decode cX6_advance 115 = .ok (.iand, 1) := by decide +kernel
theorem dX6_advance_116 : decode cX6_advance 116 = .ok (.iconst 1, 1) := by decide +kernel
theorem dX6_advance_117 : decode cX6_advance 117 = .ok (.if_icmp .ne 92, 3) := by decide +kernel
theorem dX6_advance_120 : decode cX6_advance 120 = .ok (.iload_n 3, 1) := by decide +kernel
theorem dX6_advance_121 : decode cX6_advance 121 = .ok (.iload 4, 2) := by decide +kernel
theorem dX6_advance_123 : decode cX6_advance 123 = .ok (.invokestatic 109, 3) := by decide +kernel
theorem dX6_advance_126 : decode cX6_advance 126 = .ok (.istore 5, 2) := by decide +kernel
theorem dX6_advance_128 : decode cX6_advance 128 = .ok (.aload_n 0, 1) := by decide +kernel
theorem dX6_advance_129 : decode cX6_advance 129 = .ok (.iload 5, 2) := by decide +kernel
theorem dX6_advance_131 : decode cX6_advance 131 = .ok (.invokevirtual 113, 3) := by decide +kernel
theorem dX6_advance_134 : decode cX6_advance 134 = .ok (.ifCond .eq 7, 3) := by decide +kernel
theorem dX6_advance_137 : decode cX6_advance 137 = .ok (.iload_n 3, 1) := by decide +kernel
theorem dX6_advance_138 : decode cX6_advance 138 = .ok (.goto 5, 3) := by decide +kernel
theorem dX6_advance_141 : decode cX6_advance 141 = .ok (.iload 5, 2) := by decide +kernel
theorem dX6_advance_143 : decode cX6_advance 143 = .ok (.istore 6, 2) := by decide +kernel
theorem dX6_advance_145 : decode cX6_advance 145 = .ok (.aload_n 0, 1) := by decide +kernel
theorem dX6_advance_146 : decode cX6_advance 146 = .ok (.iload 5, 2) := by decide +kernel
theorem dX6_advance_148 : decode cX6_advance 148 = .ok (.invokevirtual 113, 3) := by decide +kernel
theorem dX6_advance_151 : decode cX6_advance 151 = .ok (.ifCond .eq 11, 3) := by decide +kernel
theorem dX6_advance_154 : decode cX6_advance 154 = .ok (.iload 4, 2) := by decide +kernel
theorem dX6_advance_156 : decode cX6_advance 156 = .ok (.invokestatic 116, 3) := by decide +kernel
theorem dX6_advance_159 : decode cX6_advance 159 = .ok (.goto 5, 3) := by decide +kernel
theorem dX6_advance_162 : decode cX6_advance 162 = .ok (.iload 4, 2) := by decide +kernel
theorem dX6_advance_164 : decode cX6_advance 164 = .ok (.istore 7, 2) := by decide +kernel
theorem dX6_advance_166 : decode cX6_advance 166 = .ok (.aload_n 0, 1) := by decide +kernel
theorem dX6_advance_167 : decode cX6_advance 167 = .ok (.getfield 22, 3) := by decide +kernel
theorem dX6_advance_170 : decode cX6_advance 170 = .ok (.iload 6, 2) := by decide +kernel
theorem dX6_advance_172 : decode cX6_advance 172 = .ok (.dup2, 1) := by decide +kernel
theorem dX6_advance_173 : decode cX6_advance 173 = .ok (.iaload, 1) := by decide +kernel
theorem dX6_advance_174 : decode cX6_advance 174 = .ok (.iconst 1, 1) := by decide +kernel
theorem dX6_advance_175 : decode cX6_advance 175 = .ok (.iload 7, 2) := by decide +kernel
theorem dX6_advance_177 : decode cX6_advance 177 = .ok (.ishl, 1) := by decide +kernel
theorem dX6_advance_178 : decode cX6_advance 178 = .ok (.ior, 1) := by decide +kernel
theorem dX6_advance_179 : decode cX6_advance 179 = .ok (.iastore, 1) := by decide +kernel
theorem dX6_advance_180 : decode cX6_advance 180 = .ok (.aload_n 0, 1) := by decide +kernel
theorem dX6_advance_181 : decode cX6_advance 181 = .ok (.getfield 25, 3) := by decide +kernel
theorem dX6_advance_184 : decode cX6_advance 184 = .ok (.iload 6, 2) := by decide +kernel
theorem dX6_advance_186 : decode cX6_advance 186 = .ok (.dup2, 1) := by decide +kernel
theorem dX6_advance_187 : decode cX6_advance 187 = .ok (.iaload, 1) := by decide +kernel
theorem dX6_advance_188 : decode cX6_advance 188 = .ok (.aload_n 2, 1) := by decide +kernel
theorem dX6_advance_189 : decode cX6_advance 189 = .ok (.iload_n 3, 1) := by decide +kernel
theorem dX6_advance_190 : decode cX6_advance 190 = .ok (.iaload, 1) := by decide +kernel
theorem dX6_advance_191 : decode cX6_advance 191 = .ok (.iload 4, 2) := by decide +kernel
theorem dX6_advance_193 : decode cX6_advance 193 = .ok (.ishr, 1) := by decide +kernel
theorem dX6_advance_194 : decode cX6_advance 194 = .ok (.iconst 1, 1) := by decide +kernel
theorem dX6_advance_195 : decode cX6_advance 195 = .ok (.iand, 1) := by decide +kernel
theorem dX6_advance_196 : decode cX6_advance 196 = .ok (.iload 7, 2) := by decide +kernel
theorem dX6_advance_198 : decode cX6_advance 198 = .ok (.ishl, 1) := by decide +kernel
theorem dX6_advance_199 : decode cX6_advance 199 = .ok (.ior, 1) := by decide +kernel
theorem dX6_advance_200 : decode cX6_advance 200 = .ok (.iastore, 1) := by decide +kernel
theorem dX6_advance_201 : decode cX6_advance 201 = .ok (.aload_n 0, 1) := by decide +kernel
theorem dX6_advance_202 : decode cX6_advance 202 = .ok (.iload 5, 2) := by decide +kernel
theorem dX6_advance_204 : decode cX6_advance 204 = .ok (.iload 4, 2) := by decide +kernel
theorem dX6_advance_206 : decode cX6_advance 206 = .ok (.invokevirtual 119, 3) := by decide +kernel
theorem dX6_advance_209 : decode cX6_advance 209 = .ok (.iinc 4 1, 3) := by decide +kernel
theorem dX6_advance_212 : decode cX6_advance 212 = .ok (.goto (-110), 3) := by decide +kernel
theorem dX6_advance_215 : decode cX6_advance 215 = .ok (.iinc 3 1, 3) := by decide +kernel
theorem dX6_advance_218 : decode cX6_advance 218 = .ok (.goto (-125), 3) := by decide +kernel
theorem dX6_advance_221 : decode cX6_advance 221 = .ok (.iconst 0, 1) := by decide +kernel
theorem dX6_advance_222 : decode cX6_advance 222 = .ok (.istore_n 3, 1) := by decide +kernel
theorem dX6_advance_223 : decode cX6_advance 223 = .ok (.iload_n 3, 1) := by decide +kernel
theorem dX6_advance_224 : decode cX6_advance 224 = .ok (.bipush 96, 2) := by decide +kernel
theorem dX6_advance_226 : decode cX6_advance 226 = .ok (.if_icmp .ge 76, 3) := by decide +kernel
theorem dX6_advance_229 : decode cX6_advance 229 = .ok (.aload_n 1, 1) := by decide +kernel
theorem dX6_advance_230 : decode cX6_advance 230 = .ok (.iload_n 3, 1) := by decide +kernel
theorem dX6_advance_231 : decode cX6_advance 231 = .ok (.aload_n 0, 1) := by decide +kernel
theorem dX6_advance_232 : decode cX6_advance 232 = .ok (.getfield 7, 3) := by decide +kernel
theorem dX6_advance_235 : decode cX6_advance 235 = .ok (.iload_n 3, 1) := by decide +kernel
theorem dX6_advance_236 : decode cX6_advance 236 = .ok (.iaload, 1) := by decide +kernel
theorem dX6_advance_237 : decode cX6_advance 237 = .ok (.iconst 3, 1) := by decide +kernel
theorem dX6_advance_238 : decode cX6_advance 238 = .ok (.if_icmp .ne 7, 3) := by decide +kernel
theorem dX6_advance_241 : decode cX6_advance 241 = .ok (.iconst 0, 1) := by decide +kernel
theorem dX6_advance_242 : decode cX6_advance 242 = .ok (.goto 30, 3) := by decide +kernel
theorem dX6_advance_245 : decode cX6_advance 245 = .ok (.aload_n 0, 1) := by decide +kernel
theorem dX6_advance_246 : decode cX6_advance 246 = .ok (.getfield 7, 3) := by decide +kernel
theorem dX6_advance_249 : decode cX6_advance 249 = .ok (.iload_n 3, 1) := by decide +kernel
theorem dX6_advance_250 : decode cX6_advance 250 = .ok (.iaload, 1) := by decide +kernel
theorem dX6_advance_251 : decode cX6_advance 251 = .ok (.iconst 2, 1) := by decide +kernel
theorem dX6_advance_252 : decode cX6_advance 252 = .ok (.if_icmp .ne 14, 3) := by decide +kernel
theorem dX6_advance_255 : decode cX6_advance 255 = .ok (.aload_n 0, 1) := by decide +kernel
theorem dX6_advance_256 : decode cX6_advance 256 = .ok (.getfield 22, 3) := by decide +kernel
theorem dX6_advance_259 : decode cX6_advance 259 = .ok (.iload_n 3, 1) := by decide +kernel
theorem dX6_advance_260 : decode cX6_advance 260 = .ok (.iaload, 1) := by decide +kernel
theorem dX6_advance_261 : decode cX6_advance 261 = .ok (.iconst 1, 1) := by decide +kernel
theorem dX6_advance_262 : decode cX6_advance 262 = .ok (.ior, 1) := by decide +kernel
theorem dX6_advance_263 : decode cX6_advance 263 = .ok (.goto 9, 3) := by decide +kernel
theorem dX6_advance_266 : decode cX6_advance 266 = .ok (.aload_n 0, 1) := by decide +kernel
theorem dX6_advance_267 : decode cX6_advance 267 = .ok (.getfield 22, 3) := by decide +kernel
theorem dX6_advance_270 : decode cX6_advance 270 = .ok (.iload_n 3, 1) := by decide +kernel
theorem dX6_advance_271 : decode cX6_advance 271 = .ok (.iaload, 1) := by decide +kernel
theorem dX6_advance_272 : decode cX6_advance 272 = .ok (.iastore, 1) := by decide +kernel
theorem dX6_advance_273 : decode cX6_advance 273 = .ok (.aload_n 2, 1) := by decide +kernel
theorem dX6_advance_274 : decode cX6_advance 274 = .ok (.iload_n 3, 1) := by decide +kernel
theorem dX6_advance_275 : decode cX6_advance 275 = .ok (.aload_n 0, 1) := by decide +kernel
theorem dX6_advance_276 : decode cX6_advance 276 = .ok (.getfield 7, 3) := by decide +kernel
theorem dX6_advance_279 : decode cX6_advance 279 = .ok (.iload_n 3, 1) := by decide +kernel
theorem dX6_advance_280 : decode cX6_advance 280 = .ok (.iaload, 1) := by decide +kernel
theorem dX6_advance_281 : decode cX6_advance 281 = .ok (.iconst 3, 1) := by decide +kernel
theorem dX6_advance_282 : decode cX6_advance 282 = .ok (.if_icmp .ne 7, 3) := by decide +kernel
theorem dX6_advance_285 : decode cX6_advance 285 = .ok (.iconst 0, 1) := by decide +kernel
theorem dX6_advance_286 : decode cX6_advance 286 = .ok (.goto 9, 3) := by decide +kernel
theorem dX6_advance_289 : decode cX6_advance 289 = .ok (.aload_n 0, 1) := by decide +kernel
theorem dX6_advance_290 : decode cX6_advance 290 = .ok (.getfield 25, 3) := by decide +kernel
theorem dX6_advance_293 : decode cX6_advance 293 = .ok (.iload_n 3, 1) := by decide +kernel
theorem dX6_advance_294 : decode cX6_advance 294 = .ok (.iaload, 1) := by decide +kernel
theorem dX6_advance_295 : decode cX6_advance 295 = .ok (.iastore, 1) := by decide +kernel
theorem dX6_advance_296 : decode cX6_advance 296 = .ok (.iinc 3 1, 3) := by decide +kernel
theorem dX6_advance_299 : decode cX6_advance 299 = .ok (.goto (-76), 3) := by decide +kernel
theorem dX6_advance_302 : decode cX6_advance 302 = .ok (.return_, 1) := by decide +kernel
theorem dX6_hit_0 : decode cX6_hit 0 = .ok (.iload_n 1, 1) := by decide +kernel
theorem dX6_hit_1 : decode cX6_hit 1 = .ok (.iconst (-1), 1) := by decide +kernel
theorem dX6_hit_2 : decode cX6_hit 2 = .ok (.if_icmp .eq 103, 3) := by decide +kernel
theorem dX6_hit_5 : decode cX6_hit 5 = .ok (.aload_n 0, 1) := by decide +kernel
theorem dX6_hit_6 : decode cX6_hit 6 = .ok (.getfield 7, 3) := by decide +kernel
theorem dX6_hit_9 : decode cX6_hit 9 = .ok (.iload_n 1, 1) := by decide +kernel
theorem dX6_hit_10 : decode cX6_hit 10 = .ok (.iaload, 1) := by decide +kernel
theorem dX6_hit_11 : decode cX6_hit 11 = .ok (.iconst 1, 1) := by decide +kernel
theorem dX6_hit_12 : decode cX6_hit 12 = .ok (.if_icmp .ne 93, 3) := by decide +kernel
theorem dX6_hit_15 : decode cX6_hit 15 = .ok (.aload_n 0, 1) := by decide +kernel
theorem dX6_hit_16 : decode cX6_hit 16 = .ok (.getfield 13, 3) := by decide +kernel
theorem dX6_hit_19 : decode cX6_hit 19 = .ok (.iload_n 1, 1) := by decide +kernel
theorem dX6_hit_20 : decode cX6_hit 20 = .ok (.iaload, 1) := by decide +kernel
theorem dX6_hit_21 : decode cX6_hit 21 = .ok (.iconst (-1), 1) := by decide +kernel
theorem dX6_hit_22 : decode cX6_hit 22 = .ok (.if_icmp .eq 83, 3) := by decide +kernel
theorem dX6_hit_25 : decode cX6_hit 25 = .ok (.iconst 3, 1) := by decide +kernel
theorem dX6_hit_26 : decode cX6_hit 26 = .ok (.aload_n 0, 1) := by decide +kernel
theorem dX6_hit_27 : decode cX6_hit 27 = .ok (.getfield 13, 3) := by decide +kernel
theorem dX6_hit_30 : decode cX6_hit 30 = .ok (.iload_n 1, 1) := by decide +kernel
theorem dX6_hit_31 : decode cX6_hit 31 = .ok (.iaload, 1) := by decide +kernel
theorem dX6_hit_32 : decode cX6_hit 32 = .ok (.imul, 1) := by decide +kernel
theorem dX6_hit_33 : decode cX6_hit 33 = .ok (.istore_n 3, 1) := by decide +kernel
theorem dX6_hit_34 : decode cX6_hit 34 = .ok (.aload_n 0, 1) := by decide +kernel
theorem dX6_hit_35 : decode cX6_hit 35 = .ok (.getfield 46, 3) := by decide +kernel
theorem dX6_hit_38 : decode cX6_hit 38 = .ok (.iload_n 3, 1) := by decide +kernel
theorem dX6_hit_39 : decode cX6_hit 39 = .ok (.dup2, 1) := by decide +kernel
theorem dX6_hit_40 : decode cX6_hit 40 = .ok (.iaload, 1) := by decide +kernel
theorem dX6_hit_41 : decode cX6_hit 41 = .ok (.iconst 1, 1) := by decide +kernel
theorem dX6_hit_42 : decode cX6_hit 42 = .ok (.iadd, 1) := by decide +kernel
theorem dX6_hit_43 : decode cX6_hit 43 = .ok (.iastore, 1) := by decide +kernel
theorem dX6_hit_44 : decode cX6_hit 44 = .ok (.aload_n 0, 1) := by decide +kernel
theorem dX6_hit_45 : decode cX6_hit 45 = .ok (.getfield 46, 3) := by decide +kernel
theorem dX6_hit_48 : decode cX6_hit 48 = .ok (.iload_n 3, 1) := by decide +kernel
theorem dX6_hit_49 : decode cX6_hit 49 = .ok (.iconst 1, 1) := by decide +kernel
theorem dX6_hit_50 : decode cX6_hit 50 = .ok (.iadd, 1) := by decide +kernel
theorem dX6_hit_51 : decode cX6_hit 51 = .ok (.dup2, 1) := by decide +kernel
theorem dX6_hit_52 : decode cX6_hit 52 = .ok (.iaload, 1) := by decide +kernel
theorem dX6_hit_53 : decode cX6_hit 53 = .ok (.iload_n 2, 1) := by decide +kernel
theorem dX6_hit_54 : decode cX6_hit 54 = .ok (.ifCond .ne 7, 3) := by decide +kernel
theorem dX6_hit_57 : decode cX6_hit 57 = .ok (.iconst 2, 1) := by decide +kernel
theorem dX6_hit_58 : decode cX6_hit 58 = .ok (.goto 14, 3) := by decide +kernel
theorem dX6_hit_61 : decode cX6_hit 61 = .ok (.iload_n 2, 1) := by decide +kernel
theorem dX6_hit_62 : decode cX6_hit 62 = .ok (.iconst 2, 1) := by decide +kernel
theorem dX6_hit_63 : decode cX6_hit 63 = .ok (.if_icmp .ne 8, 3) := by decide +kernel
theorem dX6_hit_66 : decode cX6_hit 66 = .ok (.bipush (-2), 2) := by decide +kernel
theorem dX6_hit_68 : decode cX6_hit 68 = .ok (.goto 4, 3) := by decide +kernel
theorem dX6_hit_71 : decode cX6_hit 71 = .ok (.iconst 0, 1) := by decide +kernel
theorem dX6_hit_72 : decode cX6_hit 72 = .ok (.iadd, 1) := by decide +kernel
theorem dX6_hit_73 : decode cX6_hit 73 = .ok (.iastore, 1) := by decide +kernel
theorem dX6_hit_74 : decode cX6_hit 74 = .ok (.aload_n 0, 1) := by decide +kernel
theorem dX6_hit_75 : decode cX6_hit 75 = .ok (.getfield 46, 3) := by decide +kernel
theorem dX6_hit_78 : decode cX6_hit 78 = .ok (.iload_n 3, 1) := by decide +kernel
theorem dX6_hit_79 : decode cX6_hit 79 = .ok (.iconst 2, 1) := by decide +kernel
theorem dX6_hit_80 : decode cX6_hit 80 = .ok (.iadd, 1) := by decide +kernel
theorem dX6_hit_81 : decode cX6_hit 81 = .ok (.dup2, 1) := by decide +kernel
theorem dX6_hit_82 : decode cX6_hit 82 = .ok (.iaload, 1) := by decide +kernel
theorem dX6_hit_83 : decode cX6_hit 83 = .ok (.iload_n 2, 1) := by decide +kernel
theorem dX6_hit_84 : decode cX6_hit 84 = .ok (.iconst 1, 1) := by decide +kernel
theorem dX6_hit_85 : decode cX6_hit 85 = .ok (.if_icmp .ne 7, 3) := by decide +kernel
theorem dX6_hit_88 : decode cX6_hit 88 = .ok (.iconst 2, 1) := by decide +kernel
theorem dX6_hit_89 : decode cX6_hit 89 = .ok (.goto 14, 3) := by decide +kernel
theorem dX6_hit_92 : decode cX6_hit 92 = .ok (.iload_n 2, 1) := by decide +kernel
theorem dX6_hit_93 : decode cX6_hit 93 = .ok (.iconst 3, 1) := by decide +kernel
theorem dX6_hit_94 : decode cX6_hit 94 = .ok (.if_icmp .ne 8, 3) := by decide +kernel
theorem dX6_hit_97 : decode cX6_hit 97 = .ok (.bipush (-2), 2) := by decide +kernel
theorem dX6_hit_99 : decode cX6_hit 99 = .ok (.goto 4, 3) := by decide +kernel
theorem dX6_hit_102 : decode cX6_hit 102 = .ok (.iconst 0, 1) := by decide +kernel
theorem dX6_hit_103 : decode cX6_hit 103 = .ok (.iadd, 1) := by decide +kernel
theorem dX6_hit_104 : decode cX6_hit 104 = .ok (.iastore, 1) := by decide +kernel
theorem dX6_hit_105 : decode cX6_hit 105 = .ok (.return_, 1) := by decide +kernel
theorem dX6_hasOpen_0 : decode cX6_hasOpen 0 = .ok (.iconst 0, 1) := by decide +kernel
theorem dX6_hasOpen_1 : decode cX6_hasOpen 1 = .ok (.istore_n 1, 1) := by decide +kernel
theorem dX6_hasOpen_2 : decode cX6_hasOpen 2 = .ok (.iconst 0, 1) := by decide +kernel
theorem dX6_hasOpen_3 : decode cX6_hasOpen 3 = .ok (.istore_n 2, 1) := by decide +kernel
theorem dX6_hasOpen_4 : decode cX6_hasOpen 4 = .ok (.iload_n 2, 1) := by decide +kernel
theorem dX6_hasOpen_5 : decode cX6_hasOpen 5 = .ok (.bipush 96, 2) := by decide +kernel
theorem dX6_hasOpen_7 : decode cX6_hasOpen 7 = .ok (.if_icmp .ge 39, 3) := by decide +kernel
theorem dX6_hasOpen_10 : decode cX6_hasOpen 10 = .ok (.iload_n 1, 1) := by decide +kernel
theorem dX6_hasOpen_11 : decode cX6_hasOpen 11 = .ok (.ifCond .ne 23, 3) := by decide +kernel
theorem dX6_hasOpen_14 : decode cX6_hasOpen 14 = .ok (.aload_n 0, 1) := by decide +kernel
theorem dX6_hasOpen_15 : decode cX6_hasOpen 15 = .ok (.getfield 7, 3) := by decide +kernel
theorem dX6_hasOpen_18 : decode cX6_hasOpen 18 = .ok (.iload_n 2, 1) := by decide +kernel
theorem dX6_hasOpen_19 : decode cX6_hasOpen 19 = .ok (.iaload, 1) := by decide +kernel
theorem dX6_hasOpen_20 : decode cX6_hasOpen 20 = .ok (.iconst 2, 1) := by decide +kernel
theorem dX6_hasOpen_21 : decode cX6_hasOpen 21 = .ok (.if_icmp .eq 13, 3) := by decide +kernel
theorem dX6_hasOpen_24 : decode cX6_hasOpen 24 = .ok (.aload_n 0, 1) := by decide +kernel
theorem dX6_hasOpen_25 : decode cX6_hasOpen 25 = .ok (.getfield 7, 3) := by decide +kernel
theorem dX6_hasOpen_28 : decode cX6_hasOpen 28 = .ok (.iload_n 2, 1) := by decide +kernel
theorem dX6_hasOpen_29 : decode cX6_hasOpen 29 = .ok (.iaload, 1) := by decide +kernel
theorem dX6_hasOpen_30 : decode cX6_hasOpen 30 = .ok (.iconst 3, 1) := by decide +kernel
theorem dX6_hasOpen_31 : decode cX6_hasOpen 31 = .ok (.if_icmp .ne 7, 3) := by decide +kernel
theorem dX6_hasOpen_34 : decode cX6_hasOpen 34 = .ok (.iconst 1, 1) := by decide +kernel
theorem dX6_hasOpen_35 : decode cX6_hasOpen 35 = .ok (.goto 4, 3) := by decide +kernel
theorem dX6_hasOpen_38 : decode cX6_hasOpen 38 = .ok (.iconst 0, 1) := by decide +kernel
theorem dX6_hasOpen_39 : decode cX6_hasOpen 39 = .ok (.istore_n 1, 1) := by decide +kernel
theorem dX6_hasOpen_40 : decode cX6_hasOpen 40 = .ok (.iinc 2 1, 3) := by decide +kernel
theorem dX6_hasOpen_43 : decode cX6_hasOpen 43 = .ok (.goto (-39), 3) := by decide +kernel
theorem dX6_hasOpen_46 : decode cX6_hasOpen 46 = .ok (.iload_n 1, 1) := by decide +kernel
theorem dX6_hasOpen_47 : decode cX6_hasOpen 47 = .ok (.ireturn, 1) := by decide +kernel
theorem dX6_step_0 : decode cX6_step 0 = .ok (.aload_n 0, 1) := by decide +kernel
theorem dX6_step_1 : decode cX6_step 1 = .ok (.iload_n 1, 1) := by decide +kernel
theorem dX6_step_2 : decode cX6_step 2 = .ok (.iconst 1, 1) := by decide +kernel
theorem dX6_step_3 : decode cX6_step 3 = .ok (.sipush 200, 3) := by decide +kernel
theorem dX6_step_6 : decode cX6_step 6 = .ok (.invokestatic 62, 3) := by decide +kernel
theorem dX6_step_9 : decode cX6_step 9 = .ok (.ifCond .ne 7, 3) := by decide +kernel
theorem dX6_step_12 : decode cX6_step 12 = .ok (.iconst 1, 1) := by decide +kernel
theorem dX6_step_13 : decode cX6_step 13 = .ok (.goto 20, 3) := by decide +kernel
theorem dX6_step_16 : decode cX6_step 16 = .ok (.aload_n 0, 1) := by decide +kernel
theorem dX6_step_17 : decode cX6_step 17 = .ok (.getfield 123, 3) := by decide +kernel
theorem dX6_step_20 : decode cX6_step 20 = .ok (.iload_n 1, 1) := by decide +kernel
theorem dX6_step_21 : decode cX6_step 21 = .ok (.iadd, 1) := by decide +kernel
theorem dX6_step_22 : decode cX6_step 22 = .ok (.sipush 5000, 3) := by decide +kernel
theorem dX6_step_25 : decode cX6_step 25 = .ok (.if_icmp .le 7, 3) := by decide +kernel
theorem dX6_step_28 : decode cX6_step 28 = .ok (.iconst 2, 1) := by decide +kernel
theorem dX6_step_29 : decode cX6_step 29 = .ok (.goto 4, 3) := by decide +kernel
theorem dX6_step_32 : decode cX6_step 32 = .ok (.iconst 0, 1) := by decide +kernel
theorem dX6_step_33 : decode cX6_step 33 = .ok (.invokevirtual 84, 3) := by decide +kernel
theorem dX6_step_36 : decode cX6_step 36 = .ok (.ifCond .eq 5, 3) := by decide +kernel
theorem dX6_step_39 : decode cX6_step 39 = .ok (.iconst 0, 1) := by decide +kernel
theorem dX6_step_40 : decode cX6_step 40 = .ok (.ireturn, 1) := by decide +kernel
theorem dX6_step_41 : decode cX6_step 41 = .ok (.aload_n 0, 1) := by decide +kernel
theorem dX6_step_42 : decode cX6_step 42 = .ok (.invokevirtual 126, 3) := by decide +kernel
theorem dX6_step_45 : decode cX6_step 45 = .ok (.istore_n 2, 1) := by decide +kernel
theorem dX6_step_46 : decode cX6_step 46 = .ok (.iconst 0, 1) := by decide +kernel
theorem dX6_step_47 : decode cX6_step 47 = .ok (.istore_n 3, 1) := by decide +kernel
theorem dX6_step_48 : decode cX6_step 48 = .ok (.iload_n 3, 1) := by decide +kernel
theorem dX6_step_49 : decode cX6_step 49 = .ok (.iload_n 1, 1) := by decide +kernel
theorem dX6_step_50 : decode cX6_step 50 = .ok (.if_icmp .ge 171, 3) := by decide +kernel
theorem dX6_step_53 : decode cX6_step 53 = .ok (.aload_n 0, 1) := by decide +kernel
theorem dX6_step_54 : decode cX6_step 54 = .ok (.aload_n 0, 1) := by decide +kernel
theorem dX6_step_55 : decode cX6_step 55 = .ok (.getfield 16, 3) := by decide +kernel
theorem dX6_step_58 : decode cX6_step 58 = .ok (.aload_n 0, 1) := by decide +kernel
theorem dX6_step_59 : decode cX6_step 59 = .ok (.getfield 19, 3) := by decide +kernel
theorem dX6_step_62 : decode cX6_step 62 = .ok (.invokevirtual 130, 3) := by decide +kernel
theorem dX6_step_65 : decode cX6_step 65 = .ok (.iconst 0, 1) := by decide +kernel
theorem dX6_step_66 : decode cX6_step 66 = .ok (.istore 4, 2) := by decide +kernel
theorem dX6_step_68 : decode cX6_step 68 = .ok (.iload 4, 2) := by decide +kernel
theorem dX6_step_70 : decode cX6_step 70 = .ok (.bipush 12, 2) := by decide +kernel
theorem dX6_step_72 : decode cX6_step 72 = .ok (.if_icmp .ge 26, 3) := by decide +kernel
theorem dX6_step_75 : decode cX6_step 75 = .ok (.aload_n 0, 1) := by decide +kernel
theorem dX6_step_76 : decode cX6_step 76 = .ok (.getfield 40, 3) := by decide +kernel
theorem dX6_step_79 : decode cX6_step 79 = .ok (.iload 4, 2) := by decide +kernel
theorem dX6_step_81 : decode cX6_step 81 = .ok (.dup2, 1) := by decide +kernel
theorem dX6_step_82 : decode cX6_step 82 = .ok (.iaload, 1) := by decide +kernel
theorem dX6_step_83 : decode cX6_step 83 = .ok (.aload_n 0, 1) := by decide +kernel
theorem dX6_step_84 : decode cX6_step 84 = .ok (.getfield 46, 3) := by decide +kernel
theorem dX6_step_87 : decode cX6_step 87 = .ok (.iload 4, 2) := by decide +kernel
theorem dX6_step_89 : decode cX6_step 89 = .ok (.iaload, 1) := by decide +kernel
theorem dX6_step_90 : decode cX6_step 90 = .ok (.iadd, 1) := by decide +kernel
theorem dX6_step_91 : decode cX6_step 91 = .ok (.iastore, 1) := by decide +kernel
theorem dX6_step_92 : decode cX6_step 92 = .ok (.iinc 4 1, 3) := by decide +kernel
theorem dX6_step_95 : decode cX6_step 95 = .ok (.goto (-27), 3) := by decide +kernel
theorem dX6_step_98 : decode cX6_step 98 = .ok (.aload_n 0, 1) := by decide +kernel
theorem dX6_step_99 : decode cX6_step 99 = .ok (.dup, 1) := by decide +kernel
theorem dX6_step_100 : decode cX6_step 100 = .ok (.getfield 134, 3) := by decide +kernel
theorem dX6_step_103 : decode cX6_step 103 = .ok (.aload_n 0, 1) := by decide +kernel
theorem dX6_step_104 : decode cX6_step 104 = .ok (.getfield 100, 3) := by decide +kernel
theorem dX6_step_107 : decode cX6_step 107 = .ok (.i2l, 1) := by decide +kernel
theorem dX6_step_108 : decode cX6_step 108 = .ok (.ladd, 1) := by decide +kernel
theorem dX6_step_109 : decode cX6_step 109 = .ok (.putfield 134, 3) := by decide +kernel
theorem dX6_step_112 : decode cX6_step 112 = .ok (.aload_n 0, 1) := by decide +kernel
theorem dX6_step_113 : decode cX6_step 113 = .ok (.dup, 1) := by decide +kernel
theorem dX6_step_114 : decode cX6_step 114 = .ok (.getfield 123, 3) := by decide +kernel
theorem dX6_step_117 : decode cX6_step 117 = .ok (.iconst 1, 1) := by decide +kernel
theorem dX6_step_118 : decode cX6_step 118 = .ok (.iadd, 1) := by decide +kernel
theorem dX6_step_119 : decode cX6_step 119 = .ok (.putfield 123, 3) := by decide +kernel
theorem dX6_step_122 : decode cX6_step 122 = .ok (.aload_n 0, 1) := by decide +kernel
theorem dX6_step_123 : decode cX6_step 123 = .ok (.iload_n 2, 1) := by decide +kernel
theorem dX6_step_124 : decode cX6_step 124 = .ok (.ifCond .eq 7, 3) := by decide +kernel
theorem dX6_step_127 : decode cX6_step 127 = .ok (.iconst 0, 1) := by decide +kernel
theorem dX6_step_128 : decode cX6_step 128 = .ok (.goto 9, 3) := by decide +kernel
theorem dX6_step_131 : decode cX6_step 131 = .ok (.aload_n 0, 1) := by decide +kernel
theorem dX6_step_132 : decode cX6_step 132 = .ok (.getfield 87, 3) := by decide +kernel
theorem dX6_step_135 : decode cX6_step 135 = .ok (.iconst 1, 1) := by decide +kernel
theorem dX6_step_136 : decode cX6_step 136 = .ok (.iadd, 1) := by decide +kernel
theorem dX6_step_137 : decode cX6_step 137 = .ok (.putfield 87, 3) := by decide +kernel
theorem dX6_step_140 : decode cX6_step 140 = .ok (.iconst 0, 1) := by decide +kernel
theorem dX6_step_141 : decode cX6_step 141 = .ok (.istore 4, 2) := by decide +kernel
theorem dX6_step_143 : decode cX6_step 143 = .ok (.iload 4, 2) := by decide +kernel
theorem dX6_step_145 : decode cX6_step 145 = .ok (.aload_n 0, 1) := by decide +kernel
theorem dX6_step_146 : decode cX6_step 146 = .ok (.getfield 66, 3) := by decide +kernel
theorem dX6_step_149 : decode cX6_step 149 = .ok (.if_icmp .ge 66, 3) := by decide +kernel
theorem dX6_step_152 : decode cX6_step 152 = .ok (.aload_n 0, 1) := by decide +kernel
theorem dX6_step_153 : decode cX6_step 153 = .ok (.getfield 16, 3) := by decide +kernel
theorem dX6_step_156 : decode cX6_step 156 = .ok (.aload_n 0, 1) := by decide +kernel
theorem dX6_step_157 : decode cX6_step 157 = .ok (.getfield 49, 3) := by decide +kernel
theorem dX6_step_160 : decode cX6_step 160 = .ok (.iload 4, 2) := by decide +kernel
theorem dX6_step_162 : decode cX6_step 162 = .ok (.iaload, 1) := by decide +kernel
theorem dX6_step_163 : decode cX6_step 163 = .ok (.iaload, 1) := by decide +kernel
theorem dX6_step_164 : decode cX6_step 164 = .ok (.istore 5, 2) := by decide +kernel
theorem dX6_step_166 : decode cX6_step 166 = .ok (.aload_n 0, 1) := by decide +kernel
theorem dX6_step_167 : decode cX6_step 167 = .ok (.getfield 55, 3) := by decide +kernel
theorem dX6_step_170 : decode cX6_step 170 = .ok (.sipush 5000, 3) := by decide +kernel
theorem dX6_step_173 : decode cX6_step 173 = .ok (.iload 4, 2) := by decide +kernel
theorem dX6_step_175 : decode cX6_step 175 = .ok (.imul, 1) := by decide +kernel
theorem dX6_step_176 : decode cX6_step 176 = .ok (.aload_n 0, 1) := by decide +kernel
theorem dX6_step_177 : decode cX6_step 177 = .ok (.getfield 52, 3) := by decide +kernel
theorem dX6_step_180 : decode cX6_step 180 = .ok (.iload 4, 2) := by decide +kernel
theorem dX6_step_182 : decode cX6_step 182 = .ok (.iaload, 1) := by decide +kernel
theorem dX6_step_183 : decode cX6_step 183 = .ok (.iadd, 1) := by decide +kernel
theorem dX6_step_184 : decode cX6_step 184 = .ok (.iload 5, 2) := by decide +kernel
theorem dX6_step_186 : decode cX6_step 186 = .ok (.iconst 1, 1) := by decide +kernel
theorem dX6_step_187 : decode cX6_step 187 = .ok (.ishr, 1) := by decide +kernel
theorem dX6_step_188 : decode cX6_step 188 = .ok (.iconst 1, 1) := by decide +kernel
theorem dX6_step_189 : decode cX6_step 189 = .ok (.iand, 1) := by decide +kernel
theorem dX6_step_190 : decode cX6_step 190 = .ok (.iload 5, 2) := by decide +kernel
theorem dX6_step_192 : decode cX6_step 192 = .ok (.iconst 3, 1) := by decide +kernel
theorem dX6_step_193 : decode cX6_step 193 = .ok (.ishr, 1) := by decide +kernel
theorem dX6_step_194 : decode cX6_step 194 = .ok (.iconst 1, 1) := by decide +kernel
theorem dX6_step_195 : decode cX6_step 195 = .ok (.iand, 1) := by decide +kernel
theorem dX6_step_196 : decode cX6_step 196 = .ok (.isub, 1) := by decide +kernel
theorem dX6_step_197 : decode cX6_step 197 = .ok (.iastore, 1) := by decide +kernel
theorem dX6_step_198 : decode cX6_step 198 = .ok (.aload_n 0, 1) := by decide +kernel
theorem dX6_step_199 : decode cX6_step 199 = .ok (.getfield 52, 3) := by decide +kernel
theorem dX6_step_202 : decode cX6_step 202 = .ok (.iload 4, 2) := by decide +kernel
theorem dX6_step_204 : decode cX6_step 204 = .ok (.dup2, 1) := by decide +kernel
theorem dX6_step_205 : decode cX6_step 205 = .ok (.iaload, 1) := by decide +kernel
theorem dX6_step_206 : decode cX6_step 206 = .ok (.iconst 1, 1) := by decide +kernel
theorem dX6_step_207 : decode cX6_step 207 = .ok (.iadd, 1) := by decide +kernel
theorem dX6_step_208 : decode cX6_step 208 = .ok (.iastore, 1) := by decide +kernel
theorem dX6_step_209 : decode cX6_step 209 = .ok (.iinc 4 1, 3) := by decide +kernel
theorem dX6_step_212 : decode cX6_step 212 = .ok (.goto (-69), 3) := by decide +kernel
theorem dX6_step_215 : decode cX6_step 215 = .ok (.iinc 3 1, 3) := by decide +kernel
theorem dX6_step_218 : decode cX6_step 218 = .ok (.goto (-170), 3) := by decide +kernel
theorem dX6_step_221 : decode cX6_step 221 = .ok (.aload_n 0, 1) := by decide +kernel
theorem dX6_step_222 : decode cX6_step 222 = .ok (.getfield 123, 3) := by decide +kernel
theorem dX6_step_225 : decode cX6_step 225 = .ok (.ireturn, 1) := by decide +kernel
theorem dX6_unhop_0 : decode cX6_unhop 0 = .ok (.iload_n 1, 1) := by decide +kernel
theorem dX6_unhop_1 : decode cX6_unhop 1 = .ok (.iload_n 2, 1) := by decide +kernel
theorem dX6_unhop_2 : decode cX6_unhop 2 = .ok (.invokestatic 116, 3) := by decide +kernel
theorem dX6_unhop_5 : decode cX6_unhop 5 = .ok (.invokestatic 109, 3) := by decide +kernel
theorem dX6_unhop_8 : decode cX6_unhop 8 = .ok (.istore_n 3, 1) := by decide +kernel
theorem dX6_unhop_9 : decode cX6_unhop 9 = .ok (.aload_n 0, 1) := by decide +kernel
theorem dX6_unhop_10 : decode cX6_unhop 10 = .ok (.iload_n 3, 1) := by decide +kernel
theorem dX6_unhop_11 : decode cX6_unhop 11 = .ok (.invokevirtual 113, 3) := by decide +kernel
theorem dX6_unhop_14 : decode cX6_unhop 14 = .ok (.ifCond .eq 7, 3) := by decide +kernel
theorem dX6_unhop_17 : decode cX6_unhop 17 = .ok (.iload_n 1, 1) := by decide +kernel
theorem dX6_unhop_18 : decode cX6_unhop 18 = .ok (.goto 4, 3) := by decide +kernel
theorem dX6_unhop_21 : decode cX6_unhop 21 = .ok (.iload_n 3, 1) := by decide +kernel
theorem dX6_unhop_22 : decode cX6_unhop 22 = .ok (.istore 4, 2) := by decide +kernel
theorem dX6_unhop_24 : decode cX6_unhop 24 = .ok (.aload_n 0, 1) := by decide +kernel
theorem dX6_unhop_25 : decode cX6_unhop 25 = .ok (.iload_n 3, 1) := by decide +kernel
theorem dX6_unhop_26 : decode cX6_unhop 26 = .ok (.invokevirtual 113, 3) := by decide +kernel
theorem dX6_unhop_29 : decode cX6_unhop 29 = .ok (.ifCond .eq 10, 3) := by decide +kernel
theorem dX6_unhop_32 : decode cX6_unhop 32 = .ok (.iload_n 2, 1) := by decide +kernel
theorem dX6_unhop_33 : decode cX6_unhop 33 = .ok (.invokestatic 116, 3) := by decide +kernel
theorem dX6_unhop_36 : decode cX6_unhop 36 = .ok (.goto 4, 3) := by decide +kernel
theorem dX6_unhop_39 : decode cX6_unhop 39 = .ok (.iload_n 2, 1) := by decide +kernel
theorem dX6_unhop_40 : decode cX6_unhop 40 = .ok (.istore 5, 2) := by decide +kernel
theorem dX6_unhop_42 : decode cX6_unhop 42 = .ok (.aload_n 0, 1) := by decide +kernel
theorem dX6_unhop_43 : decode cX6_unhop 43 = .ok (.getfield 22, 3) := by decide +kernel
theorem dX6_unhop_46 : decode cX6_unhop 46 = .ok (.iload 4, 2) := by decide +kernel
theorem dX6_unhop_48 : decode cX6_unhop 48 = .ok (.dup2, 1) := by decide +kernel
theorem dX6_unhop_49 : decode cX6_unhop 49 = .ok (.iaload, 1) := by decide +kernel
theorem dX6_unhop_50 : decode cX6_unhop 50 = .ok (.iconst 1, 1) := by decide +kernel
theorem dX6_unhop_51 : decode cX6_unhop 51 = .ok (.iload 5, 2) := by decide +kernel
theorem dX6_unhop_53 : decode cX6_unhop 53 = .ok (.ishl, 1) := by decide +kernel
theorem dX6_unhop_54 : decode cX6_unhop 54 = .ok (.ior, 1) := by decide +kernel
theorem dX6_unhop_55 : decode cX6_unhop 55 = .ok (.iastore, 1) := by decide +kernel
theorem dX6_unhop_56 : decode cX6_unhop 56 = .ok (.aload_n 0, 1) := by decide +kernel
theorem dX6_unhop_57 : decode cX6_unhop 57 = .ok (.getfield 25, 3) := by decide +kernel
theorem dX6_unhop_60 : decode cX6_unhop 60 = .ok (.iload 4, 2) := by decide +kernel
theorem dX6_unhop_62 : decode cX6_unhop 62 = .ok (.dup2, 1) := by decide +kernel
theorem dX6_unhop_63 : decode cX6_unhop 63 = .ok (.iaload, 1) := by decide +kernel
theorem dX6_unhop_64 : decode cX6_unhop 64 = .ok (.aload_n 0, 1) := by decide +kernel
theorem dX6_unhop_65 : decode cX6_unhop 65 = .ok (.getfield 19, 3) := by decide +kernel
theorem dX6_unhop_68 : decode cX6_unhop 68 = .ok (.iload_n 1, 1) := by decide +kernel
theorem dX6_unhop_69 : decode cX6_unhop 69 = .ok (.iaload, 1) := by decide +kernel
theorem dX6_unhop_70 : decode cX6_unhop 70 = .ok (.iload_n 2, 1) := by decide +kernel
theorem dX6_unhop_71 : decode cX6_unhop 71 = .ok (.ishr, 1) := by decide +kernel
theorem dX6_unhop_72 : decode cX6_unhop 72 = .ok (.iconst 1, 1) := by decide +kernel
theorem dX6_unhop_73 : decode cX6_unhop 73 = .ok (.iand, 1) := by decide +kernel
theorem dX6_unhop_74 : decode cX6_unhop 74 = .ok (.iload 5, 2) := by decide +kernel
theorem dX6_unhop_76 : decode cX6_unhop 76 = .ok (.ishl, 1) := by decide +kernel
theorem dX6_unhop_77 : decode cX6_unhop 77 = .ok (.ior, 1) := by decide +kernel
theorem dX6_unhop_78 : decode cX6_unhop 78 = .ok (.iastore, 1) := by decide +kernel
theorem dX6_unhop_79 : decode cX6_unhop 79 = .ok (.aload_n 0, 1) := by decide +kernel
theorem dX6_unhop_80 : decode cX6_unhop 80 = .ok (.iload_n 3, 1) := by decide +kernel
theorem dX6_unhop_81 : decode cX6_unhop 81 = .ok (.iload_n 2, 1) := by decide +kernel
theorem dX6_unhop_82 : decode cX6_unhop 82 = .ok (.invokestatic 116, 3) := by decide +kernel
theorem dX6_unhop_85 : decode cX6_unhop 85 = .ok (.invokevirtual 119, 3) := by decide +kernel
theorem dX6_unhop_88 : decode cX6_unhop 88 = .ok (.return_, 1) := by decide +kernel
theorem dX6_retreat_0 : decode cX6_retreat 0 = .ok (.iconst 0, 1) := by decide +kernel
theorem dX6_retreat_1 : decode cX6_retreat 1 = .ok (.istore_n 1, 1) := by decide +kernel
theorem dX6_retreat_2 : decode cX6_retreat 2 = .ok (.iload_n 1, 1) := by decide +kernel
theorem dX6_retreat_3 : decode cX6_retreat 3 = .ok (.bipush 12, 2) := by decide +kernel
theorem dX6_retreat_5 : decode cX6_retreat 5 = .ok (.if_icmp .ge 16, 3) := by decide +kernel
theorem dX6_retreat_8 : decode cX6_retreat 8 = .ok (.aload_n 0, 1) := by decide +kernel
theorem dX6_retreat_9 : decode cX6_retreat 9 = .ok (.getfield 46, 3) := by decide +kernel
theorem dX6_retreat_12 : decode cX6_retreat 12 = .ok (.iload_n 1, 1) := by decide +kernel
theorem dX6_retreat_13 : decode cX6_retreat 13 = .ok (.iconst 0, 1) := by decide +kernel
theorem dX6_retreat_14 : decode cX6_retreat 14 = .ok (.iastore, 1) := by decide +kernel
theorem dX6_retreat_15 : decode cX6_retreat 15 = .ok (.iinc 1 1, 3) := by decide +kernel
theorem dX6_retreat_18 : decode cX6_retreat 18 = .ok (.goto (-16), 3) := by decide +kernel
theorem dX6_retreat_21 : decode cX6_retreat 21 = .ok (.iconst 0, 1) := by decide +kernel
theorem dX6_retreat_22 : decode cX6_retreat 22 = .ok (.istore_n 1, 1) := by decide +kernel
theorem dX6_retreat_23 : decode cX6_retreat 23 = .ok (.iload_n 1, 1) := by decide +kernel
theorem dX6_retreat_24 : decode cX6_retreat 24 = .ok (.bipush 96, 2) := by decide +kernel
theorem dX6_retreat_26 : decode cX6_retreat 26 = .ok (.if_icmp .ge 23, 3) := by decide +kernel
theorem dX6_retreat_29 : decode cX6_retreat 29 = .ok (.aload_n 0, 1) := by decide +kernel
theorem dX6_retreat_30 : decode cX6_retreat 30 = .ok (.getfield 22, 3) := by decide +kernel
theorem dX6_retreat_33 : decode cX6_retreat 33 = .ok (.iload_n 1, 1) := by decide +kernel
theorem dX6_retreat_34 : decode cX6_retreat 34 = .ok (.iconst 0, 1) := by decide +kernel
theorem dX6_retreat_35 : decode cX6_retreat 35 = .ok (.iastore, 1) := by decide +kernel
theorem dX6_retreat_36 : decode cX6_retreat 36 = .ok (.aload_n 0, 1) := by decide +kernel
theorem dX6_retreat_37 : decode cX6_retreat 37 = .ok (.getfield 25, 3) := by decide +kernel
theorem dX6_retreat_40 : decode cX6_retreat 40 = .ok (.iload_n 1, 1) := by decide +kernel
theorem dX6_retreat_41 : decode cX6_retreat 41 = .ok (.iconst 0, 1) := by decide +kernel
theorem dX6_retreat_42 : decode cX6_retreat 42 = .ok (.iastore, 1) := by decide +kernel
theorem dX6_retreat_43 : decode cX6_retreat 43 = .ok (.iinc 1 1, 3) := by decide +kernel
theorem dX6_retreat_46 : decode cX6_retreat 46 = .ok (.goto (-23), 3) := by decide +kernel
theorem dX6_retreat_49 : decode cX6_retreat 49 = .ok (.iconst 0, 1) := by decide +kernel
theorem dX6_retreat_50 : decode cX6_retreat 50 = .ok (.istore_n 1, 1) := by decide +kernel
theorem dX6_retreat_51 : decode cX6_retreat 51 = .ok (.iload_n 1, 1) := by decide +kernel
theorem dX6_retreat_52 : decode cX6_retreat 52 = .ok (.bipush 96, 2) := by decide +kernel
theorem dX6_retreat_54 : decode cX6_retreat 54 = .ok (.if_icmp .ge 42, 3) := by decide +kernel
theorem dX6_retreat_57 : decode cX6_retreat 57 = .ok (.iconst 0, 1) := by decide +kernel
theorem dX6_retreat_58 : decode cX6_retreat 58 = .ok (.istore_n 2, 1) := by decide +kernel
theorem dX6_retreat_59 : decode cX6_retreat 59 = .ok (.iload_n 2, 1) := by decide +kernel
theorem dX6_retreat_60 : decode cX6_retreat 60 = .ok (.iconst 4, 1) := by decide +kernel
theorem dX6_retreat_61 : decode cX6_retreat 61 = .ok (.if_icmp .ge 29, 3) := by decide +kernel
theorem dX6_retreat_64 : decode cX6_retreat 64 = .ok (.aload_n 0, 1) := by decide +kernel
theorem dX6_retreat_65 : decode cX6_retreat 65 = .ok (.getfield 16, 3) := by decide +kernel
theorem dX6_retreat_68 : decode cX6_retreat 68 = .ok (.iload_n 1, 1) := by decide +kernel
theorem dX6_retreat_69 : decode cX6_retreat 69 = .ok (.iaload, 1) := by decide +kernel
theorem dX6_retreat_70 : decode cX6_retreat 70 = .ok (.iload_n 2, 1) := by decide +kernel
theorem dX6_retreat_71 : decode cX6_retreat 71 = .ok (.ishr, 1) := by decide +kernel
theorem dX6_retreat_72 : decode cX6_retreat 72 = .ok (.iconst 1, 1) := by decide +kernel
theorem dX6_retreat_73 : decode cX6_retreat 73 = .ok (.iand, 1) := by decide +kernel
theorem dX6_retreat_74 : decode cX6_retreat 74 = .ok (.iconst 1, 1) := by decide +kernel
theorem dX6_retreat_75 : decode cX6_retreat 75 = .ok (.if_icmp .ne 9, 3) := by decide +kernel
theorem dX6_retreat_78 : decode cX6_retreat 78 = .ok (.aload_n 0, 1) := by decide +kernel
theorem dX6_retreat_79 : decode cX6_retreat 79 = .ok (.iload_n 1, 1) := by decide +kernel
theorem dX6_retreat_80 : decode cX6_retreat 80 = .ok (.iload_n 2, 1) := by decide +kernel
theorem dX6_retreat_81 : decode cX6_retreat 81 = .ok (.invokevirtual 138, 3) := by decide +kernel
theorem dX6_retreat_84 : decode cX6_retreat 84 = .ok (.iinc 2 1, 3) := by decide +kernel
theorem dX6_retreat_87 : decode cX6_retreat 87 = .ok (.goto (-28), 3) := by decide +kernel
theorem dX6_retreat_90 : decode cX6_retreat 90 = .ok (.iinc 1 1, 3) := by decide +kernel
theorem dX6_retreat_93 : decode cX6_retreat 93 = .ok (.goto (-42), 3) := by decide +kernel
theorem dX6_retreat_96 : decode cX6_retreat 96 = .ok (.aload_n 0, 1) := by decide +kernel
theorem dX6_retreat_97 : decode cX6_retreat 97 = .ok (.iconst 0, 1) := by decide +kernel
theorem dX6_retreat_98 : decode cX6_retreat 98 = .ok (.putfield 100, 3) := by decide +kernel
theorem dX6_retreat_101 : decode cX6_retreat 101 = .ok (.iconst 0, 1) := by decide +kernel
theorem dX6_retreat_102 : decode cX6_retreat 102 = .ok (.istore_n 1, 1) := by decide +kernel
theorem dX6_retreat_103 : decode cX6_retreat 103 = .ok (.iload_n 1, 1) := by decide +kernel
theorem dX6_retreat_104 : decode cX6_retreat 104 = .ok (.bipush 96, 2) := by decide +kernel
theorem dX6_retreat_106 : decode cX6_retreat 106 = .ok (.if_icmp .ge 99, 3) := by decide +kernel
theorem dX6_retreat_109 : decode cX6_retreat 109 = .ok (.aload_n 0, 1) := by decide +kernel
theorem dX6_retreat_110 : decode cX6_retreat 110 = .ok (.getfield 22, 3) := by decide +kernel
theorem dX6_retreat_113 : decode cX6_retreat 113 = .ok (.iload_n 1, 1) := by decide +kernel
theorem dX6_retreat_114 : decode cX6_retreat 114 = .ok (.iaload, 1) := by decide +kernel
theorem dX6_retreat_115 : decode cX6_retreat 115 = .ok (.invokestatic 103, 3) := by decide +kernel
theorem dX6_retreat_118 : decode cX6_retreat 118 = .ok (.istore_n 2, 1) := by decide +kernel
theorem dX6_retreat_119 : decode cX6_retreat 119 = .ok (.aload_n 0, 1) := by decide +kernel
theorem dX6_retreat_120 : decode cX6_retreat 120 = .ok (.getfield 16, 3) := by decide +kernel
theorem dX6_retreat_123 : decode cX6_retreat 123 = .ok (.iload_n 1, 1) := by decide +kernel
theorem dX6_retreat_124 : decode cX6_retreat 124 = .ok (.iload_n 2, 1) := by decide +kernel
theorem dX6_retreat_125 : decode cX6_retreat 125 = .ok (.ifCond .eq 15, 3) := by decide +kernel
theorem dX6_retreat_128 : decode cX6_retreat 128 = .ok (.aload_n 0, 1) := by decide +kernel
theorem dX6_retreat_129 : decode cX6_retreat 129 = .ok (.getfield 22, 3) := by decide +kernel
theorem dX6_retreat_132 : decode cX6_retreat 132 = .ok (.iload_n 1, 1) := by decide +kernel
theorem dX6_retreat_133 : decode cX6_retreat 133 = .ok (.iaload, 1) := by decide +kernel
theorem dX6_retreat_134 : decode cX6_retreat 134 = .ok (.invokestatic 106, 3) := by decide +kernel
theorem dX6_retreat_137 : decode cX6_retreat 137 = .ok (.goto 9, 3) := by decide +kernel
theorem dX6_retreat_140 : decode cX6_retreat 140 = .ok (.aload_n 0, 1) := by decide +kernel
theorem dX6_retreat_141 : decode cX6_retreat 141 = .ok (.getfield 22, 3) := by decide +kernel
theorem dX6_retreat_144 : decode cX6_retreat 144 = .ok (.iload_n 1, 1) := by decide +kernel
theorem dX6_retreat_145 : decode cX6_retreat 145 = .ok (.iaload, 1) := by decide +kernel
theorem dX6_retreat_146 : decode cX6_retreat 146 = .ok (.iastore, 1) := by decide +kernel
theorem dX6_retreat_147 : decode cX6_retreat 147 = .ok (.aload_n 0, 1) := by decide +kernel
theorem dX6_retreat_148 : decode cX6_retreat 148 = .ok (.getfield 19, 3) := by decide +kernel
theorem dX6_retreat_151 : decode cX6_retreat 151 = .ok (.iload_n 1, 1) := by decide +kernel
theorem dX6_retreat_152 : decode cX6_retreat 152 = .ok (.iload_n 2, 1) := by decide +kernel
theorem dX6_retreat_153 : decode cX6_retreat 153 = .ok (.ifCond .eq 21, 3) := by decide +kernel
theorem dX6_retreat_156 : decode cX6_retreat 156 = .ok (.aload_n 0, 1) := by decide +kernel
theorem dX6_retreat_157 : decode cX6_retreat 157 = .ok (.getfield 25, 3) := by decide +kernel
theorem dX6_retreat_160 : decode cX6_retreat 160 = .ok (.iload_n 1, 1) := by decide +kernel
theorem dX6_retreat_161 : decode cX6_retreat 161 = .ok (.iaload, 1) := by decide +kernel
theorem dX6_retreat_162 : decode cX6_retreat 162 = .ok (.invokestatic 106, 3) := by decide +kernel
theorem dX6_retreat_165 : decode cX6_retreat 165 = .ok (.invokestatic 106, 3) := by decide +kernel
theorem dX6_retreat_168 : decode cX6_retreat 168 = .ok (.invokestatic 106, 3) := by decide +kernel
theorem dX6_retreat_171 : decode cX6_retreat 171 = .ok (.goto 9, 3) := by decide +kernel
theorem dX6_retreat_174 : decode cX6_retreat 174 = .ok (.aload_n 0, 1) := by decide +kernel
theorem dX6_retreat_175 : decode cX6_retreat 175 = .ok (.getfield 25, 3) := by decide +kernel
theorem dX6_retreat_178 : decode cX6_retreat 178 = .ok (.iload_n 1, 1) := by decide +kernel
theorem dX6_retreat_179 : decode cX6_retreat 179 = .ok (.iaload, 1) := by decide +kernel
theorem dX6_retreat_180 : decode cX6_retreat 180 = .ok (.iastore, 1) := by decide +kernel
theorem dX6_retreat_181 : decode cX6_retreat 181 = .ok (.aload_n 0, 1) := by decide +kernel
theorem dX6_retreat_182 : decode cX6_retreat 182 = .ok (.dup, 1) := by decide +kernel
theorem dX6_retreat_183 : decode cX6_retreat 183 = .ok (.getfield 100, 3) := by decide +kernel
theorem dX6_retreat_186 : decode cX6_retreat 186 = .ok (.iload_n 2, 1) := by decide +kernel
theorem dX6_retreat_187 : decode cX6_retreat 187 = .ok (.ifCond .eq 7, 3) := by decide +kernel
theorem dX6_retreat_190 : decode cX6_retreat 190 = .ok (.iconst 1, 1) := by decide +kernel
theorem dX6_retreat_191 : decode cX6_retreat 191 = .ok (.goto 4, 3) := by decide +kernel
theorem dX6_retreat_194 : decode cX6_retreat 194 = .ok (.iconst 0, 1) := by decide +kernel
theorem dX6_retreat_195 : decode cX6_retreat 195 = .ok (.iadd, 1) := by decide +kernel
theorem dX6_retreat_196 : decode cX6_retreat 196 = .ok (.putfield 100, 3) := by decide +kernel
theorem dX6_retreat_199 : decode cX6_retreat 199 = .ok (.iinc 1 1, 3) := by decide +kernel
theorem dX6_retreat_202 : decode cX6_retreat 202 = .ok (.goto (-99), 3) := by decide +kernel
theorem dX6_retreat_205 : decode cX6_retreat 205 = .ok (.return_, 1) := by decide +kernel
theorem dX6_back_0 : decode cX6_back 0 = .ok (.aload_n 0, 1) := by decide +kernel
theorem dX6_back_1 : decode cX6_back 1 = .ok (.iload_n 1, 1) := by decide +kernel
theorem dX6_back_2 : decode cX6_back 2 = .ok (.iconst 1, 1) := by decide +kernel
theorem dX6_back_3 : decode cX6_back 3 = .ok (.sipush 200, 3) := by decide +kernel
theorem dX6_back_6 : decode cX6_back 6 = .ok (.invokestatic 62, 3) := by decide +kernel
theorem dX6_back_9 : decode cX6_back 9 = .ok (.ifCond .ne 7, 3) := by decide +kernel
theorem dX6_back_12 : decode cX6_back 12 = .ok (.iconst 1, 1) := by decide +kernel
theorem dX6_back_13 : decode cX6_back 13 = .ok (.goto 16, 3) := by decide +kernel
theorem dX6_back_16 : decode cX6_back 16 = .ok (.iload_n 1, 1) := by decide +kernel
theorem dX6_back_17 : decode cX6_back 17 = .ok (.aload_n 0, 1) := by decide +kernel
theorem dX6_back_18 : decode cX6_back 18 = .ok (.getfield 87, 3) := by decide +kernel
theorem dX6_back_21 : decode cX6_back 21 = .ok (.if_icmp .le 7, 3) := by decide +kernel
theorem dX6_back_24 : decode cX6_back 24 = .ok (.iconst 2, 1) := by decide +kernel
theorem dX6_back_25 : decode cX6_back 25 = .ok (.goto 4, 3) := by decide +kernel
theorem dX6_back_28 : decode cX6_back 28 = .ok (.iconst 0, 1) := by decide +kernel
theorem dX6_back_29 : decode cX6_back 29 = .ok (.invokevirtual 84, 3) := by decide +kernel
theorem dX6_back_32 : decode cX6_back 32 = .ok (.ifCond .eq 5, 3) := by decide +kernel
theorem dX6_back_35 : decode cX6_back 35 = .ok (.iconst 0, 1) := by decide +kernel
theorem dX6_back_36 : decode cX6_back 36 = .ok (.ireturn, 1) := by decide +kernel
theorem dX6_back_37 : decode cX6_back 37 = .ok (.iconst 0, 1) := by decide +kernel
theorem dX6_back_38 : decode cX6_back 38 = .ok (.istore_n 2, 1) := by decide +kernel
theorem dX6_back_39 : decode cX6_back 39 = .ok (.iload_n 2, 1) := by decide +kernel
theorem dX6_back_40 : decode cX6_back 40 = .ok (.iload_n 1, 1) := by decide +kernel
theorem dX6_back_41 : decode cX6_back 41 = .ok (.if_icmp .ge 102, 3) := by decide +kernel
theorem dX6_back_44 : decode cX6_back 44 = .ok (.aload_n 0, 1) := by decide +kernel
theorem dX6_back_45 : decode cX6_back 45 = .ok (.invokevirtual 141, 3) := by decide +kernel
theorem dX6_back_48 : decode cX6_back 48 = .ok (.iconst 0, 1) := by decide +kernel
theorem dX6_back_49 : decode cX6_back 49 = .ok (.istore_n 3, 1) := by decide +kernel
theorem dX6_back_50 : decode cX6_back 50 = .ok (.iload_n 3, 1) := by decide +kernel
theorem dX6_back_51 : decode cX6_back 51 = .ok (.bipush 12, 2) := by decide +kernel
theorem dX6_back_53 : decode cX6_back 53 = .ok (.if_icmp .ge 24, 3) := by decide +kernel
theorem dX6_back_56 : decode cX6_back 56 = .ok (.aload_n 0, 1) := by decide +kernel
theorem dX6_back_57 : decode cX6_back 57 = .ok (.getfield 40, 3) := by decide +kernel
theorem dX6_back_60 : decode cX6_back 60 = .ok (.iload_n 3, 1) := by decide +kernel
theorem dX6_back_61 : decode cX6_back 61 = .ok (.dup2, 1) := by decide +kernel
theorem dX6_back_62 : decode cX6_back 62 = .ok (.iaload, 1) := by decide +kernel
theorem dX6_back_63 : decode cX6_back 63 = .ok (.aload_n 0, 1) := by decide +kernel
theorem dX6_back_64 : decode cX6_back 64 = .ok (.getfield 46, 3) := by decide +kernel
theorem dX6_back_67 : decode cX6_back 67 = .ok (.iload_n 3, 1) := by decide +kernel
theorem dX6_back_68 : decode cX6_back 68 = .ok (.iaload, 1) := by decide +kernel
theorem dX6_back_69 : decode cX6_back 69 = .ok (.isub, 1) := by decide +kernel
theorem dX6_back_70 : decode cX6_back 70 = .ok (.iastore, 1) := by decide +kernel
theorem dX6_back_71 : decode cX6_back 71 = .ok (.iinc 3 1, 3) := by decide +kernel
theorem dX6_back_74 : decode cX6_back 74 = .ok (.goto (-24), 3) := by decide +kernel
theorem dX6_back_77 : decode cX6_back 77 = .ok (.aload_n 0, 1) := by decide +kernel
theorem dX6_back_78 : decode cX6_back 78 = .ok (.dup, 1) := by decide +kernel
theorem dX6_back_79 : decode cX6_back 79 = .ok (.getfield 134, 3) := by decide +kernel
theorem dX6_back_82 : decode cX6_back 82 = .ok (.aload_n 0, 1) := by decide +kernel
theorem dX6_back_83 : decode cX6_back 83 = .ok (.getfield 100, 3) := by decide +kernel
theorem dX6_back_86 : decode cX6_back 86 = .ok (.i2l, 1) := by decide +kernel
theorem dX6_back_87 : decode cX6_back 87 = .ok (.lsub, 1) := by decide +kernel
theorem dX6_back_88 : decode cX6_back 88 = .ok (.putfield 134, 3) := by decide +kernel
theorem dX6_back_91 : decode cX6_back 91 = .ok (.aload_n 0, 1) := by decide +kernel
theorem dX6_back_92 : decode cX6_back 92 = .ok (.dup, 1) := by decide +kernel
theorem dX6_back_93 : decode cX6_back 93 = .ok (.getfield 123, 3) := by decide +kernel
theorem dX6_back_96 : decode cX6_back 96 = .ok (.iconst 1, 1) := by decide +kernel
theorem dX6_back_97 : decode cX6_back 97 = .ok (.isub, 1) := by decide +kernel
theorem dX6_back_98 : decode cX6_back 98 = .ok (.putfield 123, 3) := by decide +kernel
theorem dX6_back_101 : decode cX6_back 101 = .ok (.aload_n 0, 1) := by decide +kernel
theorem dX6_back_102 : decode cX6_back 102 = .ok (.dup, 1) := by decide +kernel
theorem dX6_back_103 : decode cX6_back 103 = .ok (.getfield 87, 3) := by decide +kernel
theorem dX6_back_106 : decode cX6_back 106 = .ok (.iconst 1, 1) := by decide +kernel
theorem dX6_back_107 : decode cX6_back 107 = .ok (.isub, 1) := by decide +kernel
theorem dX6_back_108 : decode cX6_back 108 = .ok (.putfield 87, 3) := by decide +kernel
theorem dX6_back_111 : decode cX6_back 111 = .ok (.iconst 0, 1) := by decide +kernel
theorem dX6_back_112 : decode cX6_back 112 = .ok (.istore_n 3, 1) := by decide +kernel
theorem dX6_back_113 : decode cX6_back 113 = .ok (.iload_n 3, 1) := by decide +kernel
theorem dX6_back_114 : decode cX6_back 114 = .ok (.aload_n 0, 1) := by decide +kernel
theorem dX6_back_115 : decode cX6_back 115 = .ok (.getfield 66, 3) := by decide +kernel
theorem dX6_back_118 : decode cX6_back 118 = .ok (.if_icmp .ge 19, 3) := by decide +kernel
theorem dX6_back_121 : decode cX6_back 121 = .ok (.aload_n 0, 1) := by decide +kernel
theorem dX6_back_122 : decode cX6_back 122 = .ok (.getfield 52, 3) := by decide +kernel
theorem dX6_back_125 : decode cX6_back 125 = .ok (.iload_n 3, 1) := by decide +kernel
theorem dX6_back_126 : decode cX6_back 126 = .ok (.dup2, 1) := by decide +kernel
theorem dX6_back_127 : decode cX6_back 127 = .ok (.iaload, 1) := by decide +kernel
theorem dX6_back_128 : decode cX6_back 128 = .ok (.iconst 1, 1) := by decide +kernel
theorem dX6_back_129 : decode cX6_back 129 = .ok (.isub, 1) := by decide +kernel
theorem dX6_back_130 : decode cX6_back 130 = .ok (.iastore, 1) := by decide +kernel
theorem dX6_back_131 : decode cX6_back 131 = .ok (.iinc 3 1, 3) := by decide +kernel
theorem dX6_back_134 : decode cX6_back 134 = .ok (.goto (-21), 3) := by decide +kernel
theorem dX6_back_137 : decode cX6_back 137 = .ok (.iinc 2 1, 3) := by decide +kernel
theorem dX6_back_140 : decode cX6_back 140 = .ok (.goto (-101), 3) := by decide +kernel
theorem dX6_back_143 : decode cX6_back 143 = .ok (.aload_n 0, 1) := by decide +kernel
theorem dX6_back_144 : decode cX6_back 144 = .ok (.getfield 123, 3) := by decide +kernel
theorem dX6_back_147 : decode cX6_back 147 = .ok (.ireturn, 1) := by decide +kernel
theorem dX6_meet_0 : decode cX6_meet 0 = .ok (.aload_n 0, 1) := by decide +kernel
theorem dX6_meet_1 : decode cX6_meet 1 = .ok (.getfield 34, 3) := by decide +kernel
theorem dX6_meet_4 : decode cX6_meet 4 = .ok (.iload_n 1, 1) := by decide +kernel
theorem dX6_meet_5 : decode cX6_meet 5 = .ok (.iaload, 1) := by decide +kernel
theorem dX6_meet_6 : decode cX6_meet 6 = .ok (.aload_n 0, 1) := by decide +kernel
theorem dX6_meet_7 : decode cX6_meet 7 = .ok (.getfield 34, 3) := by decide +kernel
theorem dX6_meet_10 : decode cX6_meet 10 = .ok (.iload_n 1, 1) := by decide +kernel
theorem dX6_meet_11 : decode cX6_meet 11 = .ok (.iconst 2, 1) := by decide +kernel
theorem dX6_meet_12 : decode cX6_meet 12 = .ok (.iadd, 1) := by decide +kernel
theorem dX6_meet_13 : decode cX6_meet 13 = .ok (.iaload, 1) := by decide +kernel
theorem dX6_meet_14 : decode cX6_meet 14 = .ok (.iadd, 1) := by decide +kernel
theorem dX6_meet_15 : decode cX6_meet 15 = .ok (.istore_n 2, 1) := by decide +kernel
theorem dX6_meet_16 : decode cX6_meet 16 = .ok (.aload_n 0, 1) := by decide +kernel
theorem dX6_meet_17 : decode cX6_meet 17 = .ok (.getfield 34, 3) := by decide +kernel
theorem dX6_meet_20 : decode cX6_meet 20 = .ok (.iload_n 1, 1) := by decide +kernel
theorem dX6_meet_21 : decode cX6_meet 21 = .ok (.iconst 1, 1) := by decide +kernel
theorem dX6_meet_22 : decode cX6_meet 22 = .ok (.iadd, 1) := by decide +kernel
theorem dX6_meet_23 : decode cX6_meet 23 = .ok (.iaload, 1) := by decide +kernel
theorem dX6_meet_24 : decode cX6_meet 24 = .ok (.aload_n 0, 1) := by decide +kernel
theorem dX6_meet_25 : decode cX6_meet 25 = .ok (.getfield 34, 3) := by decide +kernel
theorem dX6_meet_28 : decode cX6_meet 28 = .ok (.iload_n 1, 1) := by decide +kernel
theorem dX6_meet_29 : decode cX6_meet 29 = .ok (.iconst 3, 1) := by decide +kernel
theorem dX6_meet_30 : decode cX6_meet 30 = .ok (.iadd, 1) := by decide +kernel
theorem dX6_meet_31 : decode cX6_meet 31 = .ok (.iaload, 1) := by decide +kernel
theorem dX6_meet_32 : decode cX6_meet 32 = .ok (.iadd, 1) := by decide +kernel
theorem dX6_meet_33 : decode cX6_meet 33 = .ok (.istore_n 3, 1) := by decide +kernel
theorem dX6_meet_34 : decode cX6_meet 34 = .ok (.iload_n 2, 1) := by decide +kernel
theorem dX6_meet_35 : decode cX6_meet 35 = .ok (.iload_n 3, 1) := by decide +kernel
theorem dX6_meet_36 : decode cX6_meet 36 = .ok (.isub, 1) := by decide +kernel
theorem dX6_meet_37 : decode cX6_meet 37 = .ok (.iconst 4, 1) := by decide +kernel
theorem dX6_meet_38 : decode cX6_meet 38 = .ok (.idiv, 1) := by decide +kernel
theorem dX6_meet_39 : decode cX6_meet 39 = .ok (.istore 4, 2) := by decide +kernel
theorem dX6_meet_41 : decode cX6_meet 41 = .ok (.iload 4, 2) := by decide +kernel
theorem dX6_meet_43 : decode cX6_meet 43 = .ok (.ifCond .le 7, 3) := by decide +kernel
theorem dX6_meet_46 : decode cX6_meet 46 = .ok (.iconst 0, 1) := by decide +kernel
theorem dX6_meet_47 : decode cX6_meet 47 = .ok (.goto 4, 3) := by decide +kernel
theorem dX6_meet_50 : decode cX6_meet 50 = .ok (.iconst 1, 1) := by decide +kernel
theorem dX6_meet_51 : decode cX6_meet 51 = .ok (.istore 5, 2) := by decide +kernel
theorem dX6_meet_53 : decode cX6_meet 53 = .ok (.iload 4, 2) := by decide +kernel
theorem dX6_meet_55 : decode cX6_meet 55 = .ok (.ifCond .le 8, 3) := by decide +kernel
theorem dX6_meet_58 : decode cX6_meet 58 = .ok (.iload 4, 2) := by decide +kernel
theorem dX6_meet_60 : decode cX6_meet 60 = .ok (.goto 6, 3) := by decide +kernel
theorem dX6_meet_63 : decode cX6_meet 63 = .ok (.iload 4, 2) := by decide +kernel
theorem dX6_meet_65 : decode cX6_meet 65 = .ok (.ineg, 1) := by decide +kernel
theorem dX6_meet_66 : decode cX6_meet 66 = .ok (.istore 6, 2) := by decide +kernel
theorem dX6_meet_68 : decode cX6_meet 68 = .ok (.aload_n 0, 1) := by decide +kernel
theorem dX6_meet_69 : decode cX6_meet 69 = .ok (.getfield 34, 3) := by decide +kernel
theorem dX6_meet_72 : decode cX6_meet 72 = .ok (.iload_n 1, 1) := by decide +kernel
theorem dX6_meet_73 : decode cX6_meet 73 = .ok (.iload 5, 2) := by decide +kernel
theorem dX6_meet_75 : decode cX6_meet 75 = .ok (.iadd, 1) := by decide +kernel
theorem dX6_meet_76 : decode cX6_meet 76 = .ok (.iaload, 1) := by decide +kernel
theorem dX6_meet_77 : decode cX6_meet 77 = .ok (.istore 7, 2) := by decide +kernel
theorem dX6_meet_79 : decode cX6_meet 79 = .ok (.aload_n 0, 1) := by decide +kernel
theorem dX6_meet_80 : decode cX6_meet 80 = .ok (.getfield 34, 3) := by decide +kernel
theorem dX6_meet_83 : decode cX6_meet 83 = .ok (.iload_n 1, 1) := by decide +kernel
theorem dX6_meet_84 : decode cX6_meet 84 = .ok (.iload 5, 2) := by decide +kernel
theorem dX6_meet_86 : decode cX6_meet 86 = .ok (.iadd, 1) := by decide +kernel
theorem dX6_meet_87 : decode cX6_meet 87 = .ok (.iconst 2, 1) := by decide +kernel
theorem dX6_meet_88 : decode cX6_meet 88 = .ok (.iadd, 1) := by decide +kernel
theorem dX6_meet_89 : decode cX6_meet 89 = .ok (.iaload, 1) := by decide +kernel
theorem dX6_meet_90 : decode cX6_meet 90 = .ok (.istore 8, 2) := by decide +kernel
theorem dX6_meet_92 : decode cX6_meet 92 = .ok (.iload 7, 2) := by decide +kernel
theorem dX6_meet_94 : decode cX6_meet 94 = .ok (.iload 8, 2) := by decide +kernel
theorem dX6_meet_96 : decode cX6_meet 96 = .ok (.if_icmp .ge 8, 3) := by decide +kernel
theorem dX6_meet_99 : decode cX6_meet 99 = .ok (.iload 7, 2) := by decide +kernel
theorem dX6_meet_101 : decode cX6_meet 101 = .ok (.goto 5, 3) := by decide +kernel
theorem dX6_meet_104 : decode cX6_meet 104 = .ok (.iload 8, 2) := by decide +kernel
theorem dX6_meet_106 : decode cX6_meet 106 = .ok (.istore 9, 2) := by decide +kernel
theorem dX6_meet_108 : decode cX6_meet 108 = .ok (.iload 6, 2) := by decide +kernel
theorem dX6_meet_110 : decode cX6_meet 110 = .ok (.iload 9, 2) := by decide +kernel
theorem dX6_meet_112 : decode cX6_meet 112 = .ok (.if_icmp .ge 8, 3) := by decide +kernel
theorem dX6_meet_115 : decode cX6_meet 115 = .ok (.iload 6, 2) := by decide +kernel
theorem dX6_meet_117 : decode cX6_meet 117 = .ok (.goto 5, 3) := by decide +kernel
theorem dX6_meet_120 : decode cX6_meet 120 = .ok (.iload 9, 2) := by decide +kernel
theorem dX6_meet_122 : decode cX6_meet 122 = .ok (.istore 10, 2) := by decide +kernel
theorem dX6_meet_124 : decode cX6_meet 124 = .ok (.aload_n 0, 1) := by decide +kernel
theorem dX6_meet_125 : decode cX6_meet 125 = .ok (.getfield 34, 3) := by decide +kernel
theorem dX6_meet_128 : decode cX6_meet 128 = .ok (.iload_n 1, 1) := by decide +kernel
theorem dX6_meet_129 : decode cX6_meet 129 = .ok (.iload 5, 2) := by decide +kernel
theorem dX6_meet_131 : decode cX6_meet 131 = .ok (.iadd, 1) := by decide +kernel
theorem dX6_meet_132 : decode cX6_meet 132 = .ok (.dup2, 1) := by decide +kernel
theorem dX6_meet_133 : decode cX6_meet 133 = .ok (.iaload, 1) := by decide +kernel
theorem dX6_meet_134 : decode cX6_meet 134 = .ok (.iload 10, 2) := by decide +kernel
theorem dX6_meet_136 : decode cX6_meet 136 = .ok (.isub, 1) := by decide +kernel
theorem dX6_meet_137 : decode cX6_meet 137 = .ok (.iastore, 1) := by decide +kernel
theorem dX6_meet_138 : decode cX6_meet 138 = .ok (.aload_n 0, 1) := by decide +kernel
theorem dX6_meet_139 : decode cX6_meet 139 = .ok (.getfield 34, 3) := by decide +kernel
theorem dX6_meet_142 : decode cX6_meet 142 = .ok (.iload_n 1, 1) := by decide +kernel
theorem dX6_meet_143 : decode cX6_meet 143 = .ok (.iload 5, 2) := by decide +kernel
theorem dX6_meet_145 : decode cX6_meet 145 = .ok (.iadd, 1) := by decide +kernel
theorem dX6_meet_146 : decode cX6_meet 146 = .ok (.iconst 2, 1) := by decide +kernel
theorem dX6_meet_147 : decode cX6_meet 147 = .ok (.iadd, 1) := by decide +kernel
theorem dX6_meet_148 : decode cX6_meet 148 = .ok (.dup2, 1) := by decide +kernel
theorem dX6_meet_149 : decode cX6_meet 149 = .ok (.iaload, 1) := by decide +kernel
theorem dX6_meet_150 : decode cX6_meet 150 = .ok (.iload 10, 2) := by decide +kernel
theorem dX6_meet_152 : decode cX6_meet 152 = .ok (.isub, 1) := by decide +kernel
theorem dX6_meet_153 : decode cX6_meet 153 = .ok (.iastore, 1) := by decide +kernel
theorem dX6_meet_154 : decode cX6_meet 154 = .ok (.aload_n 0, 1) := by decide +kernel
theorem dX6_meet_155 : decode cX6_meet 155 = .ok (.getfield 34, 3) := by decide +kernel
theorem dX6_meet_158 : decode cX6_meet 158 = .ok (.iload_n 1, 1) := by decide +kernel
theorem dX6_meet_159 : decode cX6_meet 159 = .ok (.iconst 1, 1) := by decide +kernel
theorem dX6_meet_160 : decode cX6_meet 160 = .ok (.iadd, 1) := by decide +kernel
theorem dX6_meet_161 : decode cX6_meet 161 = .ok (.iload 5, 2) := by decide +kernel
theorem dX6_meet_163 : decode cX6_meet 163 = .ok (.isub, 1) := by decide +kernel
theorem dX6_meet_164 : decode cX6_meet 164 = .ok (.dup2, 1) := by decide +kernel
theorem dX6_meet_165 : decode cX6_meet 165 = .ok (.iaload, 1) := by decide +kernel
theorem dX6_meet_166 : decode cX6_meet 166 = .ok (.iload 10, 2) := by decide +kernel
theorem dX6_meet_168 : decode cX6_meet 168 = .ok (.iadd, 1) := by decide +kernel
theorem dX6_meet_169 : decode cX6_meet 169 = .ok (.iastore, 1) := by decide +kernel
theorem dX6_meet_170 : decode cX6_meet 170 = .ok (.aload_n 0, 1) := by decide +kernel
theorem dX6_meet_171 : decode cX6_meet 171 = .ok (.getfield 34, 3) := by decide +kernel
theorem dX6_meet_174 : decode cX6_meet 174 = .ok (.iload_n 1, 1) := by decide +kernel
theorem dX6_meet_175 : decode cX6_meet 175 = .ok (.iconst 3, 1) := by decide +kernel
theorem dX6_meet_176 : decode cX6_meet 176 = .ok (.iadd, 1) := by decide +kernel
theorem dX6_meet_177 : decode cX6_meet 177 = .ok (.iload 5, 2) := by decide +kernel
theorem dX6_meet_179 : decode cX6_meet 179 = .ok (.isub, 1) := by decide +kernel
theorem dX6_meet_180 : decode cX6_meet 180 = .ok (.dup2, 1) := by decide +kernel
theorem dX6_meet_181 : decode cX6_meet 181 = .ok (.iaload, 1) := by decide +kernel
theorem dX6_meet_182 : decode cX6_meet 182 = .ok (.iload 10, 2) := by decide +kernel
theorem dX6_meet_184 : decode cX6_meet 184 = .ok (.iadd, 1) := by decide +kernel
theorem dX6_meet_185 : decode cX6_meet 185 = .ok (.iastore, 1) := by decide +kernel
theorem dX6_meet_186 : decode cX6_meet 186 = .ok (.return_, 1) := by decide +kernel
theorem dX6_flow_0 : decode cX6_flow 0 = .ok (.aload_n 0, 1) := by decide +kernel
theorem dX6_flow_1 : decode cX6_flow 1 = .ok (.iload_n 1, 1) := by decide +kernel
theorem dX6_flow_2 : decode cX6_flow 2 = .ok (.iconst 1, 1) := by decide +kernel
theorem dX6_flow_3 : decode cX6_flow 3 = .ok (.bipush 100, 2) := by decide +kernel
theorem dX6_flow_5 : decode cX6_flow 5 = .ok (.invokestatic 62, 3) := by decide +kernel
theorem dX6_flow_8 : decode cX6_flow 8 = .ok (.ifCond .eq 7, 3) := by decide +kernel
theorem dX6_flow_11 : decode cX6_flow 11 = .ok (.iconst 0, 1) := by decide +kernel
theorem dX6_flow_12 : decode cX6_flow 12 = .ok (.goto 4, 3) := by decide +kernel
theorem dX6_flow_15 : decode cX6_flow 15 = .ok (.iconst 1, 1) := by decide +kernel
theorem dX6_flow_16 : decode cX6_flow 16 = .ok (.invokevirtual 84, 3) := by decide +kernel
theorem dX6_flow_19 : decode cX6_flow 19 = .ok (.ifCond .eq 5, 3) := by decide +kernel
theorem dX6_flow_22 : decode cX6_flow 22 = .ok (.lconst 0, 1) := by decide +kernel
theorem dX6_flow_23 : decode cX6_flow 23 = .ok (.lreturn, 1) := by decide +kernel
theorem dX6_flow_24 : decode cX6_flow 24 = .ok (.iconst 0, 1) := by decide +kernel
theorem dX6_flow_25 : decode cX6_flow 25 = .ok (.istore_n 2, 1) := by decide +kernel
theorem dX6_flow_26 : decode cX6_flow 26 = .ok (.iload_n 2, 1) := by decide +kernel
theorem dX6_flow_27 : decode cX6_flow 27 = .ok (.iload_n 1, 1) := by decide +kernel
theorem dX6_flow_28 : decode cX6_flow 28 = .ok (.if_icmp .ge 155, 3) := by decide +kernel
theorem dX6_flow_31 : decode cX6_flow 31 = .ok (.iconst 0, 1) := by decide +kernel
theorem dX6_flow_32 : decode cX6_flow 32 = .ok (.istore_n 3, 1) := by decide +kernel
theorem dX6_flow_33 : decode cX6_flow 33 = .ok (.iload_n 3, 1) := by decide +kernel
theorem dX6_flow_34 : decode cX6_flow 34 = .ok (.bipush 96, 2) := by decide +kernel
theorem dX6_flow_36 : decode cX6_flow 36 = .ok (.if_icmp .ge 16, 3) := by decide +kernel
theorem dX6_flow_39 : decode cX6_flow 39 = .ok (.aload_n 0, 1) := by decide +kernel
theorem dX6_flow_40 : decode cX6_flow 40 = .ok (.iconst 4, 1) := by decide +kernel
theorem dX6_flow_41 : decode cX6_flow 41 = .ok (.iload_n 3, 1) := by decide +kernel
theorem dX6_flow_42 : decode cX6_flow 42 = .ok (.imul, 1) := by decide +kernel
theorem dX6_flow_43 : decode cX6_flow 43 = .ok (.invokevirtual 144, 3) := by decide +kernel
theorem dX6_flow_46 : decode cX6_flow 46 = .ok (.iinc 3 1, 3) := by decide +kernel
theorem dX6_flow_49 : decode cX6_flow 49 = .ok (.goto (-16), 3) := by decide +kernel
theorem dX6_flow_52 : decode cX6_flow 52 = .ok (.iconst 0, 1) := by decide +kernel
theorem dX6_flow_53 : decode cX6_flow 53 = .ok (.istore_n 3, 1) := by decide +kernel
theorem dX6_flow_54 : decode cX6_flow 54 = .ok (.iload_n 3, 1) := by decide +kernel
theorem dX6_flow_55 : decode cX6_flow 55 = .ok (.sipush 384, 3) := by decide +kernel
theorem dX6_flow_58 : decode cX6_flow 58 = .ok (.if_icmp .ge 16, 3) := by decide +kernel
theorem dX6_flow_61 : decode cX6_flow 61 = .ok (.aload_n 0, 1) := by decide +kernel
theorem dX6_flow_62 : decode cX6_flow 62 = .ok (.getfield 37, 3) := by decide +kernel
theorem dX6_flow_65 : decode cX6_flow 65 = .ok (.iload_n 3, 1) := by decide +kernel
theorem dX6_flow_66 : decode cX6_flow 66 = .ok (.iconst 0, 1) := by decide +kernel
theorem dX6_flow_67 : decode cX6_flow 67 = .ok (.iastore, 1) := by decide +kernel
theorem dX6_flow_68 : decode cX6_flow 68 = .ok (.iinc 3 1, 3) := by decide +kernel
theorem dX6_flow_71 : decode cX6_flow 71 = .ok (.goto (-17), 3) := by decide +kernel
theorem dX6_flow_74 : decode cX6_flow 74 = .ok (.iconst 0, 1) := by decide +kernel
theorem dX6_flow_75 : decode cX6_flow 75 = .ok (.istore_n 3, 1) := by decide +kernel
theorem dX6_flow_76 : decode cX6_flow 76 = .ok (.iload_n 3, 1) := by decide +kernel
theorem dX6_flow_77 : decode cX6_flow 77 = .ok (.sipush 384, 3) := by decide +kernel
theorem dX6_flow_80 : decode cX6_flow 80 = .ok (.if_icmp .ge 70, 3) := by decide +kernel
theorem dX6_flow_83 : decode cX6_flow 83 = .ok (.iload_n 3, 1) := by decide +kernel
theorem dX6_flow_84 : decode cX6_flow 84 = .ok (.iconst 4, 1) := by decide +kernel
theorem dX6_flow_85 : decode cX6_flow 85 = .ok (.idiv, 1) := by decide +kernel
theorem dX6_flow_86 : decode cX6_flow 86 = .ok (.iload_n 3, 1) := by decide +kernel
theorem dX6_flow_87 : decode cX6_flow 87 = .ok (.iconst 4, 1) := by decide +kernel
theorem dX6_flow_88 : decode cX6_flow 88 = .ok (.irem, 1) := by decide +kernel
theorem dX6_flow_89 : decode cX6_flow 89 = .ok (.invokestatic 109, 3) := by decide +kernel
theorem dX6_flow_92 : decode cX6_flow 92 = .ok (.istore 4, 2) := by decide +kernel
theorem dX6_flow_94 : decode cX6_flow 94 = .ok (.aload_n 0, 1) := by decide +kernel
theorem dX6_flow_95 : decode cX6_flow 95 = .ok (.iload 4, 2) := by decide +kernel
theorem dX6_flow_97 : decode cX6_flow 97 = .ok (.invokevirtual 113, 3) := by decide +kernel
theorem dX6_flow_100 : decode cX6_flow 100 = .ok (.ifCond .eq 18, 3) := by decide +kernel
theorem dX6_flow_103 : decode cX6_flow 103 = .ok (.iload_n 3, 1) := by decide +kernel
theorem dX6_flow_104 : decode cX6_flow 104 = .ok (.iconst 4, 1) := by decide +kernel
theorem dX6_flow_105 : decode cX6_flow 105 = .ok (.idiv, 1) := by decide +kernel
theorem dX6_flow_106 : decode cX6_flow 106 = .ok (.iconst 4, 1) := by decide +kernel
theorem dX6_flow_107 : decode cX6_flow 107 = .ok (.imul, 1) := by decide +kernel
theorem dX6_flow_108 : decode cX6_flow 108 = .ok (.iload_n 3, 1) := by decide +kernel
theorem dX6_flow_109 : decode cX6_flow 109 = .ok (.iconst 4, 1) := by decide +kernel
theorem dX6_flow_110 : decode cX6_flow 110 = .ok (.irem, 1) := by decide +kernel
theorem dX6_flow_111 : decode cX6_flow 111 = .ok (.invokestatic 116, 3) := by decide +kernel
theorem dX6_flow_114 : decode cX6_flow 114 = .ok (.iadd, 1) := by decide +kernel
theorem dX6_flow_115 : decode cX6_flow 115 = .ok (.goto 11, 3) := by decide +kernel
theorem dX6_flow_118 : decode cX6_flow 118 = .ok (.iconst 4, 1) := by decide +kernel
theorem dX6_flow_119 : decode cX6_flow 119 = .ok (.iload 4, 2) := by decide +kernel
theorem dX6_flow_121 : decode cX6_flow 121 = .ok (.imul, 1) := by decide +kernel
theorem dX6_flow_122 : decode cX6_flow 122 = .ok (.iload_n 3, 1) := by decide +kernel
theorem dX6_flow_123 : decode cX6_flow 123 = .ok (.iconst 4, 1) := by decide +kernel
theorem dX6_flow_124 : decode cX6_flow 124 = .ok (.irem, 1) := by decide +kernel
theorem dX6_flow_125 : decode cX6_flow 125 = .ok (.iadd, 1) := by decide +kernel
theorem dX6_flow_126 : decode cX6_flow 126 = .ok (.istore 5, 2) := by decide +kernel
theorem dX6_flow_128 : decode cX6_flow 128 = .ok (.aload_n 0, 1) := by decide +kernel
theorem dX6_flow_129 : decode cX6_flow 129 = .ok (.getfield 37, 3) := by decide +kernel
theorem dX6_flow_132 : decode cX6_flow 132 = .ok (.iload 5, 2) := by decide +kernel
theorem dX6_flow_134 : decode cX6_flow 134 = .ok (.dup2, 1) := by decide +kernel
theorem dX6_flow_135 : decode cX6_flow 135 = .ok (.iaload, 1) := by decide +kernel
theorem dX6_flow_136 : decode cX6_flow 136 = .ok (.aload_n 0, 1) := by decide +kernel
theorem dX6_flow_137 : decode cX6_flow 137 = .ok (.getfield 34, 3) := by decide +kernel
theorem dX6_flow_140 : decode cX6_flow 140 = .ok (.iload_n 3, 1) := by decide +kernel
theorem dX6_flow_141 : decode cX6_flow 141 = .ok (.iaload, 1) := by decide +kernel
theorem dX6_flow_142 : decode cX6_flow 142 = .ok (.iadd, 1) := by decide +kernel
theorem dX6_flow_143 : decode cX6_flow 143 = .ok (.iastore, 1) := by decide +kernel
theorem dX6_flow_144 : decode cX6_flow 144 = .ok (.iinc 3 1, 3) := by decide +kernel
theorem dX6_flow_147 : decode cX6_flow 147 = .ok (.goto (-71), 3) := by decide +kernel
theorem dX6_flow_150 : decode cX6_flow 150 = .ok (.iconst 0, 1) := by decide +kernel
theorem dX6_flow_151 : decode cX6_flow 151 = .ok (.istore_n 3, 1) := by decide +kernel
theorem dX6_flow_152 : decode cX6_flow 152 = .ok (.iload_n 3, 1) := by decide +kernel
theorem dX6_flow_153 : decode cX6_flow 153 = .ok (.sipush 384, 3) := by decide +kernel
theorem dX6_flow_156 : decode cX6_flow 156 = .ok (.if_icmp .ge 21, 3) := by decide +kernel
theorem dX6_flow_159 : decode cX6_flow 159 = .ok (.aload_n 0, 1) := by decide +kernel
theorem dX6_flow_160 : decode cX6_flow 160 = .ok (.getfield 34, 3) := by decide +kernel
theorem dX6_flow_163 : decode cX6_flow 163 = .ok (.iload_n 3, 1) := by decide +kernel
theorem dX6_flow_164 : decode cX6_flow 164 = .ok (.aload_n 0, 1) := by decide +kernel
theorem dX6_flow_165 : decode cX6_flow 165 = .ok (.getfield 37, 3) := by decide +kernel
theorem dX6_flow_168 : decode cX6_flow 168 = .ok (.iload_n 3, 1) := by decide +kernel
theorem dX6_flow_169 : decode cX6_flow 169 = .ok (.iaload, 1) := by decide +kernel
theorem dX6_flow_170 : decode cX6_flow 170 = .ok (.iastore, 1) := by decide +kernel
theorem dX6_flow_171 : decode cX6_flow 171 = .ok (.iinc 3 1, 3) := by decide +kernel
theorem dX6_flow_174 : decode cX6_flow 174 = .ok (.goto (-22), 3) := by decide +kernel
theorem dX6_flow_177 : decode cX6_flow 177 = .ok (.iinc 2 1, 3) := by decide +kernel
theorem dX6_flow_180 : decode cX6_flow 180 = .ok (.goto (-154), 3) := by decide +kernel
theorem dX6_flow_183 : decode cX6_flow 183 = .ok (.aload_n 0, 1) := by decide +kernel
theorem dX6_flow_184 : decode cX6_flow 184 = .ok (.dup, 1) := by decide +kernel
theorem dX6_flow_185 : decode cX6_flow 185 = .ok (.getfield 148, 3) := by decide +kernel
theorem dX6_flow_188 : decode cX6_flow 188 = .ok (.iload_n 1, 1) := by decide +kernel
theorem dX6_flow_189 : decode cX6_flow 189 = .ok (.i2l, 1) := by decide +kernel
theorem dX6_flow_190 : decode cX6_flow 190 = .ok (.ladd, 1) := by decide +kernel
theorem dX6_flow_191 : decode cX6_flow 191 = .ok (.putfield 148, 3) := by decide +kernel
theorem dX6_flow_194 : decode cX6_flow 194 = .ok (.aload_n 0, 1) := by decide +kernel
theorem dX6_flow_195 : decode cX6_flow 195 = .ok (.getfield 148, 3) := by decide +kernel
theorem dX6_flow_198 : decode cX6_flow 198 = .ok (.lreturn, 1) := by decide +kernel
theorem dX6_cellOf_0 : decode cX6_cellOf 0 = .ok (.aload_n 0, 1) := by decide +kernel
theorem dX6_cellOf_1 : decode cX6_cellOf 1 = .ok (.aload_n 0, 1) := by decide +kernel
theorem dX6_cellOf_2 : decode cX6_cellOf 2 = .ok (.iload_n 1, 1) := by decide +kernel
theorem dX6_cellOf_3 : decode cX6_cellOf 3 = .ok (.invokevirtual 77, 3) := by decide +kernel
theorem dX6_cellOf_6 : decode cX6_cellOf 6 = .ok (.ifCond .ne 7, 3) := by decide +kernel
theorem dX6_cellOf_9 : decode cX6_cellOf 9 = .ok (.iconst 1, 1) := by decide +kernel
theorem dX6_cellOf_10 : decode cX6_cellOf 10 = .ok (.goto 18, 3) := by decide +kernel
theorem dX6_cellOf_13 : decode cX6_cellOf 13 = .ok (.iload_n 2, 1) := by decide +kernel
theorem dX6_cellOf_14 : decode cX6_cellOf 14 = .ok (.iconst 0, 1) := by decide +kernel
theorem dX6_cellOf_15 : decode cX6_cellOf 15 = .ok (.bipush 7, 2) := by decide +kernel
theorem dX6_cellOf_17 : decode cX6_cellOf 17 = .ok (.invokestatic 62, 3) := by decide +kernel
theorem dX6_cellOf_20 : decode cX6_cellOf 20 = .ok (.ifCond .ne 7, 3) := by decide +kernel
theorem dX6_cellOf_23 : decode cX6_cellOf 23 = .ok (.iconst 2, 1) := by decide +kernel
theorem dX6_cellOf_24 : decode cX6_cellOf 24 = .ok (.goto 4, 3) := by decide +kernel
theorem dX6_cellOf_27 : decode cX6_cellOf 27 = .ok (.iconst 0, 1) := by decide +kernel
theorem dX6_cellOf_28 : decode cX6_cellOf 28 = .ok (.invokevirtual 84, 3) := by decide +kernel
theorem dX6_cellOf_31 : decode cX6_cellOf 31 = .ok (.ifCond .eq 5, 3) := by decide +kernel
theorem dX6_cellOf_34 : decode cX6_cellOf 34 = .ok (.iconst 0, 1) := by decide +kernel
theorem dX6_cellOf_35 : decode cX6_cellOf 35 = .ok (.ireturn, 1) := by decide +kernel
theorem dX6_cellOf_36 : decode cX6_cellOf 36 = .ok (.iload_n 2, 1) := by decide +kernel
theorem dX6_cellOf_37 : decode cX6_cellOf 37 = .ok (.ifCond .ne 12, 3) := by decide +kernel
theorem dX6_cellOf_40 : decode cX6_cellOf 40 = .ok (.aload_n 0, 1) := by decide +kernel
theorem dX6_cellOf_41 : decode cX6_cellOf 41 = .ok (.getfield 7, 3) := by decide +kernel
theorem dX6_cellOf_44 : decode cX6_cellOf 44 = .ok (.iload_n 1, 1) := by decide +kernel
theorem dX6_cellOf_45 : decode cX6_cellOf 45 = .ok (.iaload, 1) := by decide +kernel
theorem dX6_cellOf_46 : decode cX6_cellOf 46 = .ok (.goto 57, 3) := by decide +kernel
theorem dX6_cellOf_49 : decode cX6_cellOf 49 = .ok (.iload_n 2, 1) := by decide +kernel
theorem dX6_cellOf_50 : decode cX6_cellOf 50 = .ok (.iconst 1, 1) := by decide +kernel
theorem dX6_cellOf_51 : decode cX6_cellOf 51 = .ok (.if_icmp .ne 12, 3) := by decide +kernel
theorem dX6_cellOf_54 : decode cX6_cellOf 54 = .ok (.aload_n 0, 1) := by decide +kernel
theorem dX6_cellOf_55 : decode cX6_cellOf 55 = .ok (.getfield 13, 3) := by decide +kernel
theorem dX6_cellOf_58 : decode cX6_cellOf 58 = .ok (.iload_n 1, 1) := by decide +kernel
theorem dX6_cellOf_59 : decode cX6_cellOf 59 = .ok (.iaload, 1) := by decide +kernel
theorem dX6_cellOf_60 : decode cX6_cellOf 60 = .ok (.goto 43, 3) := by decide +kernel
theorem dX6_cellOf_63 : decode cX6_cellOf 63 = .ok (.iload_n 2, 1) := by decide +kernel
theorem dX6_cellOf_64 : decode cX6_cellOf 64 = .ok (.iconst 2, 1) := by decide +kernel
theorem dX6_cellOf_65 : decode cX6_cellOf 65 = .ok (.if_icmp .ne 12, 3) := by decide +kernel
theorem dX6_cellOf_68 : decode cX6_cellOf 68 = .ok (.aload_n 0, 1) := by decide +kernel
theorem dX6_cellOf_69 : decode cX6_cellOf 69 = .ok (.getfield 16, 3) := by decide +kernel
theorem dX6_cellOf_72 : decode cX6_cellOf 72 = .ok (.iload_n 1, 1) := by decide +kernel
theorem dX6_cellOf_73 : decode cX6_cellOf 73 = .ok (.iaload, 1) := by decide +kernel
theorem dX6_cellOf_74 : decode cX6_cellOf 74 = .ok (.goto 29, 3) := by decide +kernel
theorem dX6_cellOf_77 : decode cX6_cellOf 77 = .ok (.iload_n 2, 1) := by decide +kernel
theorem dX6_cellOf_78 : decode cX6_cellOf 78 = .ok (.iconst 3, 1) := by decide +kernel
theorem dX6_cellOf_79 : decode cX6_cellOf 79 = .ok (.if_icmp .ne 12, 3) := by decide +kernel
theorem dX6_cellOf_82 : decode cX6_cellOf 82 = .ok (.aload_n 0, 1) := by decide +kernel
theorem dX6_cellOf_83 : decode cX6_cellOf 83 = .ok (.getfield 19, 3) := by decide +kernel
theorem dX6_cellOf_86 : decode cX6_cellOf 86 = .ok (.iload_n 1, 1) := by decide +kernel
theorem dX6_cellOf_87 : decode cX6_cellOf 87 = .ok (.iaload, 1) := by decide +kernel
theorem dX6_cellOf_88 : decode cX6_cellOf 88 = .ok (.goto 15, 3) := by decide +kernel
theorem dX6_cellOf_91 : decode cX6_cellOf 91 = .ok (.aload_n 0, 1) := by decide +kernel
theorem dX6_cellOf_92 : decode cX6_cellOf 92 = .ok (.getfield 34, 3) := by decide +kernel
theorem dX6_cellOf_95 : decode cX6_cellOf 95 = .ok (.iconst 4, 1) := by decide +kernel
theorem dX6_cellOf_96 : decode cX6_cellOf 96 = .ok (.iload_n 1, 1) := by decide +kernel
theorem dX6_cellOf_97 : decode cX6_cellOf 97 = .ok (.imul, 1) := by decide +kernel
theorem dX6_cellOf_98 : decode cX6_cellOf 98 = .ok (.iload_n 2, 1) := by decide +kernel
theorem dX6_cellOf_99 : decode cX6_cellOf 99 = .ok (.iadd, 1) := by decide +kernel
theorem dX6_cellOf_100 : decode cX6_cellOf 100 = .ok (.iconst 4, 1) := by decide +kernel
theorem dX6_cellOf_101 : decode cX6_cellOf 101 = .ok (.isub, 1) := by decide +kernel
theorem dX6_cellOf_102 : decode cX6_cellOf 102 = .ok (.iaload, 1) := by decide +kernel
theorem dX6_cellOf_103 : decode cX6_cellOf 103 = .ok (.ireturn, 1) := by decide +kernel
theorem dX6_bodyOf_0 : decode cX6_bodyOf 0 = .ok (.aload_n 0, 1) := by decide +kernel
theorem dX6_bodyOf_1 : decode cX6_bodyOf 1 = .ok (.iload_n 1, 1) := by decide +kernel
theorem dX6_bodyOf_2 : decode cX6_bodyOf 2 = .ok (.iconst 0, 1) := by decide +kernel
theorem dX6_bodyOf_3 : decode cX6_bodyOf 3 = .ok (.iconst 3, 1) := by decide +kernel
theorem dX6_bodyOf_4 : decode cX6_bodyOf 4 = .ok (.invokestatic 62, 3) := by decide +kernel
theorem dX6_bodyOf_7 : decode cX6_bodyOf 7 = .ok (.ifCond .ne 7, 3) := by decide +kernel
theorem dX6_bodyOf_10 : decode cX6_bodyOf 10 = .ok (.iconst 1, 1) := by decide +kernel
theorem dX6_bodyOf_11 : decode cX6_bodyOf 11 = .ok (.goto 17, 3) := by decide +kernel
theorem dX6_bodyOf_14 : decode cX6_bodyOf 14 = .ok (.iload_n 2, 1) := by decide +kernel
theorem dX6_bodyOf_15 : decode cX6_bodyOf 15 = .ok (.iconst 0, 1) := by decide +kernel
theorem dX6_bodyOf_16 : decode cX6_bodyOf 16 = .ok (.iconst 5, 1) := by decide +kernel
theorem dX6_bodyOf_17 : decode cX6_bodyOf 17 = .ok (.invokestatic 62, 3) := by decide +kernel
theorem dX6_bodyOf_20 : decode cX6_bodyOf 20 = .ok (.ifCond .ne 7, 3) := by decide +kernel
theorem dX6_bodyOf_23 : decode cX6_bodyOf 23 = .ok (.iconst 2, 1) := by decide +kernel
theorem dX6_bodyOf_24 : decode cX6_bodyOf 24 = .ok (.goto 4, 3) := by decide +kernel
theorem dX6_bodyOf_27 : decode cX6_bodyOf 27 = .ok (.iconst 0, 1) := by decide +kernel
theorem dX6_bodyOf_28 : decode cX6_bodyOf 28 = .ok (.invokevirtual 84, 3) := by decide +kernel
theorem dX6_bodyOf_31 : decode cX6_bodyOf 31 = .ok (.ifCond .eq 5, 3) := by decide +kernel
theorem dX6_bodyOf_34 : decode cX6_bodyOf 34 = .ok (.iconst 0, 1) := by decide +kernel
theorem dX6_bodyOf_35 : decode cX6_bodyOf 35 = .ok (.ireturn, 1) := by decide +kernel
theorem dX6_bodyOf_36 : decode cX6_bodyOf 36 = .ok (.iconst 3, 1) := by decide +kernel
theorem dX6_bodyOf_37 : decode cX6_bodyOf 37 = .ok (.iload_n 1, 1) := by decide +kernel
theorem dX6_bodyOf_38 : decode cX6_bodyOf 38 = .ok (.imul, 1) := by decide +kernel
theorem dX6_bodyOf_39 : decode cX6_bodyOf 39 = .ok (.istore_n 3, 1) := by decide +kernel
theorem dX6_bodyOf_40 : decode cX6_bodyOf 40 = .ok (.iload_n 2, 1) := by decide +kernel
theorem dX6_bodyOf_41 : decode cX6_bodyOf 41 = .ok (.ifCond .ne 11, 3) := by decide +kernel
theorem dX6_bodyOf_44 : decode cX6_bodyOf 44 = .ok (.aload_n 0, 1) := by decide +kernel
theorem dX6_bodyOf_45 : decode cX6_bodyOf 45 = .ok (.iload_n 1, 1) := by decide +kernel
theorem dX6_bodyOf_46 : decode cX6_bodyOf 46 = .ok (.invokevirtual 73, 3) := by decide +kernel
theorem dX6_bodyOf_49 : decode cX6_bodyOf 49 = .ok (.goto 45, 3) := by decide +kernel
theorem dX6_bodyOf_52 : decode cX6_bodyOf 52 = .ok (.iload_n 2, 1) := by decide +kernel
theorem dX6_bodyOf_53 : decode cX6_bodyOf 53 = .ok (.iconst 4, 1) := by decide +kernel
theorem dX6_bodyOf_54 : decode cX6_bodyOf 54 = .ok (.if_icmp .ge 16, 3) := by decide +kernel
theorem dX6_bodyOf_57 : decode cX6_bodyOf 57 = .ok (.aload_n 0, 1) := by decide +kernel
theorem dX6_bodyOf_58 : decode cX6_bodyOf 58 = .ok (.getfield 40, 3) := by decide +kernel
theorem dX6_bodyOf_61 : decode cX6_bodyOf 61 = .ok (.iload_n 3, 1) := by decide +kernel
theorem dX6_bodyOf_62 : decode cX6_bodyOf 62 = .ok (.iload_n 2, 1) := by decide +kernel
theorem dX6_bodyOf_63 : decode cX6_bodyOf 63 = .ok (.iadd, 1) := by decide +kernel
theorem dX6_bodyOf_64 : decode cX6_bodyOf 64 = .ok (.iconst 1, 1) := by decide +kernel
theorem dX6_bodyOf_65 : decode cX6_bodyOf 65 = .ok (.isub, 1) := by decide +kernel
theorem dX6_bodyOf_66 : decode cX6_bodyOf 66 = .ok (.iaload, 1) := by decide +kernel
theorem dX6_bodyOf_67 : decode cX6_bodyOf 67 = .ok (.goto 27, 3) := by decide +kernel
theorem dX6_bodyOf_70 : decode cX6_bodyOf 70 = .ok (.aload_n 0, 1) := by decide +kernel
theorem dX6_bodyOf_71 : decode cX6_bodyOf 71 = .ok (.getfield 40, 3) := by decide +kernel
theorem dX6_bodyOf_74 : decode cX6_bodyOf 74 = .ok (.iload_n 3, 1) := by decide +kernel
theorem dX6_bodyOf_75 : decode cX6_bodyOf 75 = .ok (.iload_n 2, 1) := by decide +kernel
theorem dX6_bodyOf_76 : decode cX6_bodyOf 76 = .ok (.iadd, 1) := by decide +kernel
theorem dX6_bodyOf_77 : decode cX6_bodyOf 77 = .ok (.iconst 3, 1) := by decide +kernel
theorem dX6_bodyOf_78 : decode cX6_bodyOf 78 = .ok (.isub, 1) := by decide +kernel
theorem dX6_bodyOf_79 : decode cX6_bodyOf 79 = .ok (.iaload, 1) := by decide +kernel
theorem dX6_bodyOf_80 : decode cX6_bodyOf 80 = .ok (.aload_n 0, 1) := by decide +kernel
theorem dX6_bodyOf_81 : decode cX6_bodyOf 81 = .ok (.getfield 43, 3) := by decide +kernel
theorem dX6_bodyOf_84 : decode cX6_bodyOf 84 = .ok (.iload_n 1, 1) := by decide +kernel
theorem dX6_bodyOf_85 : decode cX6_bodyOf 85 = .ok (.iaload, 1) := by decide +kernel
theorem dX6_bodyOf_86 : decode cX6_bodyOf 86 = .ok (.aload_n 0, 1) := by decide +kernel
theorem dX6_bodyOf_87 : decode cX6_bodyOf 87 = .ok (.getfield 40, 3) := by decide +kernel
theorem dX6_bodyOf_90 : decode cX6_bodyOf 90 = .ok (.iload_n 3, 1) := by decide +kernel
theorem dX6_bodyOf_91 : decode cX6_bodyOf 91 = .ok (.iaload, 1) := by decide +kernel
theorem dX6_bodyOf_92 : decode cX6_bodyOf 92 = .ok (.imul, 1) := by decide +kernel
theorem dX6_bodyOf_93 : decode cX6_bodyOf 93 = .ok (.iadd, 1) := by decide +kernel
theorem dX6_bodyOf_94 : decode cX6_bodyOf 94 = .ok (.ireturn, 1) := by decide +kernel
theorem dX6_rightOf_0 : decode cX6_rightOf 0 = .ok (.iload_n 0, 1) := by decide +kernel
theorem dX6_rightOf_1 : decode cX6_rightOf 1 = .ok (.iconst 1, 1) := by decide +kernel
theorem dX6_rightOf_2 : decode cX6_rightOf 2 = .ok (.iand, 1) := by decide +kernel
theorem dX6_rightOf_3 : decode cX6_rightOf 3 = .ok (.iload_n 0, 1) := by decide +kernel
theorem dX6_rightOf_4 : decode cX6_rightOf 4 = .ok (.iconst 2, 1) := by decide +kernel
theorem dX6_rightOf_5 : decode cX6_rightOf 5 = .ok (.ishr, 1) := by decide +kernel
theorem dX6_rightOf_6 : decode cX6_rightOf 6 = .ok (.iconst 1, 1) := by decide +kernel
theorem dX6_rightOf_7 : decode cX6_rightOf 7 = .ok (.iand, 1) := by decide +kernel
theorem dX6_rightOf_8 : decode cX6_rightOf 8 = .ok (.isub, 1) := by decide +kernel
theorem dX6_rightOf_9 : decode cX6_rightOf 9 = .ok (.ireturn, 1) := by decide +kernel
theorem dX6_upOf_0 : decode cX6_upOf 0 = .ok (.iload_n 0, 1) := by decide +kernel
theorem dX6_upOf_1 : decode cX6_upOf 1 = .ok (.iconst 1, 1) := by decide +kernel
theorem dX6_upOf_2 : decode cX6_upOf 2 = .ok (.ishr, 1) := by decide +kernel
theorem dX6_upOf_3 : decode cX6_upOf 3 = .ok (.iconst 1, 1) := by decide +kernel
theorem dX6_upOf_4 : decode cX6_upOf 4 = .ok (.iand, 1) := by decide +kernel
theorem dX6_upOf_5 : decode cX6_upOf 5 = .ok (.iload_n 0, 1) := by decide +kernel
theorem dX6_upOf_6 : decode cX6_upOf 6 = .ok (.iconst 3, 1) := by decide +kernel
theorem dX6_upOf_7 : decode cX6_upOf 7 = .ok (.ishr, 1) := by decide +kernel
theorem dX6_upOf_8 : decode cX6_upOf 8 = .ok (.iconst 1, 1) := by decide +kernel
theorem dX6_upOf_9 : decode cX6_upOf 9 = .ok (.iand, 1) := by decide +kernel
theorem dX6_upOf_10 : decode cX6_upOf 10 = .ok (.isub, 1) := by decide +kernel
theorem dX6_upOf_11 : decode cX6_upOf 11 = .ok (.ireturn, 1) := by decide +kernel
theorem dX6_sum_0 : decode cX6_sum 0 = .ok (.aload_n 0, 1) := by decide +kernel
theorem dX6_sum_1 : decode cX6_sum 1 = .ok (.iload_n 1, 1) := by decide +kernel
theorem dX6_sum_2 : decode cX6_sum 2 = .ok (.iconst 0, 1) := by decide +kernel
theorem dX6_sum_3 : decode cX6_sum 3 = .ok (.bipush 7, 2) := by decide +kernel
theorem dX6_sum_5 : decode cX6_sum 5 = .ok (.invokestatic 62, 3) := by decide +kernel
theorem dX6_sum_8 : decode cX6_sum 8 = .ok (.ifCond .eq 7, 3) := by decide +kernel
theorem dX6_sum_11 : decode cX6_sum 11 = .ok (.iconst 0, 1) := by decide +kernel
theorem dX6_sum_12 : decode cX6_sum 12 = .ok (.goto 4, 3) := by decide +kernel
theorem dX6_sum_15 : decode cX6_sum 15 = .ok (.iconst 1, 1) := by decide +kernel
theorem dX6_sum_16 : decode cX6_sum 16 = .ok (.invokevirtual 84, 3) := by decide +kernel
theorem dX6_sum_19 : decode cX6_sum 19 = .ok (.ifCond .eq 5, 3) := by decide +kernel
theorem dX6_sum_22 : decode cX6_sum 22 = .ok (.lconst 0, 1) := by decide +kernel
theorem dX6_sum_23 : decode cX6_sum 23 = .ok (.lreturn, 1) := by decide +kernel
theorem dX6_sum_24 : decode cX6_sum 24 = .ok (.lconst 0, 1) := by decide +kernel
theorem dX6_sum_25 : decode cX6_sum 25 = .ok (.lstore_n 2, 1) := by decide +kernel
theorem dX6_sum_26 : decode cX6_sum 26 = .ok (.iconst 0, 1) := by decide +kernel
theorem dX6_sum_27 : decode cX6_sum 27 = .ok (.istore 4, 2) := by decide +kernel
theorem dX6_sum_29 : decode cX6_sum 29 = .ok (.iload 4, 2) := by decide +kernel
theorem dX6_sum_31 : decode cX6_sum 31 = .ok (.bipush 96, 2) := by decide +kernel
theorem dX6_sum_33 : decode cX6_sum 33 = .ok (.if_icmp .ge 91, 3) := by decide +kernel
theorem dX6_sum_36 : decode cX6_sum 36 = .ok (.iload_n 1, 1) := by decide +kernel
theorem dX6_sum_37 : decode cX6_sum 37 = .ok (.iconst 1, 1) := by decide +kernel
theorem dX6_sum_38 : decode cX6_sum 38 = .ok (.if_icmp .le 86, 3) := by decide +kernel
theorem dX6_sum_41 : decode cX6_sum 41 = .ok (.iload_n 1, 1) := by decide +kernel
theorem dX6_sum_42 : decode cX6_sum 42 = .ok (.bipush 6, 2) := by decide +kernel
theorem dX6_sum_44 : decode cX6_sum 44 = .ok (.if_icmp .ge 80, 3) := by decide +kernel
theorem dX6_sum_47 : decode cX6_sum 47 = .ok (.lload_n 2, 1) := by decide +kernel
theorem dX6_sum_48 : decode cX6_sum 48 = .ok (.iload_n 1, 1) := by decide +kernel
theorem dX6_sum_49 : decode cX6_sum 49 = .ok (.iconst 2, 1) := by decide +kernel
theorem dX6_sum_50 : decode cX6_sum 50 = .ok (.if_icmp .ne 17, 3) := by decide +kernel
theorem dX6_sum_53 : decode cX6_sum 53 = .ok (.aload_n 0, 1) := by decide +kernel
theorem dX6_sum_54 : decode cX6_sum 54 = .ok (.getfield 16, 3) := by decide +kernel
theorem dX6_sum_57 : decode cX6_sum 57 = .ok (.iload 4, 2) := by decide +kernel
theorem dX6_sum_59 : decode cX6_sum 59 = .ok (.iaload, 1) := by decide +kernel
theorem dX6_sum_60 : decode cX6_sum 60 = .ok (.invokestatic 90, 3) := by decide +kernel
theorem dX6_sum_63 : decode cX6_sum 63 = .ok (.i2l, 1) := by decide +kernel
theorem dX6_sum_64 : decode cX6_sum 64 = .ok (.goto 52, 3) := by decide +kernel
theorem dX6_sum_67 : decode cX6_sum 67 = .ok (.iload_n 1, 1) := by decide +kernel
theorem dX6_sum_68 : decode cX6_sum 68 = .ok (.iconst 3, 1) := by decide +kernel
theorem dX6_sum_69 : decode cX6_sum 69 = .ok (.if_icmp .ne 17, 3) := by decide +kernel
theorem dX6_sum_72 : decode cX6_sum 72 = .ok (.aload_n 0, 1) := by decide +kernel
theorem dX6_sum_73 : decode cX6_sum 73 = .ok (.getfield 19, 3) := by decide +kernel
theorem dX6_sum_76 : decode cX6_sum 76 = .ok (.iload 4, 2) := by decide +kernel
theorem dX6_sum_78 : decode cX6_sum 78 = .ok (.iaload, 1) := by decide +kernel
theorem dX6_sum_79 : decode cX6_sum 79 = .ok (.invokestatic 90, 3) := by decide +kernel
theorem dX6_sum_82 : decode cX6_sum 82 = .ok (.i2l, 1) := by decide +kernel
theorem dX6_sum_83 : decode cX6_sum 83 = .ok (.goto 33, 3) := by decide +kernel
theorem dX6_sum_86 : decode cX6_sum 86 = .ok (.iload_n 1, 1) := by decide +kernel
theorem dX6_sum_87 : decode cX6_sum 87 = .ok (.iconst 4, 1) := by decide +kernel
theorem dX6_sum_88 : decode cX6_sum 88 = .ok (.if_icmp .ne 17, 3) := by decide +kernel
theorem dX6_sum_91 : decode cX6_sum 91 = .ok (.aload_n 0, 1) := by decide +kernel
theorem dX6_sum_92 : decode cX6_sum 92 = .ok (.getfield 16, 3) := by decide +kernel
theorem dX6_sum_95 : decode cX6_sum 95 = .ok (.iload 4, 2) := by decide +kernel
theorem dX6_sum_97 : decode cX6_sum 97 = .ok (.iaload, 1) := by decide +kernel
theorem dX6_sum_98 : decode cX6_sum 98 = .ok (.invokestatic 151, 3) := by decide +kernel
theorem dX6_sum_101 : decode cX6_sum 101 = .ok (.i2l, 1) := by decide +kernel
theorem dX6_sum_102 : decode cX6_sum 102 = .ok (.goto 14, 3) := by decide +kernel
theorem dX6_sum_105 : decode cX6_sum 105 = .ok (.aload_n 0, 1) := by decide +kernel
theorem dX6_sum_106 : decode cX6_sum 106 = .ok (.getfield 16, 3) := by decide +kernel
theorem dX6_sum_109 : decode cX6_sum 109 = .ok (.iload 4, 2) := by decide +kernel
theorem dX6_sum_111 : decode cX6_sum 111 = .ok (.iaload, 1) := by decide +kernel
theorem dX6_sum_112 : decode cX6_sum 112 = .ok (.invokestatic 154, 3) := by decide +kernel
theorem dX6_sum_115 : decode cX6_sum 115 = .ok (.i2l, 1) := by decide +kernel
theorem dX6_sum_116 : decode cX6_sum 116 = .ok (.ladd, 1) := by decide +kernel
theorem dX6_sum_117 : decode cX6_sum 117 = .ok (.lstore_n 2, 1) := by decide +kernel
theorem dX6_sum_118 : decode cX6_sum 118 = .ok (.iinc 4 1, 3) := by decide +kernel
theorem dX6_sum_121 : decode cX6_sum 121 = .ok (.goto (-92), 3) := by decide +kernel
theorem dX6_sum_124 : decode cX6_sum 124 = .ok (.iload_n 1, 1) := by decide +kernel
theorem dX6_sum_125 : decode cX6_sum 125 = .ok (.ifCond .ne 11, 3) := by decide +kernel
theorem dX6_sum_128 : decode cX6_sum 128 = .ok (.aload_n 0, 1) := by decide +kernel
theorem dX6_sum_129 : decode cX6_sum 129 = .ok (.getfield 123, 3) := by decide +kernel
theorem dX6_sum_132 : decode cX6_sum 132 = .ok (.i2l, 1) := by decide +kernel
theorem dX6_sum_133 : decode cX6_sum 133 = .ok (.goto 43, 3) := by decide +kernel
theorem dX6_sum_136 : decode cX6_sum 136 = .ok (.iload_n 1, 1) := by decide +kernel
theorem dX6_sum_137 : decode cX6_sum 137 = .ok (.iconst 1, 1) := by decide +kernel
theorem dX6_sum_138 : decode cX6_sum 138 = .ok (.if_icmp .ne 11, 3) := by decide +kernel
theorem dX6_sum_141 : decode cX6_sum 141 = .ok (.aload_n 0, 1) := by decide +kernel
theorem dX6_sum_142 : decode cX6_sum 142 = .ok (.getfield 87, 3) := by decide +kernel
theorem dX6_sum_145 : decode cX6_sum 145 = .ok (.i2l, 1) := by decide +kernel
theorem dX6_sum_146 : decode cX6_sum 146 = .ok (.goto 30, 3) := by decide +kernel
theorem dX6_sum_149 : decode cX6_sum 149 = .ok (.iload_n 1, 1) := by decide +kernel
theorem dX6_sum_150 : decode cX6_sum 150 = .ok (.bipush 6, 2) := by decide +kernel
theorem dX6_sum_152 : decode cX6_sum 152 = .ok (.if_icmp .ne 10, 3) := by decide +kernel
theorem dX6_sum_155 : decode cX6_sum 155 = .ok (.aload_n 0, 1) := by decide +kernel
theorem dX6_sum_156 : decode cX6_sum 156 = .ok (.getfield 134, 3) := by decide +kernel
theorem dX6_sum_159 : decode cX6_sum 159 = .ok (.goto 17, 3) := by decide +kernel
theorem dX6_sum_162 : decode cX6_sum 162 = .ok (.iload_n 1, 1) := by decide +kernel
theorem dX6_sum_163 : decode cX6_sum 163 = .ok (.bipush 7, 2) := by decide +kernel
theorem dX6_sum_165 : decode cX6_sum 165 = .ok (.if_icmp .ne 10, 3) := by decide +kernel
theorem dX6_sum_168 : decode cX6_sum 168 = .ok (.aload_n 0, 1) := by decide +kernel
theorem dX6_sum_169 : decode cX6_sum 169 = .ok (.invokevirtual 94, 3) := by decide +kernel
theorem dX6_sum_172 : decode cX6_sum 172 = .ok (.goto 4, 3) := by decide +kernel
theorem dX6_sum_175 : decode cX6_sum 175 = .ok (.lload_n 2, 1) := by decide +kernel
theorem dX6_sum_176 : decode cX6_sum 176 = .ok (.lreturn, 1) := by decide +kernel
theorem dX6_left_0 : decode cX6_left 0 = .ok (.aload_n 0, 1) := by decide +kernel
theorem dX6_left_1 : decode cX6_left 1 = .ok (.iconst 0, 1) := by decide +kernel
theorem dX6_left_2 : decode cX6_left 2 = .ok (.putfield 58, 3) := by decide +kernel
theorem dX6_left_5 : decode cX6_left 5 = .ok (.lconst 0, 1) := by decide +kernel
theorem dX6_left_6 : decode cX6_left 6 = .ok (.lreturn, 1) := by decide +kernel
theorem dX6_isWindow_0 : decode cX6_isWindow 0 = .ok (.iload_n 0, 1) := by decide +kernel
theorem dX6_isWindow_1 : decode cX6_isWindow 1 = .ok (.iconst 0, 1) := by decide +kernel
theorem dX6_isWindow_2 : decode cX6_isWindow 2 = .ok (.bipush 7, 2) := by decide +kernel
theorem dX6_isWindow_4 : decode cX6_isWindow 4 = .ok (.invokestatic 62, 3) := by decide +kernel
theorem dX6_isWindow_7 : decode cX6_isWindow 7 = .ok (.ifCond .eq 45, 3) := by decide +kernel
theorem dX6_isWindow_10 : decode cX6_isWindow 10 = .ok (.iload_n 1, 1) := by decide +kernel
theorem dX6_isWindow_11 : decode cX6_isWindow 11 = .ok (.iconst 0, 1) := by decide +kernel
theorem dX6_isWindow_12 : decode cX6_isWindow 12 = .ok (.bipush 11, 2) := by decide +kernel
theorem dX6_isWindow_14 : decode cX6_isWindow 14 = .ok (.invokestatic 62, 3) := by decide +kernel
theorem dX6_isWindow_17 : decode cX6_isWindow 17 = .ok (.ifCond .eq 35, 3) := by decide +kernel
theorem dX6_isWindow_20 : decode cX6_isWindow 20 = .ok (.iload_n 2, 1) := by decide +kernel
theorem dX6_isWindow_21 : decode cX6_isWindow 21 = .ok (.iconst 1, 1) := by decide +kernel
theorem dX6_isWindow_22 : decode cX6_isWindow 22 = .ok (.bipush 8, 2) := by decide +kernel
theorem dX6_isWindow_24 : decode cX6_isWindow 24 = .ok (.invokestatic 62, 3) := by decide +kernel
theorem dX6_isWindow_27 : decode cX6_isWindow 27 = .ok (.ifCond .eq 25, 3) := by decide +kernel
theorem dX6_isWindow_30 : decode cX6_isWindow 30 = .ok (.iload_n 3, 1) := by decide +kernel
theorem dX6_isWindow_31 : decode cX6_isWindow 31 = .ok (.iconst 1, 1) := by decide +kernel
theorem dX6_isWindow_32 : decode cX6_isWindow 32 = .ok (.bipush 12, 2) := by decide +kernel
theorem dX6_isWindow_34 : decode cX6_isWindow 34 = .ok (.invokestatic 62, 3) := by decide +kernel
theorem dX6_isWindow_37 : decode cX6_isWindow 37 = .ok (.ifCond .eq 15, 3) := by decide +kernel
theorem dX6_isWindow_40 : decode cX6_isWindow 40 = .ok (.iload_n 0, 1) := by decide +kernel
theorem dX6_isWindow_41 : decode cX6_isWindow 41 = .ok (.iload_n 2, 1) := by decide +kernel
theorem dX6_isWindow_42 : decode cX6_isWindow 42 = .ok (.iadd, 1) := by decide +kernel
theorem dX6_isWindow_43 : decode cX6_isWindow 43 = .ok (.bipush 8, 2) := by decide +kernel
theorem dX6_isWindow_45 : decode cX6_isWindow 45 = .ok (.if_icmp .gt 7, 3) := by decide +kernel
theorem dX6_isWindow_48 : decode cX6_isWindow 48 = .ok (.iconst 1, 1) := by decide +kernel
theorem dX6_isWindow_49 : decode cX6_isWindow 49 = .ok (.goto 4, 3) := by decide +kernel
theorem dX6_isWindow_52 : decode cX6_isWindow 52 = .ok (.iconst 0, 1) := by decide +kernel
theorem dX6_isWindow_53 : decode cX6_isWindow 53 = .ok (.ireturn, 1) := by decide +kernel
theorem dX6_seen_0 : decode cX6_seen 0 = .ok (.iconst 4, 1) := by decide +kernel
theorem dX6_seen_1 : decode cX6_seen 1 = .ok (.iload_n 3, 1) := by decide +kernel
theorem dX6_seen_2 : decode cX6_seen 2 = .ok (.imul, 1) := by decide +kernel
theorem dX6_seen_3 : decode cX6_seen 3 = .ok (.istore 4, 2) := by decide +kernel
theorem dX6_seen_5 : decode cX6_seen 5 = .ok (.iload_n 1, 1) := by decide +kernel
theorem dX6_seen_6 : decode cX6_seen 6 = .ok (.ifCond .eq 98, 3) := by decide +kernel
theorem dX6_seen_9 : decode cX6_seen 9 = .ok (.iload_n 2, 1) := by decide +kernel
theorem dX6_seen_10 : decode cX6_seen 10 = .ok (.ifCond .ne 47, 3) := by decide +kernel
theorem dX6_seen_13 : decode cX6_seen 13 = .ok (.aload_n 0, 1) := by decide +kernel
theorem dX6_seen_14 : decode cX6_seen 14 = .ok (.getfield 34, 3) := by decide +kernel
theorem dX6_seen_17 : decode cX6_seen 17 = .ok (.iload 4, 2) := by decide +kernel
theorem dX6_seen_19 : decode cX6_seen 19 = .ok (.iaload, 1) := by decide +kernel
theorem dX6_seen_20 : decode cX6_seen 20 = .ok (.i2l, 1) := by decide +kernel
theorem dX6_seen_21 : decode cX6_seen 21 = .ok (.aload_n 0, 1) := by decide +kernel
theorem dX6_seen_22 : decode cX6_seen 22 = .ok (.getfield 34, 3) := by decide +kernel
theorem dX6_seen_25 : decode cX6_seen 25 = .ok (.iload 4, 2) := by decide +kernel
theorem dX6_seen_27 : decode cX6_seen 27 = .ok (.iconst 1, 1) := by decide +kernel
theorem dX6_seen_28 : decode cX6_seen 28 = .ok (.iadd, 1) := by decide +kernel
theorem dX6_seen_29 : decode cX6_seen 29 = .ok (.iaload, 1) := by decide +kernel
theorem dX6_seen_30 : decode cX6_seen 30 = .ok (.i2l, 1) := by decide +kernel
theorem dX6_seen_31 : decode cX6_seen 31 = .ok (.ladd, 1) := by decide +kernel
theorem dX6_seen_32 : decode cX6_seen 32 = .ok (.aload_n 0, 1) := by decide +kernel
theorem dX6_seen_33 : decode cX6_seen 33 = .ok (.getfield 34, 3) := by decide +kernel
theorem dX6_seen_36 : decode cX6_seen 36 = .ok (.iload 4, 2) := by decide +kernel
theorem dX6_seen_38 : decode cX6_seen 38 = .ok (.iconst 2, 1) := by decide +kernel
theorem dX6_seen_39 : decode cX6_seen 39 = .ok (.iadd, 1) := by decide +kernel
theorem dX6_seen_40 : decode cX6_seen 40 = .ok (.iaload, 1) := by decide +kernel
theorem dX6_seen_41 : decode cX6_seen 41 = .ok (.i2l, 1) := by decide +kernel
theorem dX6_seen_42 : decode cX6_seen 42 = .ok (.ladd, 1) := by decide +kernel
theorem dX6_seen_43 : decode cX6_seen 43 = .ok (.aload_n 0, 1) := by decide +kernel
theorem dX6_seen_44 : decode cX6_seen 44 = .ok (.getfield 34, 3) := by decide +kernel
theorem dX6_seen_47 : decode cX6_seen 47 = .ok (.iload 4, 2) := by decide +kernel
theorem dX6_seen_49 : decode cX6_seen 49 = .ok (.iconst 3, 1) := by decide +kernel
theorem dX6_seen_50 : decode cX6_seen 50 = .ok (.iadd, 1) := by decide +kernel
theorem dX6_seen_51 : decode cX6_seen 51 = .ok (.iaload, 1) := by decide +kernel
theorem dX6_seen_52 : decode cX6_seen 52 = .ok (.i2l, 1) := by decide +kernel
theorem dX6_seen_53 : decode cX6_seen 53 = .ok (.ladd, 1) := by decide +kernel
theorem dX6_seen_54 : decode cX6_seen 54 = .ok (.goto 49, 3) := by decide +kernel
theorem dX6_seen_57 : decode cX6_seen 57 = .ok (.iload_n 2, 1) := by decide +kernel
theorem dX6_seen_58 : decode cX6_seen 58 = .ok (.iconst 1, 1) := by decide +kernel
theorem dX6_seen_59 : decode cX6_seen 59 = .ok (.if_icmp .ne 24, 3) := by decide +kernel
theorem dX6_seen_62 : decode cX6_seen 62 = .ok (.aload_n 0, 1) := by decide +kernel
theorem dX6_seen_63 : decode cX6_seen 63 = .ok (.getfield 34, 3) := by decide +kernel
theorem dX6_seen_66 : decode cX6_seen 66 = .ok (.iload 4, 2) := by decide +kernel
theorem dX6_seen_68 : decode cX6_seen 68 = .ok (.iaload, 1) := by decide +kernel
theorem dX6_seen_69 : decode cX6_seen 69 = .ok (.aload_n 0, 1) := by decide +kernel
theorem dX6_seen_70 : decode cX6_seen 70 = .ok (.getfield 34, 3) := by decide +kernel
theorem dX6_seen_73 : decode cX6_seen 73 = .ok (.iload 4, 2) := by decide +kernel
theorem dX6_seen_75 : decode cX6_seen 75 = .ok (.iconst 2, 1) := by decide +kernel
theorem dX6_seen_76 : decode cX6_seen 76 = .ok (.iadd, 1) := by decide +kernel
theorem dX6_seen_77 : decode cX6_seen 77 = .ok (.iaload, 1) := by decide +kernel
theorem dX6_seen_78 : decode cX6_seen 78 = .ok (.isub, 1) := by decide +kernel
theorem dX6_seen_79 : decode cX6_seen 79 = .ok (.i2l, 1) := by decide +kernel
theorem dX6_seen_80 : decode cX6_seen 80 = .ok (.goto 23, 3) := by decide +kernel
theorem dX6_seen_83 : decode cX6_seen 83 = .ok (.aload_n 0, 1) := by decide +kernel
theorem dX6_seen_84 : decode cX6_seen 84 = .ok (.getfield 34, 3) := by decide +kernel
theorem dX6_seen_87 : decode cX6_seen 87 = .ok (.iload 4, 2) := by decide +kernel
theorem dX6_seen_89 : decode cX6_seen 89 = .ok (.iconst 1, 1) := by decide +kernel
theorem dX6_seen_90 : decode cX6_seen 90 = .ok (.iadd, 1) := by decide +kernel
theorem dX6_seen_91 : decode cX6_seen 91 = .ok (.iaload, 1) := by decide +kernel
theorem dX6_seen_92 : decode cX6_seen 92 = .ok (.aload_n 0, 1) := by decide +kernel
theorem dX6_seen_93 : decode cX6_seen 93 = .ok (.getfield 34, 3) := by decide +kernel
theorem dX6_seen_96 : decode cX6_seen 96 = .ok (.iload 4, 2) := by decide +kernel
theorem dX6_seen_98 : decode cX6_seen 98 = .ok (.iconst 3, 1) := by decide +kernel
theorem dX6_seen_99 : decode cX6_seen 99 = .ok (.iadd, 1) := by decide +kernel
theorem dX6_seen_100 : decode cX6_seen 100 = .ok (.iaload, 1) := by decide +kernel
theorem dX6_seen_101 : decode cX6_seen 101 = .ok (.isub, 1) := by decide +kernel
theorem dX6_seen_102 : decode cX6_seen 102 = .ok (.i2l, 1) := by decide +kernel
theorem dX6_seen_103 : decode cX6_seen 103 = .ok (.lreturn, 1) := by decide +kernel
theorem dX6_seen_104 : decode cX6_seen 104 = .ok (.iload_n 2, 1) := by decide +kernel
theorem dX6_seen_105 : decode cX6_seen 105 = .ok (.ifCond .ne 16, 3) := by decide +kernel
theorem dX6_seen_108 : decode cX6_seen 108 = .ok (.aload_n 0, 1) := by decide +kernel
theorem dX6_seen_109 : decode cX6_seen 109 = .ok (.getfield 16, 3) := by decide +kernel
theorem dX6_seen_112 : decode cX6_seen 112 = .ok (.iload_n 3, 1) := by decide +kernel
theorem dX6_seen_113 : decode cX6_seen 113 = .ok (.iaload, 1) := by decide +kernel
theorem dX6_seen_114 : decode cX6_seen 114 = .ok (.invokestatic 90, 3) := by decide +kernel
theorem dX6_seen_117 : decode cX6_seen 117 = .ok (.i2l, 1) := by decide +kernel
theorem dX6_seen_118 : decode cX6_seen 118 = .ok (.goto 31, 3) := by decide +kernel
theorem dX6_seen_121 : decode cX6_seen 121 = .ok (.iload_n 2, 1) := by decide +kernel
theorem dX6_seen_122 : decode cX6_seen 122 = .ok (.iconst 1, 1) := by decide +kernel
theorem dX6_seen_123 : decode cX6_seen 123 = .ok (.if_icmp .ne 16, 3) := by decide +kernel
theorem dX6_seen_126 : decode cX6_seen 126 = .ok (.aload_n 0, 1) := by decide +kernel
theorem dX6_seen_127 : decode cX6_seen 127 = .ok (.getfield 16, 3) := by decide +kernel
theorem dX6_seen_130 : decode cX6_seen 130 = .ok (.iload_n 3, 1) := by decide +kernel
theorem dX6_seen_131 : decode cX6_seen 131 = .ok (.iaload, 1) := by decide +kernel
theorem dX6_seen_132 : decode cX6_seen 132 = .ok (.invokestatic 151, 3) := by decide +kernel
theorem dX6_seen_135 : decode cX6_seen 135 = .ok (.i2l, 1) := by decide +kernel
theorem dX6_seen_136 : decode cX6_seen 136 = .ok (.goto 13, 3) := by decide +kernel
theorem dX6_seen_139 : decode cX6_seen 139 = .ok (.aload_n 0, 1) := by decide +kernel
theorem dX6_seen_140 : decode cX6_seen 140 = .ok (.getfield 16, 3) := by decide +kernel
theorem dX6_seen_143 : decode cX6_seen 143 = .ok (.iload_n 3, 1) := by decide +kernel
theorem dX6_seen_144 : decode cX6_seen 144 = .ok (.iaload, 1) := by decide +kernel
theorem dX6_seen_145 : decode cX6_seen 145 = .ok (.invokestatic 154, 3) := by decide +kernel
theorem dX6_seen_148 : decode cX6_seen 148 = .ok (.i2l, 1) := by decide +kernel
theorem dX6_seen_149 : decode cX6_seen 149 = .ok (.lreturn, 1) := by decide +kernel
theorem dX6_look_0 : decode cX6_look 0 = .ok (.aload_n 0, 1) := by decide +kernel
theorem dX6_look_1 : decode cX6_look 1 = .ok (.lconst 0, 1) := by decide +kernel
theorem dX6_look_2 : decode cX6_look 2 = .ok (.putfield 157, 3) := by decide +kernel
theorem dX6_look_5 : decode cX6_look 5 = .ok (.aload_n 0, 1) := by decide +kernel
theorem dX6_look_6 : decode cX6_look 6 = .ok (.lconst 0, 1) := by decide +kernel
theorem dX6_look_7 : decode cX6_look 7 = .ok (.putfield 160, 3) := by decide +kernel
theorem dX6_look_10 : decode cX6_look 10 = .ok (.aload_n 0, 1) := by decide +kernel
theorem dX6_look_11 : decode cX6_look 11 = .ok (.lconst 0, 1) := by decide +kernel
theorem dX6_look_12 : decode cX6_look 12 = .ok (.putfield 163, 3) := by decide +kernel
theorem dX6_look_15 : decode cX6_look 15 = .ok (.iload_n 3, 1) := by decide +kernel
theorem dX6_look_16 : decode cX6_look 16 = .ok (.istore 7, 2) := by decide +kernel
theorem dX6_look_18 : decode cX6_look 18 = .ok (.iload 7, 2) := by decide +kernel
theorem dX6_look_20 : decode cX6_look 20 = .ok (.iload_n 3, 1) := by decide +kernel
theorem dX6_look_21 : decode cX6_look 21 = .ok (.iload 5, 2) := by decide +kernel
theorem dX6_look_23 : decode cX6_look 23 = .ok (.iadd, 1) := by decide +kernel
theorem dX6_look_24 : decode cX6_look 24 = .ok (.if_icmp .ge 98, 3) := by decide +kernel
theorem dX6_look_27 : decode cX6_look 27 = .ok (.iload 4, 2) := by decide +kernel
theorem dX6_look_29 : decode cX6_look 29 = .ok (.istore 8, 2) := by decide +kernel
theorem dX6_look_31 : decode cX6_look 31 = .ok (.iload 8, 2) := by decide +kernel
theorem dX6_look_33 : decode cX6_look 33 = .ok (.iload 4, 2) := by decide +kernel
theorem dX6_look_35 : decode cX6_look 35 = .ok (.iload 6, 2) := by decide +kernel
theorem dX6_look_37 : decode cX6_look 37 = .ok (.iadd, 1) := by decide +kernel
theorem dX6_look_38 : decode cX6_look 38 = .ok (.if_icmp .ge 78, 3) := by decide +kernel
theorem dX6_look_41 : decode cX6_look 41 = .ok (.bipush 12, 2) := by decide +kernel
theorem dX6_look_43 : decode cX6_look 43 = .ok (.iload 7, 2) := by decide +kernel
theorem dX6_look_45 : decode cX6_look 45 = .ok (.imul, 1) := by decide +kernel
theorem dX6_look_46 : decode cX6_look 46 = .ok (.iload 8, 2) := by decide +kernel
theorem dX6_look_48 : decode cX6_look 48 = .ok (.bipush 12, 2) := by decide +kernel
theorem dX6_look_50 : decode cX6_look 50 = .ok (.irem, 1) := by decide +kernel
theorem dX6_look_51 : decode cX6_look 51 = .ok (.iadd, 1) := by decide +kernel
theorem dX6_look_52 : decode cX6_look 52 = .ok (.istore 9, 2) := by decide +kernel
theorem dX6_look_54 : decode cX6_look 54 = .ok (.aload_n 0, 1) := by decide +kernel
theorem dX6_look_55 : decode cX6_look 55 = .ok (.getfield 7, 3) := by decide +kernel
theorem dX6_look_58 : decode cX6_look 58 = .ok (.iload 9, 2) := by decide +kernel
theorem dX6_look_60 : decode cX6_look 60 = .ok (.iaload, 1) := by decide +kernel
theorem dX6_look_61 : decode cX6_look 61 = .ok (.iconst 1, 1) := by decide +kernel
theorem dX6_look_62 : decode cX6_look 62 = .ok (.if_icmp .eq 48, 3) := by decide +kernel
theorem dX6_look_65 : decode cX6_look 65 = .ok (.aload_n 0, 1) := by decide +kernel
theorem dX6_look_66 : decode cX6_look 66 = .ok (.iload_n 1, 1) := by decide +kernel
theorem dX6_look_67 : decode cX6_look 67 = .ok (.iload_n 2, 1) := by decide +kernel
theorem dX6_look_68 : decode cX6_look 68 = .ok (.iload 9, 2) := by decide +kernel
theorem dX6_look_70 : decode cX6_look 70 = .ok (.invokevirtual 166, 3) := by decide +kernel
theorem dX6_look_73 : decode cX6_look 73 = .ok (.lstore 10, 2) := by decide +kernel
theorem dX6_look_75 : decode cX6_look 75 = .ok (.aload_n 0, 1) := by decide +kernel
theorem dX6_look_76 : decode cX6_look 76 = .ok (.dup, 1) := by decide +kernel
theorem dX6_look_77 : decode cX6_look 77 = .ok (.getfield 157, 3) := by decide +kernel
theorem dX6_look_80 : decode cX6_look 80 = .ok (.lconst 1, 1) := by decide +kernel
theorem dX6_look_81 : decode cX6_look 81 = .ok (.ladd, 1) := by decide +kernel
theorem dX6_look_82 : decode cX6_look 82 = .ok (.putfield 157, 3) := by decide +kernel
theorem dX6_look_85 : decode cX6_look 85 = .ok (.aload_n 0, 1) := by decide +kernel
theorem dX6_look_86 : decode cX6_look 86 = .ok (.dup, 1) := by decide +kernel
theorem dX6_look_87 : decode cX6_look 87 = .ok (.getfield 160, 3) := by decide +kernel
theorem dX6_look_90 : decode cX6_look 90 = .ok (.lload 10, 2) := by decide +kernel
theorem dX6_look_92 : decode cX6_look 92 = .ok (.ladd, 1) := by decide +kernel
theorem dX6_look_93 : decode cX6_look 93 = .ok (.putfield 160, 3) := by decide +kernel
theorem dX6_look_96 : decode cX6_look 96 = .ok (.aload_n 0, 1) := by decide +kernel
theorem dX6_look_97 : decode cX6_look 97 = .ok (.dup, 1) := by decide +kernel
theorem dX6_look_98 : decode cX6_look 98 = .ok (.getfield 163, 3) := by decide +kernel
theorem dX6_look_101 : decode cX6_look 101 = .ok (.lload 10, 2) := by decide +kernel
theorem dX6_look_103 : decode cX6_look 103 = .ok (.lload 10, 2) := by decide +kernel
theorem dX6_look_105 : decode cX6_look 105 = .ok (.lmul, 1) := by decide +kernel
theorem dX6_look_106 : decode cX6_look 106 = .ok (.ladd, 1) := by decide +kernel
theorem dX6_look_107 : decode cX6_look 107 = .ok (.putfield 163, 3) := by decide +kernel
theorem dX6_look_110 : decode cX6_look 110 = .ok (.iinc 8 1, 3) := by decide +kernel
theorem dX6_look_113 : decode cX6_look 113 = .ok (.goto (-82), 3) := by decide +kernel
theorem dX6_look_116 : decode cX6_look 116 = .ok (.iinc 7 1, 3) := by decide +kernel
theorem dX6_look_119 : decode cX6_look 119 = .ok (.goto (-101), 3) := by decide +kernel
theorem dX6_look_122 : decode cX6_look 122 = .ok (.return_, 1) := by decide +kernel
theorem dX6_average_0 : decode cX6_average 0 = .ok (.aload_n 0, 1) := by decide +kernel
theorem dX6_average_1 : decode cX6_average 1 = .ok (.iload_n 2, 1) := by decide +kernel
theorem dX6_average_2 : decode cX6_average 2 = .ok (.iconst 0, 1) := by decide +kernel
theorem dX6_average_3 : decode cX6_average 3 = .ok (.iconst 2, 1) := by decide +kernel
theorem dX6_average_4 : decode cX6_average 4 = .ok (.invokestatic 62, 3) := by decide +kernel
theorem dX6_average_7 : decode cX6_average 7 = .ok (.ifCond .eq 20, 3) := by decide +kernel
theorem dX6_average_10 : decode cX6_average 10 = .ok (.iload_n 3, 1) := by decide +kernel
theorem dX6_average_11 : decode cX6_average 11 = .ok (.iload 4, 2) := by decide +kernel
theorem dX6_average_13 : decode cX6_average 13 = .ok (.iload 5, 2) := by decide +kernel
theorem dX6_average_15 : decode cX6_average 15 = .ok (.iload 6, 2) := by decide +kernel
theorem dX6_average_17 : decode cX6_average 17 = .ok (.invokestatic 170, 3) := by decide +kernel
theorem dX6_average_20 : decode cX6_average 20 = .ok (.ifCond .eq 7, 3) := by decide +kernel
theorem dX6_average_23 : decode cX6_average 23 = .ok (.iconst 0, 1) := by decide +kernel
theorem dX6_average_24 : decode cX6_average 24 = .ok (.goto 4, 3) := by decide +kernel
theorem dX6_average_27 : decode cX6_average 27 = .ok (.iconst 1, 1) := by decide +kernel
theorem dX6_average_28 : decode cX6_average 28 = .ok (.invokevirtual 84, 3) := by decide +kernel
theorem dX6_average_31 : decode cX6_average 31 = .ok (.ifCond .eq 5, 3) := by decide +kernel
theorem dX6_average_34 : decode cX6_average 34 = .ok (.lconst 0, 1) := by decide +kernel
theorem dX6_average_35 : decode cX6_average 35 = .ok (.lreturn, 1) := by decide +kernel
theorem dX6_average_36 : decode cX6_average 36 = .ok (.aload_n 0, 1) := by decide +kernel
theorem dX6_average_37 : decode cX6_average 37 = .ok (.iload_n 1, 1) := by decide +kernel
theorem dX6_average_38 : decode cX6_average 38 = .ok (.iload_n 2, 1) := by decide +kernel
theorem dX6_average_39 : decode cX6_average 39 = .ok (.iload_n 3, 1) := by decide +kernel
theorem dX6_average_40 : decode cX6_average 40 = .ok (.iload 4, 2) := by decide +kernel
theorem dX6_average_42 : decode cX6_average 42 = .ok (.iload 5, 2) := by decide +kernel
theorem dX6_average_44 : decode cX6_average 44 = .ok (.iload 6, 2) := by decide +kernel
theorem dX6_average_46 : decode cX6_average 46 = .ok (.invokevirtual 174, 3) := by decide +kernel
theorem dX6_average_49 : decode cX6_average 49 = .ok (.aload_n 0, 1) := by decide +kernel
theorem dX6_average_50 : decode cX6_average 50 = .ok (.getfield 157, 3) := by decide +kernel
theorem dX6_average_53 : decode cX6_average 53 = .ok (.lconst 0, 1) := by decide +kernel
theorem dX6_average_54 : decode cX6_average 54 = .ok (.lcmp, 1) := by decide +kernel
theorem dX6_average_55 : decode cX6_average 55 = .ok (.ifCond .ne 5, 3) := by decide +kernel
theorem dX6_average_58 : decode cX6_average 58 = .ok (.lconst 0, 1) := by decide +kernel
theorem dX6_average_59 : decode cX6_average 59 = .ok (.lreturn, 1) := by decide +kernel
theorem dX6_average_60 : decode cX6_average 60 = .ok (.ldc2_w 178, 3) := by decide +kernel
theorem dX6_average_63 : decode cX6_average 63 = .ok (.aload_n 0, 1) := by decide +kernel
theorem dX6_average_64 : decode cX6_average 64 = .ok (.getfield 160, 3) := by decide +kernel
theorem dX6_average_67 : decode cX6_average 67 = .ok (.lmul, 1) := by decide +kernel
theorem dX6_average_68 : decode cX6_average 68 = .ok (.lstore 7, 2) := by decide +kernel
theorem dX6_average_70 : decode cX6_average 70 = .ok (.lload 7, 2) := by decide +kernel
theorem dX6_average_72 : decode cX6_average 72 = .ok (.aload_n 0, 1) := by decide +kernel
theorem dX6_average_73 : decode cX6_average 73 = .ok (.getfield 157, 3) := by decide +kernel
theorem dX6_average_76 : decode cX6_average 76 = .ok (.ldiv, 1) := by decide +kernel
theorem dX6_average_77 : decode cX6_average 77 = .ok (.lload 7, 2) := by decide +kernel
theorem dX6_average_79 : decode cX6_average 79 = .ok (.aload_n 0, 1) := by decide +kernel
theorem dX6_average_80 : decode cX6_average 80 = .ok (.getfield 157, 3) := by decide +kernel
theorem dX6_average_83 : decode cX6_average 83 = .ok (.lrem, 1) := by decide +kernel
theorem dX6_average_84 : decode cX6_average 84 = .ok (.lconst 0, 1) := by decide +kernel
theorem dX6_average_85 : decode cX6_average 85 = .ok (.lcmp, 1) := by decide +kernel
theorem dX6_average_86 : decode cX6_average 86 = .ok (.ifCond .ge 7, 3) := by decide +kernel
theorem dX6_average_89 : decode cX6_average 89 = .ok (.lconst 1, 1) := by decide +kernel
theorem dX6_average_90 : decode cX6_average 90 = .ok (.goto 4, 3) := by decide +kernel
theorem dX6_average_93 : decode cX6_average 93 = .ok (.lconst 0, 1) := by decide +kernel
theorem dX6_average_94 : decode cX6_average 94 = .ok (.lsub, 1) := by decide +kernel
theorem dX6_average_95 : decode cX6_average 95 = .ok (.lreturn, 1) := by decide +kernel
theorem dX6_scatter_0 : decode cX6_scatter 0 = .ok (.aload_n 0, 1) := by decide +kernel
theorem dX6_scatter_1 : decode cX6_scatter 1 = .ok (.iload_n 2, 1) := by decide +kernel
theorem dX6_scatter_2 : decode cX6_scatter 2 = .ok (.iconst 0, 1) := by decide +kernel
theorem dX6_scatter_3 : decode cX6_scatter 3 = .ok (.iconst 2, 1) := by decide +kernel
theorem dX6_scatter_4 : decode cX6_scatter 4 = .ok (.invokestatic 62, 3) := by decide +kernel
theorem dX6_scatter_7 : decode cX6_scatter 7 = .ok (.ifCond .eq 20, 3) := by decide +kernel
theorem dX6_scatter_10 : decode cX6_scatter 10 = .ok (.iload_n 3, 1) := by decide +kernel
theorem dX6_scatter_11 : decode cX6_scatter 11 = .ok (.iload 4, 2) := by decide +kernel
theorem dX6_scatter_13 : decode cX6_scatter 13 = .ok (.iload 5, 2) := by decide +kernel
theorem dX6_scatter_15 : decode cX6_scatter 15 = .ok (.iload 6, 2) := by decide +kernel
theorem dX6_scatter_17 : decode cX6_scatter 17 = .ok (.invokestatic 170, 3) := by decide +kernel
theorem dX6_scatter_20 : decode cX6_scatter 20 = .ok (.ifCond .eq 7, 3) := by decide +kernel
theorem dX6_scatter_23 : decode cX6_scatter 23 = .ok (.iconst 0, 1) := by decide +kernel
theorem dX6_scatter_24 : decode cX6_scatter 24 = .ok (.goto 4, 3) := by decide +kernel
theorem dX6_scatter_27 : decode cX6_scatter 27 = .ok (.iconst 1, 1) := by decide +kernel
theorem dX6_scatter_28 : decode cX6_scatter 28 = .ok (.invokevirtual 84, 3) := by decide +kernel
theorem dX6_scatter_31 : decode cX6_scatter 31 = .ok (.ifCond .eq 5, 3) := by decide +kernel
theorem dX6_scatter_34 : decode cX6_scatter 34 = .ok (.lconst 0, 1) := by decide +kernel
theorem dX6_scatter_35 : decode cX6_scatter 35 = .ok (.lreturn, 1) := by decide +kernel
theorem dX6_scatter_36 : decode cX6_scatter 36 = .ok (.aload_n 0, 1) := by decide +kernel
theorem dX6_scatter_37 : decode cX6_scatter 37 = .ok (.iload_n 1, 1) := by decide +kernel
theorem dX6_scatter_38 : decode cX6_scatter 38 = .ok (.iload_n 2, 1) := by decide +kernel
theorem dX6_scatter_39 : decode cX6_scatter 39 = .ok (.iload_n 3, 1) := by decide +kernel
theorem dX6_scatter_40 : decode cX6_scatter 40 = .ok (.iload 4, 2) := by decide +kernel
theorem dX6_scatter_42 : decode cX6_scatter 42 = .ok (.iload 5, 2) := by decide +kernel
theorem dX6_scatter_44 : decode cX6_scatter 44 = .ok (.iload 6, 2) := by decide +kernel
theorem dX6_scatter_46 : decode cX6_scatter 46 = .ok (.invokevirtual 174, 3) := by decide +kernel
theorem dX6_scatter_49 : decode cX6_scatter 49 = .ok (.aload_n 0, 1) := by decide +kernel
theorem dX6_scatter_50 : decode cX6_scatter 50 = .ok (.getfield 157, 3) := by decide +kernel
theorem dX6_scatter_53 : decode cX6_scatter 53 = .ok (.lconst 0, 1) := by decide +kernel
theorem dX6_scatter_54 : decode cX6_scatter 54 = .ok (.lcmp, 1) := by decide +kernel
theorem dX6_scatter_55 : decode cX6_scatter 55 = .ok (.ifCond .ne 7, 3) := by decide +kernel
theorem dX6_scatter_58 : decode cX6_scatter 58 = .ok (.lconst 0, 1) := by decide +kernel
theorem dX6_scatter_59 : decode cX6_scatter 59 = .ok (.goto 36, 3) := by decide +kernel
theorem dX6_scatter_62 : decode cX6_scatter 62 = .ok (.ldc2_w 178, 3) := by decide +kernel
theorem dX6_scatter_65 : decode cX6_scatter 65 = .ok (.aload_n 0, 1) := by decide +kernel
theorem dX6_scatter_66 : decode cX6_scatter 66 = .ok (.getfield 157, 3) := by decide +kernel
theorem dX6_scatter_69 : decode cX6_scatter 69 = .ok (.aload_n 0, 1) := by decide +kernel
theorem dX6_scatter_70 : decode cX6_scatter 70 = .ok (.getfield 163, 3) := by decide +kernel
theorem dX6_scatter_73 : decode cX6_scatter 73 = .ok (.lmul, 1) := by decide +kernel
theorem dX6_scatter_74 : decode cX6_scatter 74 = .ok (.aload_n 0, 1) := by decide +kernel
theorem dX6_scatter_75 : decode cX6_scatter 75 = .ok (.getfield 160, 3) := by decide +kernel
theorem dX6_scatter_78 : decode cX6_scatter 78 = .ok (.aload_n 0, 1) := by decide +kernel
theorem dX6_scatter_79 : decode cX6_scatter 79 = .ok (.getfield 160, 3) := by decide +kernel
theorem dX6_scatter_82 : decode cX6_scatter 82 = .ok (.lmul, 1) := by decide +kernel
theorem dX6_scatter_83 : decode cX6_scatter 83 = .ok (.lsub, 1) := by decide +kernel
theorem dX6_scatter_84 : decode cX6_scatter 84 = .ok (.lmul, 1) := by decide +kernel
theorem dX6_scatter_85 : decode cX6_scatter 85 = .ok (.aload_n 0, 1) := by decide +kernel
theorem dX6_scatter_86 : decode cX6_scatter 86 = .ok (.getfield 157, 3) := by decide +kernel
theorem dX6_scatter_89 : decode cX6_scatter 89 = .ok (.aload_n 0, 1) := by decide +kernel
theorem dX6_scatter_90 : decode cX6_scatter 90 = .ok (.getfield 157, 3) := by decide +kernel
theorem dX6_scatter_93 : decode cX6_scatter 93 = .ok (.lmul, 1) := by decide +kernel
theorem dX6_scatter_94 : decode cX6_scatter 94 = .ok (.ldiv, 1) := by decide +kernel
theorem dX6_scatter_95 : decode cX6_scatter 95 = .ok (.lreturn, 1) := by decide +kernel
theorem dX6_likeness_0 : decode cX6_likeness 0 = .ok (.aload_n 0, 1) := by decide +kernel
theorem dX6_likeness_1 : decode cX6_likeness 1 = .ok (.iload_n 1, 1) := by decide +kernel
theorem dX6_likeness_2 : decode cX6_likeness 2 = .ok (.iload_n 2, 1) := by decide +kernel
theorem dX6_likeness_3 : decode cX6_likeness 3 = .ok (.iload_n 3, 1) := by decide +kernel
theorem dX6_likeness_4 : decode cX6_likeness 4 = .ok (.iload 4, 2) := by decide +kernel
theorem dX6_likeness_6 : decode cX6_likeness 6 = .ok (.invokestatic 170, 3) := by decide +kernel
theorem dX6_likeness_9 : decode cX6_likeness 9 = .ok (.ifCond .eq 7, 3) := by decide +kernel
theorem dX6_likeness_12 : decode cX6_likeness 12 = .ok (.iconst 0, 1) := by decide +kernel
theorem dX6_likeness_13 : decode cX6_likeness 13 = .ok (.goto 4, 3) := by decide +kernel
theorem dX6_likeness_16 : decode cX6_likeness 16 = .ok (.iconst 1, 1) := by decide +kernel
theorem dX6_likeness_17 : decode cX6_likeness 17 = .ok (.invokevirtual 84, 3) := by decide +kernel
theorem dX6_likeness_20 : decode cX6_likeness 20 = .ok (.ifCond .eq 5, 3) := by decide +kernel
theorem dX6_likeness_23 : decode cX6_likeness 23 = .ok (.fconst 0, 1) := by decide +kernel
theorem dX6_likeness_24 : decode cX6_likeness 24 = .ok (.freturn, 1) := by decide +kernel
theorem dX6_likeness_25 : decode cX6_likeness 25 = .ok (.aload_n 0, 1) := by decide +kernel
theorem dX6_likeness_26 : decode cX6_likeness 26 = .ok (.iconst 0, 1) := by decide +kernel
theorem dX6_likeness_27 : decode cX6_likeness 27 = .ok (.iconst 1, 1) := by decide +kernel
theorem dX6_likeness_28 : decode cX6_likeness 28 = .ok (.iload_n 1, 1) := by decide +kernel
theorem dX6_likeness_29 : decode cX6_likeness 29 = .ok (.iload_n 2, 1) := by decide +kernel
theorem dX6_likeness_30 : decode cX6_likeness 30 = .ok (.iload_n 3, 1) := by decide +kernel
theorem dX6_likeness_31 : decode cX6_likeness 31 = .ok (.iload 4, 2) := by decide +kernel
theorem dX6_likeness_33 : decode cX6_likeness 33 = .ok (.invokevirtual 174, 3) := by decide +kernel
theorem dX6_likeness_36 : decode cX6_likeness 36 = .ok (.aload_n 0, 1) := by decide +kernel
theorem dX6_likeness_37 : decode cX6_likeness 37 = .ok (.getfield 160, 3) := by decide +kernel
theorem dX6_likeness_40 : decode cX6_likeness 40 = .ok (.l2f, 1) := by decide +kernel
theorem dX6_likeness_41 : decode cX6_likeness 41 = .ok (.fstore 5, 2) := by decide +kernel
theorem dX6_likeness_43 : decode cX6_likeness 43 = .ok (.aload_n 0, 1) := by decide +kernel
theorem dX6_likeness_44 : decode cX6_likeness 44 = .ok (.iconst 0, 1) := by decide +kernel
theorem dX6_likeness_45 : decode cX6_likeness 45 = .ok (.iconst 0, 1) := by decide +kernel
theorem dX6_likeness_46 : decode cX6_likeness 46 = .ok (.iload_n 1, 1) := by decide +kernel
theorem dX6_likeness_47 : decode cX6_likeness 47 = .ok (.iload_n 2, 1) := by decide +kernel
theorem dX6_likeness_48 : decode cX6_likeness 48 = .ok (.iload_n 3, 1) := by decide +kernel
theorem dX6_likeness_49 : decode cX6_likeness 49 = .ok (.iload 4, 2) := by decide +kernel
theorem dX6_likeness_51 : decode cX6_likeness 51 = .ok (.invokevirtual 174, 3) := by decide +kernel
theorem dX6_likeness_54 : decode cX6_likeness 54 = .ok (.aload_n 0, 1) := by decide +kernel
theorem dX6_likeness_55 : decode cX6_likeness 55 = .ok (.getfield 160, 3) := by decide +kernel
theorem dX6_likeness_58 : decode cX6_likeness 58 = .ok (.lconst 0, 1) := by decide +kernel
theorem dX6_likeness_59 : decode cX6_likeness 59 = .ok (.lcmp, 1) := by decide +kernel
theorem dX6_likeness_60 : decode cX6_likeness 60 = .ok (.ifCond .ne 5, 3) := by decide +kernel
theorem dX6_likeness_63 : decode cX6_likeness 63 = .ok (.fconst 0, 1) := by decide +kernel
theorem dX6_likeness_64 : decode cX6_likeness 64 = .ok (.freturn, 1) := by decide +kernel
theorem dX6_likeness_65 : decode cX6_likeness 65 = .ok (.aload_n 0, 1) := by decide +kernel
theorem dX6_likeness_66 : decode cX6_likeness 66 = .ok (.getfield 160, 3) := by decide +kernel
theorem dX6_likeness_69 : decode cX6_likeness 69 = .ok (.l2f, 1) := by decide +kernel
theorem dX6_likeness_70 : decode cX6_likeness 70 = .ok (.fstore 6, 2) := by decide +kernel
theorem dX6_likeness_72 : decode cX6_likeness 72 = .ok (.fload 5, 2) := by decide +kernel
theorem dX6_likeness_74 : decode cX6_likeness 74 = .ok (.fload 6, 2) := by decide +kernel
theorem dX6_likeness_76 : decode cX6_likeness 76 = .ok (.fdiv, 1) := by decide +kernel
theorem dX6_likeness_77 : decode cX6_likeness 77 = .ok (.fstore 7, 2) := by decide +kernel
theorem dX6_likeness_79 : decode cX6_likeness 79 = .ok (.fload 6, 2) := by decide +kernel
theorem dX6_likeness_81 : decode cX6_likeness 81 = .ok (.aload_n 0, 1) := by decide +kernel
theorem dX6_likeness_82 : decode cX6_likeness 82 = .ok (.getfield 157, 3) := by decide +kernel
theorem dX6_likeness_85 : decode cX6_likeness 85 = .ok (.l2f, 1) := by decide +kernel
theorem dX6_likeness_86 : decode cX6_likeness 86 = .ok (.fdiv, 1) := by decide +kernel
theorem dX6_likeness_87 : decode cX6_likeness 87 = .ok (.fstore 8, 2) := by decide +kernel
theorem dX6_likeness_89 : decode cX6_likeness 89 = .ok (.fload 7, 2) := by decide +kernel
theorem dX6_likeness_91 : decode cX6_likeness 91 = .ok (.iload_n 3, 1) := by decide +kernel
theorem dX6_likeness_92 : decode cX6_likeness 92 = .ok (.i2f, 1) := by decide +kernel
theorem dX6_likeness_93 : decode cX6_likeness 93 = .ok (.fmul, 1) := by decide +kernel
theorem dX6_likeness_94 : decode cX6_likeness 94 = .ok (.fload 8, 2) := by decide +kernel
theorem dX6_likeness_96 : decode cX6_likeness 96 = .ok (.fmul, 1) := by decide +kernel
theorem dX6_likeness_97 : decode cX6_likeness 97 = .ok (.freturn, 1) := by decide +kernel
theorem dX6_copy_0 : decode cX6_copy 0 = .ok (.iconst 0, 1) := by decide +kernel
theorem dX6_copy_1 : decode cX6_copy 1 = .ok (.istore_n 1, 1) := by decide +kernel
theorem dX6_copy_2 : decode cX6_copy 2 = .ok (.iload_n 1, 1) := by decide +kernel
theorem dX6_copy_3 : decode cX6_copy 3 = .ok (.bipush 96, 2) := by decide +kernel
theorem dX6_copy_5 : decode cX6_copy 5 = .ok (.if_icmp .ge 33, 3) := by decide +kernel
theorem dX6_copy_8 : decode cX6_copy 8 = .ok (.aload_n 0, 1) := by decide +kernel
theorem dX6_copy_9 : decode cX6_copy 9 = .ok (.getfield 28, 3) := by decide +kernel
theorem dX6_copy_12 : decode cX6_copy 12 = .ok (.iload_n 1, 1) := by decide +kernel
theorem dX6_copy_13 : decode cX6_copy 13 = .ok (.aload_n 0, 1) := by decide +kernel
theorem dX6_copy_14 : decode cX6_copy 14 = .ok (.getfield 16, 3) := by decide +kernel
theorem dX6_copy_17 : decode cX6_copy 17 = .ok (.iload_n 1, 1) := by decide +kernel
theorem dX6_copy_18 : decode cX6_copy 18 = .ok (.iaload, 1) := by decide +kernel
theorem dX6_copy_19 : decode cX6_copy 19 = .ok (.iastore, 1) := by decide +kernel
theorem dX6_copy_20 : decode cX6_copy 20 = .ok (.aload_n 0, 1) := by decide +kernel
theorem dX6_copy_21 : decode cX6_copy 21 = .ok (.getfield 31, 3) := by decide +kernel
theorem dX6_copy_24 : decode cX6_copy 24 = .ok (.iload_n 1, 1) := by decide +kernel
theorem dX6_copy_25 : decode cX6_copy 25 = .ok (.aload_n 0, 1) := by decide +kernel
theorem dX6_copy_26 : decode cX6_copy 26 = .ok (.getfield 19, 3) := by decide +kernel
theorem dX6_copy_29 : decode cX6_copy 29 = .ok (.iload_n 1, 1) := by decide +kernel
theorem dX6_copy_30 : decode cX6_copy 30 = .ok (.iaload, 1) := by decide +kernel
theorem dX6_copy_31 : decode cX6_copy 31 = .ok (.iastore, 1) := by decide +kernel
theorem dX6_copy_32 : decode cX6_copy 32 = .ok (.iinc 1 1, 3) := by decide +kernel
theorem dX6_copy_35 : decode cX6_copy 35 = .ok (.goto (-33), 3) := by decide +kernel
theorem dX6_copy_38 : decode cX6_copy 38 = .ok (.return_, 1) := by decide +kernel
theorem dX6_ahead_0 : decode cX6_ahead 0 = .ok (.aload_n 0, 1) := by decide +kernel
theorem dX6_ahead_1 : decode cX6_ahead 1 = .ok (.aload_n 0, 1) := by decide +kernel
theorem dX6_ahead_2 : decode cX6_ahead 2 = .ok (.iload_n 1, 1) := by decide +kernel
theorem dX6_ahead_3 : decode cX6_ahead 3 = .ok (.invokevirtual 77, 3) := by decide +kernel
theorem dX6_ahead_6 : decode cX6_ahead 6 = .ok (.ifCond .ne 7, 3) := by decide +kernel
theorem dX6_ahead_9 : decode cX6_ahead 9 = .ok (.iconst 1, 1) := by decide +kernel
theorem dX6_ahead_10 : decode cX6_ahead 10 = .ok (.goto 17, 3) := by decide +kernel
theorem dX6_ahead_13 : decode cX6_ahead 13 = .ok (.iload_n 2, 1) := by decide +kernel
theorem dX6_ahead_14 : decode cX6_ahead 14 = .ok (.iconst 0, 1) := by decide +kernel
theorem dX6_ahead_15 : decode cX6_ahead 15 = .ok (.iconst 5, 1) := by decide +kernel
theorem dX6_ahead_16 : decode cX6_ahead 16 = .ok (.invokestatic 62, 3) := by decide +kernel
theorem dX6_ahead_19 : decode cX6_ahead 19 = .ok (.ifCond .ne 7, 3) := by decide +kernel
theorem dX6_ahead_22 : decode cX6_ahead 22 = .ok (.iconst 2, 1) := by decide +kernel
theorem dX6_ahead_23 : decode cX6_ahead 23 = .ok (.goto 4, 3) := by decide +kernel
theorem dX6_ahead_26 : decode cX6_ahead 26 = .ok (.iconst 0, 1) := by decide +kernel
theorem dX6_ahead_27 : decode cX6_ahead 27 = .ok (.invokevirtual 84, 3) := by decide +kernel
theorem dX6_ahead_30 : decode cX6_ahead 30 = .ok (.ifCond .eq 5, 3) := by decide +kernel
theorem dX6_ahead_33 : decode cX6_ahead 33 = .ok (.iconst 0, 1) := by decide +kernel
theorem dX6_ahead_34 : decode cX6_ahead 34 = .ok (.ireturn, 1) := by decide +kernel
theorem dX6_ahead_35 : decode cX6_ahead 35 = .ok (.aload_n 0, 1) := by decide +kernel
theorem dX6_ahead_36 : decode cX6_ahead 36 = .ok (.invokevirtual 180, 3) := by decide +kernel
theorem dX6_ahead_39 : decode cX6_ahead 39 = .ok (.iconst 0, 1) := by decide +kernel
theorem dX6_ahead_40 : decode cX6_ahead 40 = .ok (.istore_n 3, 1) := by decide +kernel
theorem dX6_ahead_41 : decode cX6_ahead 41 = .ok (.iload_n 3, 1) := by decide +kernel
theorem dX6_ahead_42 : decode cX6_ahead 42 = .ok (.iload_n 2, 1) := by decide +kernel
theorem dX6_ahead_43 : decode cX6_ahead 43 = .ok (.if_icmp .ge 21, 3) := by decide +kernel
theorem dX6_ahead_46 : decode cX6_ahead 46 = .ok (.aload_n 0, 1) := by decide +kernel
theorem dX6_ahead_47 : decode cX6_ahead 47 = .ok (.aload_n 0, 1) := by decide +kernel
theorem dX6_ahead_48 : decode cX6_ahead 48 = .ok (.getfield 28, 3) := by decide +kernel
theorem dX6_ahead_51 : decode cX6_ahead 51 = .ok (.aload_n 0, 1) := by decide +kernel
theorem dX6_ahead_52 : decode cX6_ahead 52 = .ok (.getfield 31, 3) := by decide +kernel
theorem dX6_ahead_55 : decode cX6_ahead 55 = .ok (.invokevirtual 130, 3) := by decide +kernel
theorem dX6_ahead_58 : decode cX6_ahead 58 = .ok (.iinc 3 1, 3) := by decide +kernel
theorem dX6_ahead_61 : decode cX6_ahead 61 = .ok (.goto (-20), 3) := by decide +kernel
theorem dX6_ahead_64 : decode cX6_ahead 64 = .ok (.aload_n 0, 1) := by decide +kernel
theorem dX6_ahead_65 : decode cX6_ahead 65 = .ok (.getfield 28, 3) := by decide +kernel
theorem dX6_ahead_68 : decode cX6_ahead 68 = .ok (.iload_n 1, 1) := by decide +kernel
theorem dX6_ahead_69 : decode cX6_ahead 69 = .ok (.iaload, 1) := by decide +kernel
theorem dX6_ahead_70 : decode cX6_ahead 70 = .ok (.ireturn, 1) := by decide +kernel
theorem dX6_aheadAnew_0 : decode cX6_aheadAnew 0 = .ok (.aload_n 0, 1) := by decide +kernel
theorem dX6_aheadAnew_1 : decode cX6_aheadAnew 1 = .ok (.iload_n 1, 1) := by decide +kernel
theorem dX6_aheadAnew_2 : decode cX6_aheadAnew 2 = .ok (.iload_n 2, 1) := by decide +kernel
theorem dX6_aheadAnew_3 : decode cX6_aheadAnew 3 = .ok (.invokevirtual 183, 3) := by decide +kernel
theorem dX6_aheadAnew_6 : decode cX6_aheadAnew 6 = .ok (.ireturn, 1) := by decide +kernel
theorem dX6_shade_0 : decode cX6_shade 0 = .ok (.aload_n 0, 1) := by decide +kernel
theorem dX6_shade_1 : decode cX6_shade 1 = .ok (.getfield 16, 3) := by decide +kernel
theorem dX6_shade_4 : decode cX6_shade 4 = .ok (.iload_n 1, 1) := by decide +kernel
theorem dX6_shade_5 : decode cX6_shade 5 = .ok (.iaload, 1) := by decide +kernel
theorem dX6_shade_6 : decode cX6_shade 6 = .ok (.ifCond .ne 7, 3) := by decide +kernel
theorem dX6_shade_9 : decode cX6_shade 9 = .ok (.iconst 0, 1) := by decide +kernel
theorem dX6_shade_10 : decode cX6_shade 10 = .ok (.goto 36, 3) := by decide +kernel
theorem dX6_shade_13 : decode cX6_shade 13 = .ok (.aload_n 0, 1) := by decide +kernel
theorem dX6_shade_14 : decode cX6_shade 14 = .ok (.getfield 19, 3) := by decide +kernel
theorem dX6_shade_17 : decode cX6_shade 17 = .ok (.iload_n 1, 1) := by decide +kernel
theorem dX6_shade_18 : decode cX6_shade 18 = .ok (.iaload, 1) := by decide +kernel
theorem dX6_shade_19 : decode cX6_shade 19 = .ok (.aload_n 0, 1) := by decide +kernel
theorem dX6_shade_20 : decode cX6_shade 20 = .ok (.getfield 16, 3) := by decide +kernel
theorem dX6_shade_23 : decode cX6_shade 23 = .ok (.iload_n 1, 1) := by decide +kernel
theorem dX6_shade_24 : decode cX6_shade 24 = .ok (.iaload, 1) := by decide +kernel
theorem dX6_shade_25 : decode cX6_shade 25 = .ok (.if_icmp .ne 7, 3) := by decide +kernel
theorem dX6_shade_28 : decode cX6_shade 28 = .ok (.iconst 1, 1) := by decide +kernel
theorem dX6_shade_29 : decode cX6_shade 29 = .ok (.goto 17, 3) := by decide +kernel
theorem dX6_shade_32 : decode cX6_shade 32 = .ok (.aload_n 0, 1) := by decide +kernel
theorem dX6_shade_33 : decode cX6_shade 33 = .ok (.getfield 19, 3) := by decide +kernel
theorem dX6_shade_36 : decode cX6_shade 36 = .ok (.iload_n 1, 1) := by decide +kernel
theorem dX6_shade_37 : decode cX6_shade 37 = .ok (.iaload, 1) := by decide +kernel
theorem dX6_shade_38 : decode cX6_shade 38 = .ok (.ifCond .ne 7, 3) := by decide +kernel
theorem dX6_shade_41 : decode cX6_shade 41 = .ok (.iconst (-1), 1) := by decide +kernel
theorem dX6_shade_42 : decode cX6_shade 42 = .ok (.goto 4, 3) := by decide +kernel
theorem dX6_shade_45 : decode cX6_shade 45 = .ok (.iconst 0, 1) := by decide +kernel
theorem dX6_shade_46 : decode cX6_shade 46 = .ok (.ireturn, 1) := by decide +kernel
theorem dX6_pairs_0 : decode cX6_pairs 0 = .ok (.lconst 0, 1) := by decide +kernel
theorem dX6_pairs_1 : decode cX6_pairs 1 = .ok (.lstore_n 1, 1) := by decide +kernel
theorem dX6_pairs_2 : decode cX6_pairs 2 = .ok (.iconst 0, 1) := by decide +kernel
theorem dX6_pairs_3 : decode cX6_pairs 3 = .ok (.istore_n 3, 1) := by decide +kernel
theorem dX6_pairs_4 : decode cX6_pairs 4 = .ok (.iload_n 3, 1) := by decide +kernel
theorem dX6_pairs_5 : decode cX6_pairs 5 = .ok (.bipush 96, 2) := by decide +kernel
theorem dX6_pairs_7 : decode cX6_pairs 7 = .ok (.if_icmp .ge 71, 3) := by decide +kernel
theorem dX6_pairs_10 : decode cX6_pairs 10 = .ok (.iload_n 3, 1) := by decide +kernel
theorem dX6_pairs_11 : decode cX6_pairs 11 = .ok (.iconst 3, 1) := by decide +kernel
theorem dX6_pairs_12 : decode cX6_pairs 12 = .ok (.invokestatic 109, 3) := by decide +kernel
theorem dX6_pairs_15 : decode cX6_pairs 15 = .ok (.istore 4, 2) := by decide +kernel
theorem dX6_pairs_17 : decode cX6_pairs 17 = .ok (.lload_n 1, 1) := by decide +kernel
theorem dX6_pairs_18 : decode cX6_pairs 18 = .ok (.aload_n 0, 1) := by decide +kernel
theorem dX6_pairs_19 : decode cX6_pairs 19 = .ok (.iload_n 3, 1) := by decide +kernel
theorem dX6_pairs_20 : decode cX6_pairs 20 = .ok (.invokevirtual 186, 3) := by decide +kernel
theorem dX6_pairs_23 : decode cX6_pairs 23 = .ok (.aload_n 0, 1) := by decide +kernel
theorem dX6_pairs_24 : decode cX6_pairs 24 = .ok (.iload_n 3, 1) := by decide +kernel
theorem dX6_pairs_25 : decode cX6_pairs 25 = .ok (.iconst 0, 1) := by decide +kernel
theorem dX6_pairs_26 : decode cX6_pairs 26 = .ok (.invokestatic 109, 3) := by decide +kernel
theorem dX6_pairs_29 : decode cX6_pairs 29 = .ok (.invokevirtual 186, 3) := by decide +kernel
theorem dX6_pairs_32 : decode cX6_pairs 32 = .ok (.imul, 1) := by decide +kernel
theorem dX6_pairs_33 : decode cX6_pairs 33 = .ok (.ifCond .ge 7, 3) := by decide +kernel
theorem dX6_pairs_36 : decode cX6_pairs 36 = .ok (.lconst 1, 1) := by decide +kernel
theorem dX6_pairs_37 : decode cX6_pairs 37 = .ok (.goto 4, 3) := by decide +kernel
theorem dX6_pairs_40 : decode cX6_pairs 40 = .ok (.lconst 0, 1) := by decide +kernel
theorem dX6_pairs_41 : decode cX6_pairs 41 = .ok (.ladd, 1) := by decide +kernel
theorem dX6_pairs_42 : decode cX6_pairs 42 = .ok (.lstore_n 1, 1) := by decide +kernel
theorem dX6_pairs_43 : decode cX6_pairs 43 = .ok (.lload_n 1, 1) := by decide +kernel
theorem dX6_pairs_44 : decode cX6_pairs 44 = .ok (.iload 4, 2) := by decide +kernel
theorem dX6_pairs_46 : decode cX6_pairs 46 = .ok (.iconst (-1), 1) := by decide +kernel
theorem dX6_pairs_47 : decode cX6_pairs 47 = .ok (.if_icmp .eq 22, 3) := by decide +kernel
theorem dX6_pairs_50 : decode cX6_pairs 50 = .ok (.aload_n 0, 1) := by decide +kernel
theorem dX6_pairs_51 : decode cX6_pairs 51 = .ok (.iload_n 3, 1) := by decide +kernel
theorem dX6_pairs_52 : decode cX6_pairs 52 = .ok (.invokevirtual 186, 3) := by decide +kernel
theorem dX6_pairs_55 : decode cX6_pairs 55 = .ok (.aload_n 0, 1) := by decide +kernel
theorem dX6_pairs_56 : decode cX6_pairs 56 = .ok (.iload 4, 2) := by decide +kernel
theorem dX6_pairs_58 : decode cX6_pairs 58 = .ok (.invokevirtual 186, 3) := by decide +kernel
theorem dX6_pairs_61 : decode cX6_pairs 61 = .ok (.imul, 1) := by decide +kernel
theorem dX6_pairs_62 : decode cX6_pairs 62 = .ok (.ifCond .ge 7, 3) := by decide +kernel
theorem dX6_pairs_65 : decode cX6_pairs 65 = .ok (.lconst 1, 1) := by decide +kernel
theorem dX6_pairs_66 : decode cX6_pairs 66 = .ok (.goto 4, 3) := by decide +kernel
theorem dX6_pairs_69 : decode cX6_pairs 69 = .ok (.lconst 0, 1) := by decide +kernel
theorem dX6_pairs_70 : decode cX6_pairs 70 = .ok (.ladd, 1) := by decide +kernel
theorem dX6_pairs_71 : decode cX6_pairs 71 = .ok (.lstore_n 1, 1) := by decide +kernel
theorem dX6_pairs_72 : decode cX6_pairs 72 = .ok (.iinc 3 1, 3) := by decide +kernel
theorem dX6_pairs_75 : decode cX6_pairs 75 = .ok (.goto (-71), 3) := by decide +kernel
theorem dX6_pairs_78 : decode cX6_pairs 78 = .ok (.lload_n 1, 1) := by decide +kernel
theorem dX6_pairs_79 : decode cX6_pairs 79 = .ok (.lreturn, 1) := by decide +kernel
theorem dX6_blocksOff_0 : decode cX6_blocksOff 0 = .ok (.lconst 0, 1) := by decide +kernel
theorem dX6_blocksOff_1 : decode cX6_blocksOff 1 = .ok (.lstore_n 1, 1) := by decide +kernel
theorem dX6_blocksOff_2 : decode cX6_blocksOff 2 = .ok (.lconst 0, 1) := by decide +kernel
theorem dX6_blocksOff_3 : decode cX6_blocksOff 3 = .ok (.lstore_n 3, 1) := by decide +kernel
theorem dX6_blocksOff_4 : decode cX6_blocksOff 4 = .ok (.lconst 0, 1) := by decide +kernel
theorem dX6_blocksOff_5 : decode cX6_blocksOff 5 = .ok (.lstore 5, 2) := by decide +kernel
theorem dX6_blocksOff_7 : decode cX6_blocksOff 7 = .ok (.iconst 0, 1) := by decide +kernel
theorem dX6_blocksOff_8 : decode cX6_blocksOff 8 = .ok (.istore 7, 2) := by decide +kernel
theorem dX6_blocksOff_10 : decode cX6_blocksOff 10 = .ok (.iload 7, 2) := by decide +kernel
theorem dX6_blocksOff_12 : decode cX6_blocksOff 12 = .ok (.bipush 96, 2) := by decide +kernel
theorem dX6_blocksOff_14 : decode cX6_blocksOff 14 = .ok (.if_icmp .ge 39, 3) := by decide +kernel
theorem dX6_blocksOff_17 : decode cX6_blocksOff 17 = .ok (.lload_n 3, 1) := by decide +kernel
theorem dX6_blocksOff_18 : decode cX6_blocksOff 18 = .ok (.aload_n 0, 1) := by decide +kernel
theorem dX6_blocksOff_19 : decode cX6_blocksOff 19 = .ok (.getfield 16, 3) := by decide +kernel
theorem dX6_blocksOff_22 : decode cX6_blocksOff 22 = .ok (.iload 7, 2) := by decide +kernel
theorem dX6_blocksOff_24 : decode cX6_blocksOff 24 = .ok (.iaload, 1) := by decide +kernel
theorem dX6_blocksOff_25 : decode cX6_blocksOff 25 = .ok (.invokestatic 90, 3) := by decide +kernel
theorem dX6_blocksOff_28 : decode cX6_blocksOff 28 = .ok (.i2l, 1) := by decide +kernel
theorem dX6_blocksOff_29 : decode cX6_blocksOff 29 = .ok (.ladd, 1) := by decide +kernel
theorem dX6_blocksOff_30 : decode cX6_blocksOff 30 = .ok (.lstore_n 3, 1) := by decide +kernel
theorem dX6_blocksOff_31 : decode cX6_blocksOff 31 = .ok (.lload 5, 2) := by decide +kernel
theorem dX6_blocksOff_33 : decode cX6_blocksOff 33 = .ok (.aload_n 0, 1) := by decide +kernel
theorem dX6_blocksOff_34 : decode cX6_blocksOff 34 = .ok (.getfield 19, 3) := by decide +kernel
theorem dX6_blocksOff_37 : decode cX6_blocksOff 37 = .ok (.iload 7, 2) := by decide +kernel
theorem dX6_blocksOff_39 : decode cX6_blocksOff 39 = .ok (.iaload, 1) := by decide +kernel
theorem dX6_blocksOff_40 : decode cX6_blocksOff 40 = .ok (.invokestatic 90, 3) := by decide +kernel
theorem dX6_blocksOff_43 : decode cX6_blocksOff 43 = .ok (.i2l, 1) := by decide +kernel
theorem dX6_blocksOff_44 : decode cX6_blocksOff 44 = .ok (.ladd, 1) := by decide +kernel
theorem dX6_blocksOff_45 : decode cX6_blocksOff 45 = .ok (.lstore 5, 2) := by decide +kernel
theorem dX6_blocksOff_47 : decode cX6_blocksOff 47 = .ok (.iinc 7 1, 3) := by decide +kernel
theorem dX6_blocksOff_50 : decode cX6_blocksOff 50 = .ok (.goto (-40), 3) := by decide +kernel
theorem dX6_blocksOff_53 : decode cX6_blocksOff 53 = .ok (.iconst 0, 1) := by decide +kernel
theorem dX6_blocksOff_54 : decode cX6_blocksOff 54 = .ok (.istore 7, 2) := by decide +kernel
theorem dX6_blocksOff_56 : decode cX6_blocksOff 56 = .ok (.iload 7, 2) := by decide +kernel
theorem dX6_blocksOff_58 : decode cX6_blocksOff 58 = .ok (.bipush 96, 2) := by decide +kernel
theorem dX6_blocksOff_60 : decode cX6_blocksOff 60 = .ok (.if_icmp .ge 164, 3) := by decide +kernel
theorem dX6_blocksOff_63 : decode cX6_blocksOff 63 = .ok (.iload 7, 2) := by decide +kernel
theorem dX6_blocksOff_65 : decode cX6_blocksOff 65 = .ok (.bipush 12, 2) := by decide +kernel
theorem dX6_blocksOff_67 : decode cX6_blocksOff 67 = .ok (.idiv, 1) := by decide +kernel
theorem dX6_blocksOff_68 : decode cX6_blocksOff 68 = .ok (.iconst 2, 1) := by decide +kernel
theorem dX6_blocksOff_69 : decode cX6_blocksOff 69 = .ok (.irem, 1) := by decide +kernel
theorem dX6_blocksOff_70 : decode cX6_blocksOff 70 = .ok (.ifCond .ne 148, 3) := by decide +kernel
theorem dX6_blocksOff_73 : decode cX6_blocksOff 73 = .ok (.iload 7, 2) := by decide +kernel
theorem dX6_blocksOff_75 : decode cX6_blocksOff 75 = .ok (.iconst 2, 1) := by decide +kernel
theorem dX6_blocksOff_76 : decode cX6_blocksOff 76 = .ok (.irem, 1) := by decide +kernel
theorem dX6_blocksOff_77 : decode cX6_blocksOff 77 = .ok (.ifCond .ne 141, 3) := by decide +kernel
theorem dX6_blocksOff_80 : decode cX6_blocksOff 80 = .ok (.aload_n 0, 1) := by decide +kernel
theorem dX6_blocksOff_81 : decode cX6_blocksOff 81 = .ok (.getfield 16, 3) := by decide +kernel
theorem dX6_blocksOff_84 : decode cX6_blocksOff 84 = .ok (.iload 7, 2) := by decide +kernel
theorem dX6_blocksOff_86 : decode cX6_blocksOff 86 = .ok (.iaload, 1) := by decide +kernel
theorem dX6_blocksOff_87 : decode cX6_blocksOff 87 = .ok (.invokestatic 90, 3) := by decide +kernel
theorem dX6_blocksOff_90 : decode cX6_blocksOff 90 = .ok (.aload_n 0, 1) := by decide +kernel
theorem dX6_blocksOff_91 : decode cX6_blocksOff 91 = .ok (.getfield 16, 3) := by decide +kernel
theorem dX6_blocksOff_94 : decode cX6_blocksOff 94 = .ok (.iload 7, 2) := by decide +kernel
theorem dX6_blocksOff_96 : decode cX6_blocksOff 96 = .ok (.iconst 1, 1) := by decide +kernel
theorem dX6_blocksOff_97 : decode cX6_blocksOff 97 = .ok (.iadd, 1) := by decide +kernel
theorem dX6_blocksOff_98 : decode cX6_blocksOff 98 = .ok (.iaload, 1) := by decide +kernel
theorem dX6_blocksOff_99 : decode cX6_blocksOff 99 = .ok (.invokestatic 90, 3) := by decide +kernel
theorem dX6_blocksOff_102 : decode cX6_blocksOff 102 = .ok (.iadd, 1) := by decide +kernel
theorem dX6_blocksOff_103 : decode cX6_blocksOff 103 = .ok (.aload_n 0, 1) := by decide +kernel
theorem dX6_blocksOff_104 : decode cX6_blocksOff 104 = .ok (.getfield 16, 3) := by decide +kernel
theorem dX6_blocksOff_107 : decode cX6_blocksOff 107 = .ok (.iload 7, 2) := by decide +kernel
theorem dX6_blocksOff_109 : decode cX6_blocksOff 109 = .ok (.bipush 12, 2) := by decide +kernel
theorem dX6_blocksOff_111 : decode cX6_blocksOff 111 = .ok (.iadd, 1) := by decide +kernel
theorem dX6_blocksOff_112 : decode cX6_blocksOff 112 = .ok (.iaload, 1) := by decide +kernel
theorem dX6_blocksOff_113 : decode cX6_blocksOff 113 = .ok (.invokestatic 90, 3) := by decide +kernel
theorem dX6_blocksOff_116 : decode cX6_blocksOff 116 = .ok (.iadd, 1) := by decide +kernel
theorem dX6_blocksOff_117 : decode cX6_blocksOff 117 = .ok (.aload_n 0, 1) := by decide +kernel
theorem dX6_blocksOff_118 : decode cX6_blocksOff 118 = .ok (.getfield 16, 3) := by decide +kernel
theorem dX6_blocksOff_121 : decode cX6_blocksOff 121 = .ok (.iload 7, 2) := by decide +kernel
theorem dX6_blocksOff_123 : decode cX6_blocksOff 123 = .ok (.bipush 13, 2) := by decide +kernel
theorem dX6_blocksOff_125 : decode cX6_blocksOff 125 = .ok (.iadd, 1) := by decide +kernel
theorem dX6_blocksOff_126 : decode cX6_blocksOff 126 = .ok (.iaload, 1) := by decide +kernel
theorem dX6_blocksOff_127 : decode cX6_blocksOff 127 = .ok (.invokestatic 90, 3) := by decide +kernel
theorem dX6_blocksOff_130 : decode cX6_blocksOff 130 = .ok (.iadd, 1) := by decide +kernel
theorem dX6_blocksOff_131 : decode cX6_blocksOff 131 = .ok (.i2l, 1) := by decide +kernel
theorem dX6_blocksOff_132 : decode cX6_blocksOff 132 = .ok (.lstore 8, 2) := by decide +kernel
theorem dX6_blocksOff_134 : decode cX6_blocksOff 134 = .ok (.aload_n 0, 1) := by decide +kernel
theorem dX6_blocksOff_135 : decode cX6_blocksOff 135 = .ok (.getfield 19, 3) := by decide +kernel
theorem dX6_blocksOff_138 : decode cX6_blocksOff 138 = .ok (.iload 7, 2) := by decide +kernel
theorem dX6_blocksOff_140 : decode cX6_blocksOff 140 = .ok (.iaload, 1) := by decide +kernel
theorem dX6_blocksOff_141 : decode cX6_blocksOff 141 = .ok (.invokestatic 90, 3) := by decide +kernel
theorem dX6_blocksOff_144 : decode cX6_blocksOff 144 = .ok (.aload_n 0, 1) := by decide +kernel
theorem dX6_blocksOff_145 : decode cX6_blocksOff 145 = .ok (.getfield 19, 3) := by decide +kernel
theorem dX6_blocksOff_148 : decode cX6_blocksOff 148 = .ok (.iload 7, 2) := by decide +kernel
theorem dX6_blocksOff_150 : decode cX6_blocksOff 150 = .ok (.iconst 1, 1) := by decide +kernel
theorem dX6_blocksOff_151 : decode cX6_blocksOff 151 = .ok (.iadd, 1) := by decide +kernel
theorem dX6_blocksOff_152 : decode cX6_blocksOff 152 = .ok (.iaload, 1) := by decide +kernel
theorem dX6_blocksOff_153 : decode cX6_blocksOff 153 = .ok (.invokestatic 90, 3) := by decide +kernel
theorem dX6_blocksOff_156 : decode cX6_blocksOff 156 = .ok (.iadd, 1) := by decide +kernel
theorem dX6_blocksOff_157 : decode cX6_blocksOff 157 = .ok (.aload_n 0, 1) := by decide +kernel
theorem dX6_blocksOff_158 : decode cX6_blocksOff 158 = .ok (.getfield 19, 3) := by decide +kernel
theorem dX6_blocksOff_161 : decode cX6_blocksOff 161 = .ok (.iload 7, 2) := by decide +kernel
theorem dX6_blocksOff_163 : decode cX6_blocksOff 163 = .ok (.bipush 12, 2) := by decide +kernel
theorem dX6_blocksOff_165 : decode cX6_blocksOff 165 = .ok (.iadd, 1) := by decide +kernel
theorem dX6_blocksOff_166 : decode cX6_blocksOff 166 = .ok (.iaload, 1) := by decide +kernel
theorem dX6_blocksOff_167 : decode cX6_blocksOff 167 = .ok (.invokestatic 90, 3) := by decide +kernel
theorem dX6_blocksOff_170 : decode cX6_blocksOff 170 = .ok (.iadd, 1) := by decide +kernel
theorem dX6_blocksOff_171 : decode cX6_blocksOff 171 = .ok (.aload_n 0, 1) := by decide +kernel
theorem dX6_blocksOff_172 : decode cX6_blocksOff 172 = .ok (.getfield 19, 3) := by decide +kernel
theorem dX6_blocksOff_175 : decode cX6_blocksOff 175 = .ok (.iload 7, 2) := by decide +kernel
theorem dX6_blocksOff_177 : decode cX6_blocksOff 177 = .ok (.bipush 13, 2) := by decide +kernel
theorem dX6_blocksOff_179 : decode cX6_blocksOff 179 = .ok (.iadd, 1) := by decide +kernel
theorem dX6_blocksOff_180 : decode cX6_blocksOff 180 = .ok (.iaload, 1) := by decide +kernel
theorem dX6_blocksOff_181 : decode cX6_blocksOff 181 = .ok (.invokestatic 90, 3) := by decide +kernel
theorem dX6_blocksOff_184 : decode cX6_blocksOff 184 = .ok (.iadd, 1) := by decide +kernel
theorem dX6_blocksOff_185 : decode cX6_blocksOff 185 = .ok (.i2l, 1) := by decide +kernel
theorem dX6_blocksOff_186 : decode cX6_blocksOff 186 = .ok (.lstore 10, 2) := by decide +kernel
theorem dX6_blocksOff_188 : decode cX6_blocksOff 188 = .ok (.lload 10, 2) := by decide +kernel
theorem dX6_blocksOff_190 : decode cX6_blocksOff 190 = .ok (.lload_n 3, 1) := by decide +kernel
theorem dX6_blocksOff_191 : decode cX6_blocksOff 191 = .ok (.lmul, 1) := by decide +kernel
theorem dX6_blocksOff_192 : decode cX6_blocksOff 192 = .ok (.lload 5, 2) := by decide +kernel
theorem dX6_blocksOff_194 : decode cX6_blocksOff 194 = .ok (.lload 8, 2) := by decide +kernel
theorem dX6_blocksOff_196 : decode cX6_blocksOff 196 = .ok (.lmul, 1) := by decide +kernel
theorem dX6_blocksOff_197 : decode cX6_blocksOff 197 = .ok (.lsub, 1) := by decide +kernel
theorem dX6_blocksOff_198 : decode cX6_blocksOff 198 = .ok (.lstore 12, 2) := by decide +kernel
theorem dX6_blocksOff_200 : decode cX6_blocksOff 200 = .ok (.lload_n 1, 1) := by decide +kernel
theorem dX6_blocksOff_201 : decode cX6_blocksOff 201 = .ok (.lload 12, 2) := by decide +kernel
theorem dX6_blocksOff_203 : decode cX6_blocksOff 203 = .ok (.lconst 0, 1) := by decide +kernel
theorem dX6_blocksOff_204 : decode cX6_blocksOff 204 = .ok (.lcmp, 1) := by decide +kernel
theorem dX6_blocksOff_205 : decode cX6_blocksOff 205 = .ok (.ifCond .ge 9, 3) := by decide +kernel
theorem dX6_blocksOff_208 : decode cX6_blocksOff 208 = .ok (.lload 12, 2) := by decide +kernel
theorem dX6_blocksOff_210 : decode cX6_blocksOff 210 = .ok (.lneg, 1) := by decide +kernel
theorem dX6_blocksOff_211 : decode cX6_blocksOff 211 = .ok (.goto 5, 3) := by decide +kernel
theorem dX6_blocksOff_214 : decode cX6_blocksOff 214 = .ok (.lload 12, 2) := by decide +kernel
theorem dX6_blocksOff_216 : decode cX6_blocksOff 216 = .ok (.ladd, 1) := by decide +kernel
theorem dX6_blocksOff_217 : decode cX6_blocksOff 217 = .ok (.lstore_n 1, 1) := by decide +kernel
theorem dX6_blocksOff_218 : decode cX6_blocksOff 218 = .ok (.iinc 7 1, 3) := by decide +kernel
theorem dX6_blocksOff_221 : decode cX6_blocksOff 221 = .ok (.goto (-165), 3) := by decide +kernel
theorem dX6_blocksOff_224 : decode cX6_blocksOff 224 = .ok (.lload_n 1, 1) := by decide +kernel
theorem dX6_blocksOff_225 : decode cX6_blocksOff 225 = .ok (.lreturn, 1) := by decide +kernel
end
section
theorem dX6_mixed_0 : decode cX6_mixed 0 = .ok (.aload_n 0, 1) := by decide +kernel
theorem dX6_mixed_1 : decode cX6_mixed 1 = .ok (.iload_n 1, 1) := by decide +kernel
theorem dX6_mixed_2 : decode cX6_mixed 2 = .ok (.iconst 0, 1) := by decide +kernel
theorem dX6_mixed_3 : decode cX6_mixed 3 = .ok (.iconst 1, 1) := by decide +kernel
theorem dX6_mixed_4 : decode cX6_mixed 4 = .ok (.invokestatic 62, 3) := by decide +kernel
theorem dX6_mixed_7 : decode cX6_mixed 7 = .ok (.ifCond .eq 7, 3) := by decide +kernel
theorem dX6_mixed_10 : decode cX6_mixed 10 = .ok (.iconst 0, 1) := by decide +kernel
theorem dX6_mixed_11 : decode cX6_mixed 11 = .ok (.goto 4, 3) := by decide +kernel
theorem dX6_mixed_14 : decode cX6_mixed 14 = .ok (.iconst 1, 1) := by decide +kernel
theorem dX6_mixed_15 : decode cX6_mixed 15 = .ok (.invokevirtual 84, 3) := by decide +kernel
theorem dX6_mixed_18 : decode cX6_mixed 18 = .ok (.ifCond .eq 7, 3) := by decide +kernel
theorem dX6_mixed_21 : decode cX6_mixed 21 = .ok (.lconst 0, 1) := by decide +kernel
theorem dX6_mixed_22 : decode cX6_mixed 22 = .ok (.goto 18, 3) := by decide +kernel
theorem dX6_mixed_25 : decode cX6_mixed 25 = .ok (.iload_n 1, 1) := by decide +kernel
theorem dX6_mixed_26 : decode cX6_mixed 26 = .ok (.ifCond .ne 10, 3) := by decide +kernel
theorem dX6_mixed_29 : decode cX6_mixed 29 = .ok (.aload_n 0, 1) := by decide +kernel
theorem dX6_mixed_30 : decode cX6_mixed 30 = .ok (.invokevirtual 189, 3) := by decide +kernel
theorem dX6_mixed_33 : decode cX6_mixed 33 = .ok (.goto 7, 3) := by decide +kernel
theorem dX6_mixed_36 : decode cX6_mixed 36 = .ok (.aload_n 0, 1) := by decide +kernel
theorem dX6_mixed_37 : decode cX6_mixed 37 = .ok (.invokevirtual 192, 3) := by decide +kernel
theorem dX6_mixed_40 : decode cX6_mixed 40 = .ok (.lreturn, 1) := by decide +kernel
theorem dX6_record_0 : decode cX6_record 0 = .ok (.iload_n 1, 1) := by decide +kernel
theorem dX6_record_1 : decode cX6_record 1 = .ok (.iconst 0, 1) := by decide +kernel
theorem dX6_record_2 : decode cX6_record 2 = .ok (.aload_n 0, 1) := by decide +kernel
theorem dX6_record_3 : decode cX6_record 3 = .ok (.getfield 66, 3) := by decide +kernel
theorem dX6_record_6 : decode cX6_record 6 = .ok (.iconst 1, 1) := by decide +kernel
theorem dX6_record_7 : decode cX6_record 7 = .ok (.isub, 1) := by decide +kernel
theorem dX6_record_8 : decode cX6_record 8 = .ok (.invokestatic 62, 3) := by decide +kernel
theorem dX6_record_11 : decode cX6_record 11 = .ok (.istore_n 3, 1) := by decide +kernel
theorem dX6_record_12 : decode cX6_record 12 = .ok (.aload_n 0, 1) := by decide +kernel
theorem dX6_record_13 : decode cX6_record 13 = .ok (.iload_n 3, 1) := by decide +kernel
theorem dX6_record_14 : decode cX6_record 14 = .ok (.ifCond .eq 31, 3) := by decide +kernel
theorem dX6_record_17 : decode cX6_record 17 = .ok (.iload_n 2, 1) := by decide +kernel
theorem dX6_record_18 : decode cX6_record 18 = .ok (.iconst 0, 1) := by decide +kernel
theorem dX6_record_19 : decode cX6_record 19 = .ok (.aload_n 0, 1) := by decide +kernel
theorem dX6_record_20 : decode cX6_record 20 = .ok (.getfield 52, 3) := by decide +kernel
theorem dX6_record_23 : decode cX6_record 23 = .ok (.iload_n 3, 1) := by decide +kernel
theorem dX6_record_24 : decode cX6_record 24 = .ok (.ifCond .eq 7, 3) := by decide +kernel
theorem dX6_record_27 : decode cX6_record 27 = .ok (.iload_n 1, 1) := by decide +kernel
theorem dX6_record_28 : decode cX6_record 28 = .ok (.goto 4, 3) := by decide +kernel
theorem dX6_record_31 : decode cX6_record 31 = .ok (.iconst 0, 1) := by decide +kernel
theorem dX6_record_32 : decode cX6_record 32 = .ok (.iaload, 1) := by decide +kernel
theorem dX6_record_33 : decode cX6_record 33 = .ok (.iconst 1, 1) := by decide +kernel
theorem dX6_record_34 : decode cX6_record 34 = .ok (.isub, 1) := by decide +kernel
theorem dX6_record_35 : decode cX6_record 35 = .ok (.invokestatic 62, 3) := by decide +kernel
theorem dX6_record_38 : decode cX6_record 38 = .ok (.ifCond .eq 7, 3) := by decide +kernel
theorem dX6_record_41 : decode cX6_record 41 = .ok (.iconst 0, 1) := by decide +kernel
theorem dX6_record_42 : decode cX6_record 42 = .ok (.goto 4, 3) := by decide +kernel
theorem dX6_record_45 : decode cX6_record 45 = .ok (.iconst 1, 1) := by decide +kernel
theorem dX6_record_46 : decode cX6_record 46 = .ok (.invokevirtual 84, 3) := by decide +kernel
theorem dX6_record_49 : decode cX6_record 49 = .ok (.ifCond .eq 7, 3) := by decide +kernel
theorem dX6_record_52 : decode cX6_record 52 = .ok (.iconst 0, 1) := by decide +kernel
theorem dX6_record_53 : decode cX6_record 53 = .ok (.goto 24, 3) := by decide +kernel
theorem dX6_record_56 : decode cX6_record 56 = .ok (.aload_n 0, 1) := by decide +kernel
theorem dX6_record_57 : decode cX6_record 57 = .ok (.getfield 55, 3) := by decide +kernel
theorem dX6_record_60 : decode cX6_record 60 = .ok (.sipush 5000, 3) := by decide +kernel
theorem dX6_record_63 : decode cX6_record 63 = .ok (.iload_n 1, 1) := by decide +kernel
theorem dX6_record_64 : decode cX6_record 64 = .ok (.imul, 1) := by decide +kernel
theorem dX6_record_65 : decode cX6_record 65 = .ok (.aload_n 0, 1) := by decide +kernel
theorem dX6_record_66 : decode cX6_record 66 = .ok (.getfield 52, 3) := by decide +kernel
theorem dX6_record_69 : decode cX6_record 69 = .ok (.iload_n 1, 1) := by decide +kernel
theorem dX6_record_70 : decode cX6_record 70 = .ok (.iaload, 1) := by decide +kernel
theorem dX6_record_71 : decode cX6_record 71 = .ok (.iadd, 1) := by decide +kernel
theorem dX6_record_72 : decode cX6_record 72 = .ok (.iconst 1, 1) := by decide +kernel
theorem dX6_record_73 : decode cX6_record 73 = .ok (.isub, 1) := by decide +kernel
theorem dX6_record_74 : decode cX6_record 74 = .ok (.iload_n 2, 1) := by decide +kernel
theorem dX6_record_75 : decode cX6_record 75 = .ok (.isub, 1) := by decide +kernel
theorem dX6_record_76 : decode cX6_record 76 = .ok (.iaload, 1) := by decide +kernel
theorem dX6_record_77 : decode cX6_record 77 = .ok (.ireturn, 1) := by decide +kernel
theorem dX6_beat_0 : decode cX6_beat 0 = .ok (.aload_n 0, 1) := by decide +kernel
theorem dX6_beat_1 : decode cX6_beat 1 = .ok (.iload_n 1, 1) := by decide +kernel
theorem dX6_beat_2 : decode cX6_beat 2 = .ok (.iconst 0, 1) := by decide +kernel
theorem dX6_beat_3 : decode cX6_beat 3 = .ok (.aload_n 0, 1) := by decide +kernel
theorem dX6_beat_4 : decode cX6_beat 4 = .ok (.getfield 66, 3) := by decide +kernel
theorem dX6_beat_7 : decode cX6_beat 7 = .ok (.iconst 1, 1) := by decide +kernel
theorem dX6_beat_8 : decode cX6_beat 8 = .ok (.isub, 1) := by decide +kernel
theorem dX6_beat_9 : decode cX6_beat 9 = .ok (.invokestatic 62, 3) := by decide +kernel
theorem dX6_beat_12 : decode cX6_beat 12 = .ok (.ifCond .eq 7, 3) := by decide +kernel
theorem dX6_beat_15 : decode cX6_beat 15 = .ok (.iconst 0, 1) := by decide +kernel
theorem dX6_beat_16 : decode cX6_beat 16 = .ok (.goto 4, 3) := by decide +kernel
theorem dX6_beat_19 : decode cX6_beat 19 = .ok (.iconst 1, 1) := by decide +kernel
theorem dX6_beat_20 : decode cX6_beat 20 = .ok (.invokevirtual 84, 3) := by decide +kernel
theorem dX6_beat_23 : decode cX6_beat 23 = .ok (.ifCond .eq 5, 3) := by decide +kernel
theorem dX6_beat_26 : decode cX6_beat 26 = .ok (.iconst 0, 1) := by decide +kernel
theorem dX6_beat_27 : decode cX6_beat 27 = .ok (.ireturn, 1) := by decide +kernel
theorem dX6_beat_28 : decode cX6_beat 28 = .ok (.iconst 0, 1) := by decide +kernel
theorem dX6_beat_29 : decode cX6_beat 29 = .ok (.istore_n 2, 1) := by decide +kernel
theorem dX6_beat_30 : decode cX6_beat 30 = .ok (.iconst 0, 1) := by decide +kernel
theorem dX6_beat_31 : decode cX6_beat 31 = .ok (.istore_n 3, 1) := by decide +kernel
theorem dX6_beat_32 : decode cX6_beat 32 = .ok (.iconst 0, 1) := by decide +kernel
theorem dX6_beat_33 : decode cX6_beat 33 = .ok (.istore 4, 2) := by decide +kernel
theorem dX6_beat_35 : decode cX6_beat 35 = .ok (.iload 4, 2) := by decide +kernel
theorem dX6_beat_37 : decode cX6_beat 37 = .ok (.aload_n 0, 1) := by decide +kernel
theorem dX6_beat_38 : decode cX6_beat 38 = .ok (.getfield 52, 3) := by decide +kernel
theorem dX6_beat_41 : decode cX6_beat 41 = .ok (.iload_n 1, 1) := by decide +kernel
theorem dX6_beat_42 : decode cX6_beat 42 = .ok (.iaload, 1) := by decide +kernel
theorem dX6_beat_43 : decode cX6_beat 43 = .ok (.if_icmp .ge 51, 3) := by decide +kernel
theorem dX6_beat_46 : decode cX6_beat 46 = .ok (.aload_n 0, 1) := by decide +kernel
theorem dX6_beat_47 : decode cX6_beat 47 = .ok (.getfield 55, 3) := by decide +kernel
theorem dX6_beat_50 : decode cX6_beat 50 = .ok (.sipush 5000, 3) := by decide +kernel
theorem dX6_beat_53 : decode cX6_beat 53 = .ok (.iload_n 1, 1) := by decide +kernel
theorem dX6_beat_54 : decode cX6_beat 54 = .ok (.imul, 1) := by decide +kernel
theorem dX6_beat_55 : decode cX6_beat 55 = .ok (.iload 4, 2) := by decide +kernel
theorem dX6_beat_57 : decode cX6_beat 57 = .ok (.iadd, 1) := by decide +kernel
theorem dX6_beat_58 : decode cX6_beat 58 = .ok (.iaload, 1) := by decide +kernel
theorem dX6_beat_59 : decode cX6_beat 59 = .ok (.istore 5, 2) := by decide +kernel
theorem dX6_beat_61 : decode cX6_beat 61 = .ok (.iload_n 2, 1) := by decide +kernel
theorem dX6_beat_62 : decode cX6_beat 62 = .ok (.iload 5, 2) := by decide +kernel
theorem dX6_beat_64 : decode cX6_beat 64 = .ok (.iload_n 3, 1) := by decide +kernel
theorem dX6_beat_65 : decode cX6_beat 65 = .ok (.imul, 1) := by decide +kernel
theorem dX6_beat_66 : decode cX6_beat 66 = .ok (.ifCond .ge 7, 3) := by decide +kernel
theorem dX6_beat_69 : decode cX6_beat 69 = .ok (.iconst 1, 1) := by decide +kernel
theorem dX6_beat_70 : decode cX6_beat 70 = .ok (.goto 4, 3) := by decide +kernel
theorem dX6_beat_73 : decode cX6_beat 73 = .ok (.iconst 0, 1) := by decide +kernel
theorem dX6_beat_74 : decode cX6_beat 74 = .ok (.iadd, 1) := by decide +kernel
theorem dX6_beat_75 : decode cX6_beat 75 = .ok (.istore_n 2, 1) := by decide +kernel
theorem dX6_beat_76 : decode cX6_beat 76 = .ok (.iload 5, 2) := by decide +kernel
theorem dX6_beat_78 : decode cX6_beat 78 = .ok (.ifCond .ne 7, 3) := by decide +kernel
theorem dX6_beat_81 : decode cX6_beat 81 = .ok (.iload_n 3, 1) := by decide +kernel
theorem dX6_beat_82 : decode cX6_beat 82 = .ok (.goto 5, 3) := by decide +kernel
theorem dX6_beat_85 : decode cX6_beat 85 = .ok (.iload 5, 2) := by decide +kernel
theorem dX6_beat_87 : decode cX6_beat 87 = .ok (.istore_n 3, 1) := by decide +kernel
theorem dX6_beat_88 : decode cX6_beat 88 = .ok (.iinc 4 1, 3) := by decide +kernel
theorem dX6_beat_91 : decode cX6_beat 91 = .ok (.goto (-56), 3) := by decide +kernel
theorem dX6_beat_94 : decode cX6_beat 94 = .ok (.iload_n 2, 1) := by decide +kernel
theorem dX6_beat_95 : decode cX6_beat 95 = .ok (.ireturn, 1) := by decide +kernel
theorem dX6_pushIn_0 : decode cX6_pushIn 0 = .ok (.aload_n 0, 1) := by decide +kernel
theorem dX6_pushIn_1 : decode cX6_pushIn 1 = .ok (.invokevirtual 180, 3) := by decide +kernel
theorem dX6_pushIn_4 : decode cX6_pushIn 4 = .ok (.iconst 0, 1) := by decide +kernel
theorem dX6_pushIn_5 : decode cX6_pushIn 5 = .ok (.istore_n 3, 1) := by decide +kernel
theorem dX6_pushIn_6 : decode cX6_pushIn 6 = .ok (.iconst 0, 1) := by decide +kernel
theorem dX6_pushIn_7 : decode cX6_pushIn 7 = .ok (.istore 4, 2) := by decide +kernel
theorem dX6_pushIn_9 : decode cX6_pushIn 9 = .ok (.iload 4, 2) := by decide +kernel
theorem dX6_pushIn_11 : decode cX6_pushIn 11 = .ok (.iload_n 2, 1) := by decide +kernel
theorem dX6_pushIn_12 : decode cX6_pushIn 12 = .ok (.if_icmp .ge 34, 3) := by decide +kernel
theorem dX6_pushIn_15 : decode cX6_pushIn 15 = .ok (.aload_n 0, 1) := by decide +kernel
theorem dX6_pushIn_16 : decode cX6_pushIn 16 = .ok (.aload_n 0, 1) := by decide +kernel
theorem dX6_pushIn_17 : decode cX6_pushIn 17 = .ok (.getfield 28, 3) := by decide +kernel
theorem dX6_pushIn_20 : decode cX6_pushIn 20 = .ok (.aload_n 0, 1) := by decide +kernel
theorem dX6_pushIn_21 : decode cX6_pushIn 21 = .ok (.getfield 31, 3) := by decide +kernel
theorem dX6_pushIn_24 : decode cX6_pushIn 24 = .ok (.invokevirtual 130, 3) := by decide +kernel
theorem dX6_pushIn_27 : decode cX6_pushIn 27 = .ok (.iload_n 3, 1) := by decide +kernel
theorem dX6_pushIn_28 : decode cX6_pushIn 28 = .ok (.aload_n 0, 1) := by decide +kernel
theorem dX6_pushIn_29 : decode cX6_pushIn 29 = .ok (.getfield 46, 3) := by decide +kernel
theorem dX6_pushIn_32 : decode cX6_pushIn 32 = .ok (.iconst 3, 1) := by decide +kernel
theorem dX6_pushIn_33 : decode cX6_pushIn 33 = .ok (.iload_n 1, 1) := by decide +kernel
theorem dX6_pushIn_34 : decode cX6_pushIn 34 = .ok (.imul, 1) := by decide +kernel
theorem dX6_pushIn_35 : decode cX6_pushIn 35 = .ok (.iconst 1, 1) := by decide +kernel
theorem dX6_pushIn_36 : decode cX6_pushIn 36 = .ok (.iadd, 1) := by decide +kernel
theorem dX6_pushIn_37 : decode cX6_pushIn 37 = .ok (.iaload, 1) := by decide +kernel
theorem dX6_pushIn_38 : decode cX6_pushIn 38 = .ok (.iadd, 1) := by decide +kernel
theorem dX6_pushIn_39 : decode cX6_pushIn 39 = .ok (.istore_n 3, 1) := by decide +kernel
theorem dX6_pushIn_40 : decode cX6_pushIn 40 = .ok (.iinc 4 1, 3) := by decide +kernel
theorem dX6_pushIn_43 : decode cX6_pushIn 43 = .ok (.goto (-34), 3) := by decide +kernel
theorem dX6_pushIn_46 : decode cX6_pushIn 46 = .ok (.iload_n 3, 1) := by decide +kernel
theorem dX6_pushIn_47 : decode cX6_pushIn 47 = .ok (.ireturn, 1) := by decide +kernel
theorem dX6_better_0 : decode cX6_better 0 = .ok (.aload_n 0, 1) := by decide +kernel
theorem dX6_better_1 : decode cX6_better 1 = .ok (.iload_n 1, 1) := by decide +kernel
theorem dX6_better_2 : decode cX6_better 2 = .ok (.iconst 0, 1) := by decide +kernel
theorem dX6_better_3 : decode cX6_better 3 = .ok (.iconst 3, 1) := by decide +kernel
theorem dX6_better_4 : decode cX6_better 4 = .ok (.invokestatic 62, 3) := by decide +kernel
theorem dX6_better_7 : decode cX6_better 7 = .ok (.ifCond .ne 7, 3) := by decide +kernel
theorem dX6_better_10 : decode cX6_better 10 = .ok (.iconst 1, 1) := by decide +kernel
theorem dX6_better_11 : decode cX6_better 11 = .ok (.goto 18, 3) := by decide +kernel
theorem dX6_better_14 : decode cX6_better 14 = .ok (.iload_n 2, 1) := by decide +kernel
theorem dX6_better_15 : decode cX6_better 15 = .ok (.iconst 1, 1) := by decide +kernel
theorem dX6_better_16 : decode cX6_better 16 = .ok (.bipush 10, 2) := by decide +kernel
theorem dX6_better_18 : decode cX6_better 18 = .ok (.invokestatic 62, 3) := by decide +kernel
theorem dX6_better_21 : decode cX6_better 21 = .ok (.ifCond .ne 7, 3) := by decide +kernel
theorem dX6_better_24 : decode cX6_better 24 = .ok (.iconst 2, 1) := by decide +kernel
theorem dX6_better_25 : decode cX6_better 25 = .ok (.goto 4, 3) := by decide +kernel
theorem dX6_better_28 : decode cX6_better 28 = .ok (.iconst 0, 1) := by decide +kernel
theorem dX6_better_29 : decode cX6_better 29 = .ok (.invokevirtual 84, 3) := by decide +kernel
theorem dX6_better_32 : decode cX6_better 32 = .ok (.ifCond .eq 5, 3) := by decide +kernel
theorem dX6_better_35 : decode cX6_better 35 = .ok (.iconst 0, 1) := by decide +kernel
theorem dX6_better_36 : decode cX6_better 36 = .ok (.ireturn, 1) := by decide +kernel
theorem dX6_better_37 : decode cX6_better 37 = .ok (.aload_n 0, 1) := by decide +kernel
theorem dX6_better_38 : decode cX6_better 38 = .ok (.iload_n 1, 1) := by decide +kernel
theorem dX6_better_39 : decode cX6_better 39 = .ok (.iload_n 2, 1) := by decide +kernel
theorem dX6_better_40 : decode cX6_better 40 = .ok (.invokevirtual 195, 3) := by decide +kernel
theorem dX6_better_43 : decode cX6_better 43 = .ok (.istore_n 3, 1) := by decide +kernel
theorem dX6_better_44 : decode cX6_better 44 = .ok (.iconst (-1), 1) := by decide +kernel
theorem dX6_better_45 : decode cX6_better 45 = .ok (.istore 4, 2) := by decide +kernel
theorem dX6_better_47 : decode cX6_better 47 = .ok (.iconst 0, 1) := by decide +kernel
theorem dX6_better_48 : decode cX6_better 48 = .ok (.istore 5, 2) := by decide +kernel
theorem dX6_better_50 : decode cX6_better 50 = .ok (.iload 5, 2) := by decide +kernel
theorem dX6_better_52 : decode cX6_better 52 = .ok (.bipush 96, 2) := by decide +kernel
theorem dX6_better_54 : decode cX6_better 54 = .ok (.if_icmp .ge 88, 3) := by decide +kernel
theorem dX6_better_57 : decode cX6_better 57 = .ok (.aload_n 0, 1) := by decide +kernel
theorem dX6_better_58 : decode cX6_better 58 = .ok (.getfield 13, 3) := by decide +kernel
theorem dX6_better_61 : decode cX6_better 61 = .ok (.iload 5, 2) := by decide +kernel
theorem dX6_better_63 : decode cX6_better 63 = .ok (.iaload, 1) := by decide +kernel
theorem dX6_better_64 : decode cX6_better 64 = .ok (.iload_n 1, 1) := by decide +kernel
theorem dX6_better_65 : decode cX6_better 65 = .ok (.if_icmp .ne 71, 3) := by decide +kernel
theorem dX6_better_68 : decode cX6_better 68 = .ok (.aload_n 0, 1) := by decide +kernel
theorem dX6_better_69 : decode cX6_better 69 = .ok (.getfield 7, 3) := by decide +kernel
theorem dX6_better_72 : decode cX6_better 72 = .ok (.iload 5, 2) := by decide +kernel
theorem dX6_better_74 : decode cX6_better 74 = .ok (.iconst 0, 1) := by decide +kernel
theorem dX6_better_75 : decode cX6_better 75 = .ok (.iastore, 1) := by decide +kernel
theorem dX6_better_76 : decode cX6_better 76 = .ok (.aload_n 0, 1) := by decide +kernel
theorem dX6_better_77 : decode cX6_better 77 = .ok (.getfield 13, 3) := by decide +kernel
theorem dX6_better_80 : decode cX6_better 80 = .ok (.iload 5, 2) := by decide +kernel
theorem dX6_better_82 : decode cX6_better 82 = .ok (.iconst (-1), 1) := by decide +kernel
theorem dX6_better_83 : decode cX6_better 83 = .ok (.iastore, 1) := by decide +kernel
theorem dX6_better_84 : decode cX6_better 84 = .ok (.aload_n 0, 1) := by decide +kernel
theorem dX6_better_85 : decode cX6_better 85 = .ok (.iload_n 1, 1) := by decide +kernel
theorem dX6_better_86 : decode cX6_better 86 = .ok (.iload_n 2, 1) := by decide +kernel
theorem dX6_better_87 : decode cX6_better 87 = .ok (.invokevirtual 195, 3) := by decide +kernel
theorem dX6_better_90 : decode cX6_better 90 = .ok (.istore 6, 2) := by decide +kernel
theorem dX6_better_92 : decode cX6_better 92 = .ok (.aload_n 0, 1) := by decide +kernel
theorem dX6_better_93 : decode cX6_better 93 = .ok (.getfield 7, 3) := by decide +kernel
theorem dX6_better_96 : decode cX6_better 96 = .ok (.iload 5, 2) := by decide +kernel
theorem dX6_better_98 : decode cX6_better 98 = .ok (.iconst 1, 1) := by decide +kernel
theorem dX6_better_99 : decode cX6_better 99 = .ok (.iastore, 1) := by decide +kernel
theorem dX6_better_100 : decode cX6_better 100 = .ok (.aload_n 0, 1) := by decide +kernel
theorem dX6_better_101 : decode cX6_better 101 = .ok (.getfield 13, 3) := by decide +kernel
theorem dX6_better_104 : decode cX6_better 104 = .ok (.iload 5, 2) := by decide +kernel
theorem dX6_better_106 : decode cX6_better 106 = .ok (.iload_n 1, 1) := by decide +kernel
theorem dX6_better_107 : decode cX6_better 107 = .ok (.iastore, 1) := by decide +kernel
theorem dX6_better_108 : decode cX6_better 108 = .ok (.iload 6, 2) := by decide +kernel
theorem dX6_better_110 : decode cX6_better 110 = .ok (.iload_n 3, 1) := by decide +kernel
theorem dX6_better_111 : decode cX6_better 111 = .ok (.if_icmp .ge 8, 3) := by decide +kernel
theorem dX6_better_114 : decode cX6_better 114 = .ok (.iload 5, 2) := by decide +kernel
theorem dX6_better_116 : decode cX6_better 116 = .ok (.goto 5, 3) := by decide +kernel
theorem dX6_better_119 : decode cX6_better 119 = .ok (.iload 4, 2) := by decide +kernel
theorem dX6_better_121 : decode cX6_better 121 = .ok (.istore 4, 2) := by decide +kernel
theorem dX6_better_123 : decode cX6_better 123 = .ok (.iload 6, 2) := by decide +kernel
theorem dX6_better_125 : decode cX6_better 125 = .ok (.iload_n 3, 1) := by decide +kernel
theorem dX6_better_126 : decode cX6_better 126 = .ok (.if_icmp .ge 8, 3) := by decide +kernel
theorem dX6_better_129 : decode cX6_better 129 = .ok (.iload 6, 2) := by decide +kernel
theorem dX6_better_131 : decode cX6_better 131 = .ok (.goto 4, 3) := by decide +kernel
theorem dX6_better_134 : decode cX6_better 134 = .ok (.iload_n 3, 1) := by decide +kernel
theorem dX6_better_135 : decode cX6_better 135 = .ok (.istore_n 3, 1) := by decide +kernel
theorem dX6_better_136 : decode cX6_better 136 = .ok (.iinc 5 1, 3) := by decide +kernel
theorem dX6_better_139 : decode cX6_better 139 = .ok (.goto (-89), 3) := by decide +kernel
theorem dX6_better_142 : decode cX6_better 142 = .ok (.iload 4, 2) := by decide +kernel
theorem dX6_better_144 : decode cX6_better 144 = .ok (.ireturn, 1) := by decide +kernel
theorem dJ6_bitCount_0f7a4_0 : decode cJ6_bitCount_0f7a4 0 = .ok (.iload_n 0, 1) := by decide +kernel
theorem dJ6_bitCount_0f7a4_1 : decode cJ6_bitCount_0f7a4 1 = .ok (.iload_n 0, 1) := by decide +kernel
theorem dJ6_bitCount_0f7a4_2 : decode cJ6_bitCount_0f7a4 2 = .ok (.iconst 1, 1) := by decide +kernel
theorem dJ6_bitCount_0f7a4_3 : decode cJ6_bitCount_0f7a4 3 = .ok (.iushr, 1) := by decide +kernel
theorem dJ6_bitCount_0f7a4_4 : decode cJ6_bitCount_0f7a4 4 = .ok (.ldc_w 265, 3) := by decide +kernel
theorem dJ6_bitCount_0f7a4_7 : decode cJ6_bitCount_0f7a4 7 = .ok (.iand, 1) := by decide +kernel
theorem dJ6_bitCount_0f7a4_8 : decode cJ6_bitCount_0f7a4 8 = .ok (.isub, 1) := by decide +kernel
theorem dJ6_bitCount_0f7a4_9 : decode cJ6_bitCount_0f7a4 9 = .ok (.istore_n 0, 1) := by decide +kernel
theorem dJ6_bitCount_0f7a4_10 : decode cJ6_bitCount_0f7a4 10 = .ok (.iload_n 0, 1) := by decide +kernel
theorem dJ6_bitCount_0f7a4_11 : decode cJ6_bitCount_0f7a4 11 = .ok (.ldc_w 266, 3) := by decide +kernel
theorem dJ6_bitCount_0f7a4_14 : decode cJ6_bitCount_0f7a4 14 = .ok (.iand, 1) := by decide +kernel
theorem dJ6_bitCount_0f7a4_15 : decode cJ6_bitCount_0f7a4 15 = .ok (.iload_n 0, 1) := by decide +kernel
theorem dJ6_bitCount_0f7a4_16 : decode cJ6_bitCount_0f7a4 16 = .ok (.iconst 2, 1) := by decide +kernel
theorem dJ6_bitCount_0f7a4_17 : decode cJ6_bitCount_0f7a4 17 = .ok (.iushr, 1) := by decide +kernel
theorem dJ6_bitCount_0f7a4_18 : decode cJ6_bitCount_0f7a4 18 = .ok (.ldc_w 266, 3) := by decide +kernel
theorem dJ6_bitCount_0f7a4_21 : decode cJ6_bitCount_0f7a4 21 = .ok (.iand, 1) := by decide +kernel
theorem dJ6_bitCount_0f7a4_22 : decode cJ6_bitCount_0f7a4 22 = .ok (.iadd, 1) := by decide +kernel
theorem dJ6_bitCount_0f7a4_23 : decode cJ6_bitCount_0f7a4 23 = .ok (.istore_n 0, 1) := by decide +kernel
theorem dJ6_bitCount_0f7a4_24 : decode cJ6_bitCount_0f7a4 24 = .ok (.iload_n 0, 1) := by decide +kernel
theorem dJ6_bitCount_0f7a4_25 : decode cJ6_bitCount_0f7a4 25 = .ok (.iload_n 0, 1) := by decide +kernel
theorem dJ6_bitCount_0f7a4_26 : decode cJ6_bitCount_0f7a4 26 = .ok (.iconst 4, 1) := by decide +kernel
theorem dJ6_bitCount_0f7a4_27 : decode cJ6_bitCount_0f7a4 27 = .ok (.iushr, 1) := by decide +kernel
theorem dJ6_bitCount_0f7a4_28 : decode cJ6_bitCount_0f7a4 28 = .ok (.iadd, 1) := by decide +kernel
theorem dJ6_bitCount_0f7a4_29 : decode cJ6_bitCount_0f7a4 29 = .ok (.ldc_w 267, 3) := by decide +kernel
theorem dJ6_bitCount_0f7a4_32 : decode cJ6_bitCount_0f7a4 32 = .ok (.iand, 1) := by decide +kernel
theorem dJ6_bitCount_0f7a4_33 : decode cJ6_bitCount_0f7a4 33 = .ok (.istore_n 0, 1) := by decide +kernel
theorem dJ6_bitCount_0f7a4_34 : decode cJ6_bitCount_0f7a4 34 = .ok (.iload_n 0, 1) := by decide +kernel
theorem dJ6_bitCount_0f7a4_35 : decode cJ6_bitCount_0f7a4 35 = .ok (.iload_n 0, 1) := by decide +kernel
theorem dJ6_bitCount_0f7a4_36 : decode cJ6_bitCount_0f7a4 36 = .ok (.bipush 8, 2) := by decide +kernel
theorem dJ6_bitCount_0f7a4_38 : decode cJ6_bitCount_0f7a4 38 = .ok (.iushr, 1) := by decide +kernel
theorem dJ6_bitCount_0f7a4_39 : decode cJ6_bitCount_0f7a4 39 = .ok (.iadd, 1) := by decide +kernel
theorem dJ6_bitCount_0f7a4_40 : decode cJ6_bitCount_0f7a4 40 = .ok (.istore_n 0, 1) := by decide +kernel
theorem dJ6_bitCount_0f7a4_41 : decode cJ6_bitCount_0f7a4 41 = .ok (.iload_n 0, 1) := by decide +kernel
theorem dJ6_bitCount_0f7a4_42 : decode cJ6_bitCount_0f7a4 42 = .ok (.iload_n 0, 1) := by decide +kernel
theorem dJ6_bitCount_0f7a4_43 : decode cJ6_bitCount_0f7a4 43 = .ok (.bipush 16, 2) := by decide +kernel
theorem dJ6_bitCount_0f7a4_45 : decode cJ6_bitCount_0f7a4 45 = .ok (.iushr, 1) := by decide +kernel
theorem dJ6_bitCount_0f7a4_46 : decode cJ6_bitCount_0f7a4 46 = .ok (.iadd, 1) := by decide +kernel
theorem dJ6_bitCount_0f7a4_47 : decode cJ6_bitCount_0f7a4 47 = .ok (.istore_n 0, 1) := by decide +kernel
theorem dJ6_bitCount_0f7a4_48 : decode cJ6_bitCount_0f7a4 48 = .ok (.iload_n 0, 1) := by decide +kernel
theorem dJ6_bitCount_0f7a4_49 : decode cJ6_bitCount_0f7a4 49 = .ok (.bipush 63, 2) := by decide +kernel
theorem dJ6_bitCount_0f7a4_51 : decode cJ6_bitCount_0f7a4 51 = .ok (.iand, 1) := by decide +kernel
theorem dJ6_bitCount_0f7a4_52 : decode cJ6_bitCount_0f7a4 52 = .ok (.ireturn, 1) := by decide +kernel
theorem dJ9_floorDiv_f86c9_0 : decode cJ9_floorDiv_f86c9 0 = .ok (.lload_n 0, 1) := by decide +kernel
theorem dJ9_floorDiv_f86c9_1 : decode cJ9_floorDiv_f86c9 1 = .ok (.lload_n 2, 1) := by decide +kernel
theorem dJ9_floorDiv_f86c9_2 : decode cJ9_floorDiv_f86c9 2 = .ok (.ldiv, 1) := by decide +kernel
theorem dJ9_floorDiv_f86c9_3 : decode cJ9_floorDiv_f86c9 3 = .ok (.lstore 4, 2) := by decide +kernel
theorem dJ9_floorDiv_f86c9_5 : decode cJ9_floorDiv_f86c9 5 = .ok (.lload_n 0, 1) := by decide +kernel
theorem dJ9_floorDiv_f86c9_6 : decode cJ9_floorDiv_f86c9 6 = .ok (.lload_n 2, 1) := by decide +kernel
theorem dJ9_floorDiv_f86c9_7 : decode cJ9_floorDiv_f86c9 7 = .ok (.lxor, 1) := by decide +kernel
theorem dJ9_floorDiv_f86c9_8 : decode cJ9_floorDiv_f86c9 8 = .ok (.lconst 0, 1) := by decide +kernel
theorem dJ9_floorDiv_f86c9_9 : decode cJ9_floorDiv_f86c9 9 = .ok (.lcmp, 1) := by decide +kernel
theorem dJ9_floorDiv_f86c9_10 : decode cJ9_floorDiv_f86c9 10 = .ok (.ifCond .ge 17, 3) := by decide +kernel
theorem dJ9_floorDiv_f86c9_13 : decode cJ9_floorDiv_f86c9 13 = .ok (.lload 4, 2) := by decide +kernel
theorem dJ9_floorDiv_f86c9_15 : decode cJ9_floorDiv_f86c9 15 = .ok (.lload_n 2, 1) := by decide +kernel
theorem dJ9_floorDiv_f86c9_16 : decode cJ9_floorDiv_f86c9 16 = .ok (.lmul, 1) := by decide +kernel
theorem dJ9_floorDiv_f86c9_17 : decode cJ9_floorDiv_f86c9 17 = .ok (.lload_n 0, 1) := by decide +kernel
theorem dJ9_floorDiv_f86c9_18 : decode cJ9_floorDiv_f86c9 18 = .ok (.lcmp, 1) := by decide +kernel
theorem dJ9_floorDiv_f86c9_19 : decode cJ9_floorDiv_f86c9 19 = .ok (.ifCond .eq 8, 3) := by decide +kernel
theorem dJ9_floorDiv_f86c9_22 : decode cJ9_floorDiv_f86c9 22 = .ok (.lload 4, 2) := by decide +kernel
theorem dJ9_floorDiv_f86c9_24 : decode cJ9_floorDiv_f86c9 24 = .ok (.lconst 1, 1) := by decide +kernel
theorem dJ9_floorDiv_f86c9_25 : decode cJ9_floorDiv_f86c9 25 = .ok (.lsub, 1) := by decide +kernel
theorem dJ9_floorDiv_f86c9_26 : decode cJ9_floorDiv_f86c9 26 = .ok (.lreturn, 1) := by decide +kernel
theorem dJ9_floorDiv_f86c9_27 : decode cJ9_floorDiv_f86c9 27 = .ok (.lload 4, 2) := by decide +kernel
theorem dJ9_floorDiv_f86c9_29 : decode cJ9_floorDiv_f86c9 29 = .ok (.lreturn, 1) := by decide +kernel
theorem dJ9_floorMod_7cf53_0 : decode cJ9_floorMod_7cf53 0 = .ok (.iload_n 0, 1) := by decide +kernel
theorem dJ9_floorMod_7cf53_1 : decode cJ9_floorMod_7cf53 1 = .ok (.iload_n 1, 1) := by decide +kernel
theorem dJ9_floorMod_7cf53_2 : decode cJ9_floorMod_7cf53 2 = .ok (.irem, 1) := by decide +kernel
theorem dJ9_floorMod_7cf53_3 : decode cJ9_floorMod_7cf53 3 = .ok (.istore_n 2, 1) := by decide +kernel
theorem dJ9_floorMod_7cf53_4 : decode cJ9_floorMod_7cf53 4 = .ok (.iload_n 0, 1) := by decide +kernel
theorem dJ9_floorMod_7cf53_5 : decode cJ9_floorMod_7cf53 5 = .ok (.iload_n 1, 1) := by decide +kernel
theorem dJ9_floorMod_7cf53_6 : decode cJ9_floorMod_7cf53 6 = .ok (.ixor, 1) := by decide +kernel
theorem dJ9_floorMod_7cf53_7 : decode cJ9_floorMod_7cf53 7 = .ok (.ifCond .ge 11, 3) := by decide +kernel
theorem dJ9_floorMod_7cf53_10 : decode cJ9_floorMod_7cf53 10 = .ok (.iload_n 2, 1) := by decide +kernel
theorem dJ9_floorMod_7cf53_11 : decode cJ9_floorMod_7cf53 11 = .ok (.ifCond .eq 7, 3) := by decide +kernel
theorem dJ9_floorMod_7cf53_14 : decode cJ9_floorMod_7cf53 14 = .ok (.iload_n 2, 1) := by decide +kernel
theorem dJ9_floorMod_7cf53_15 : decode cJ9_floorMod_7cf53 15 = .ok (.iload_n 1, 1) := by decide +kernel
theorem dJ9_floorMod_7cf53_16 : decode cJ9_floorMod_7cf53 16 = .ok (.iadd, 1) := by decide +kernel
theorem dJ9_floorMod_7cf53_17 : decode cJ9_floorMod_7cf53 17 = .ok (.ireturn, 1) := by decide +kernel
theorem dJ9_floorMod_7cf53_18 : decode cJ9_floorMod_7cf53 18 = .ok (.iload_n 2, 1) := by decide +kernel
theorem dJ9_floorMod_7cf53_19 : decode cJ9_floorMod_7cf53 19 = .ok (.ireturn, 1) := by decide +kernel
theorem dJ9_abs_067f4_0 : decode cJ9_abs_067f4 0 = .ok (.lload_n 0, 1) := by decide +kernel
theorem dJ9_abs_067f4_1 : decode cJ9_abs_067f4 1 = .ok (.lconst 0, 1) := by decide +kernel
theorem dJ9_abs_067f4_2 : decode cJ9_abs_067f4 2 = .ok (.lcmp, 1) := by decide +kernel
theorem dJ9_abs_067f4_3 : decode cJ9_abs_067f4 3 = .ok (.ifCond .ge 8, 3) := by decide +kernel
theorem dJ9_abs_067f4_6 : decode cJ9_abs_067f4 6 = .ok (.lload_n 0, 1) := by decide +kernel
theorem dJ9_abs_067f4_7 : decode cJ9_abs_067f4 7 = .ok (.lneg, 1) := by decide +kernel
theorem dJ9_abs_067f4_8 : decode cJ9_abs_067f4 8 = .ok (.goto 4, 3) := by decide +kernel
theorem dJ9_abs_067f4_11 : decode cJ9_abs_067f4 11 = .ok (.lload_n 0, 1) := by decide +kernel
theorem dJ9_abs_067f4_12 : decode cJ9_abs_067f4 12 = .ok (.lreturn, 1) := by decide +kernel
theorem dJ9_min_7cf53_0 : decode cJ9_min_7cf53 0 = .ok (.iload_n 0, 1) := by decide +kernel
theorem dJ9_min_7cf53_1 : decode cJ9_min_7cf53 1 = .ok (.iload_n 1, 1) := by decide +kernel
theorem dJ9_min_7cf53_2 : decode cJ9_min_7cf53 2 = .ok (.if_icmp .gt 7, 3) := by decide +kernel
theorem dJ9_min_7cf53_5 : decode cJ9_min_7cf53 5 = .ok (.iload_n 0, 1) := by decide +kernel
theorem dJ9_min_7cf53_6 : decode cJ9_min_7cf53 6 = .ok (.goto 4, 3) := by decide +kernel
theorem dJ9_min_7cf53_9 : decode cJ9_min_7cf53 9 = .ok (.iload_n 1, 1) := by decide +kernel
theorem dJ9_min_7cf53_10 : decode cJ9_min_7cf53 10 = .ok (.ireturn, 1) := by decide +kernel
theorem dJ7_fill_53178_0 : decode cJ7_fill_53178 0 = .ok (.iconst 0, 1) := by decide +kernel
theorem dJ7_fill_53178_1 : decode cJ7_fill_53178 1 = .ok (.istore_n 2, 1) := by decide +kernel
theorem dJ7_fill_53178_2 : decode cJ7_fill_53178 2 = .ok (.aload_n 0, 1) := by decide +kernel
theorem dJ7_fill_53178_3 : decode cJ7_fill_53178 3 = .ok (.arraylength, 1) := by decide +kernel
theorem dJ7_fill_53178_4 : decode cJ7_fill_53178 4 = .ok (.istore_n 3, 1) := by decide +kernel
theorem dJ7_fill_53178_5 : decode cJ7_fill_53178 5 = .ok (.iload_n 2, 1) := by decide +kernel
theorem dJ7_fill_53178_6 : decode cJ7_fill_53178 6 = .ok (.iload_n 3, 1) := by decide +kernel
theorem dJ7_fill_53178_7 : decode cJ7_fill_53178 7 = .ok (.if_icmp .ge 13, 3) := by decide +kernel
theorem dJ7_fill_53178_10 : decode cJ7_fill_53178 10 = .ok (.aload_n 0, 1) := by decide +kernel
theorem dJ7_fill_53178_11 : decode cJ7_fill_53178 11 = .ok (.iload_n 2, 1) := by decide +kernel
theorem dJ7_fill_53178_12 : decode cJ7_fill_53178 12 = .ok (.iload_n 1, 1) := by decide +kernel
theorem dJ7_fill_53178_13 : decode cJ7_fill_53178 13 = .ok (.iastore, 1) := by decide +kernel
theorem dJ7_fill_53178_14 : decode cJ7_fill_53178 14 = .ok (.iinc 2 1, 3) := by decide +kernel
theorem dJ7_fill_53178_17 : decode cJ7_fill_53178 17 = .ok (.goto (-12), 3) := by decide +kernel
theorem dJ7_fill_53178_20 : decode cJ7_fill_53178 20 = .ok (.return_, 1) := by decide +kernel
theorem dL_wall_0 : decode cL_wall 0 = .ok (.aload_n 0, 1) := by decide +kernel
theorem dL_wall_1 : decode cL_wall 1 = .ok (.iload_n 1, 1) := by decide +kernel
theorem dL_wall_2 : decode cL_wall 2 = .ok (.iload_n 2, 1) := by decide +kernel
theorem dL_wall_3 : decode cL_wall 3 = .ok (.invokevirtual 7, 3) := by decide +kernel
theorem dL_wall_6 : decode cL_wall 6 = .ok (.goto 9, 3) := by decide +kernel
theorem dL_wall_9 : decode cL_wall 9 = .ok (.astore_n 3, 1) := by decide +kernel
theorem dL_wall_10 : decode cL_wall 10 = .ok (.iconst 1, 1) := by decide +kernel
theorem dL_wall_11 : decode cL_wall 11 = .ok (.ireturn, 1) := by decide +kernel
theorem dL_wall_12 : decode cL_wall 12 = .ok (.astore_n 3, 1) := by decide +kernel
theorem dL_wall_13 : decode cL_wall 13 = .ok (.iconst 2, 1) := by decide +kernel
theorem dL_wall_14 : decode cL_wall 14 = .ok (.ireturn, 1) := by decide +kernel
theorem dL_wall_15 : decode cL_wall 15 = .ok (.iconst 0, 1) := by decide +kernel
theorem dL_wall_16 : decode cL_wall 16 = .ok (.ireturn, 1) := by decide +kernel
theorem dL_clear_0 : decode cL_clear 0 = .ok (.aload_n 2, 1) := by decide +kernel
theorem dL_clear_1 : decode cL_clear 1 = .ok (.iconst 0, 1) := by decide +kernel
theorem dL_clear_2 : decode cL_clear 2 = .ok (.aload_n 0, 1) := by decide +kernel
theorem dL_clear_3 : decode cL_clear 3 = .ok (.iload_n 1, 1) := by decide +kernel
theorem dL_clear_4 : decode cL_clear 4 = .ok (.invokevirtual 17, 3) := by decide +kernel
theorem dL_clear_7 : decode cL_clear 7 = .ok (.i2l, 1) := by decide +kernel
theorem dL_clear_8 : decode cL_clear 8 = .ok (.lastore, 1) := by decide +kernel
theorem dL_clear_9 : decode cL_clear 9 = .ok (.goto 6, 3) := by decide +kernel
theorem dL_clear_12 : decode cL_clear 12 = .ok (.astore_n 3, 1) := by decide +kernel
theorem dL_clear_13 : decode cL_clear 13 = .ok (.iconst 1, 1) := by decide +kernel
theorem dL_clear_14 : decode cL_clear 14 = .ok (.ireturn, 1) := by decide +kernel
theorem dL_clear_15 : decode cL_clear 15 = .ok (.iconst 0, 1) := by decide +kernel
theorem dL_clear_16 : decode cL_clear 16 = .ok (.ireturn, 1) := by decide +kernel
theorem dL_open_0 : decode cL_open 0 = .ok (.aload_n 0, 1) := by decide +kernel
theorem dL_open_1 : decode cL_open 1 = .ok (.iload_n 1, 1) := by decide +kernel
theorem dL_open_2 : decode cL_open 2 = .ok (.iload_n 2, 1) := by decide +kernel
theorem dL_open_3 : decode cL_open 3 = .ok (.invokevirtual 21, 3) := by decide +kernel
theorem dL_open_6 : decode cL_open 6 = .ok (.goto 12, 3) := by decide +kernel
theorem dL_open_9 : decode cL_open 9 = .ok (.astore_n 3, 1) := by decide +kernel
theorem dL_open_10 : decode cL_open 10 = .ok (.iconst 1, 1) := by decide +kernel
theorem dL_open_11 : decode cL_open 11 = .ok (.ireturn, 1) := by decide +kernel
theorem dL_open_12 : decode cL_open 12 = .ok (.astore_n 3, 1) := by decide +kernel
theorem dL_open_13 : decode cL_open 13 = .ok (.iconst 2, 1) := by decide +kernel
theorem dL_open_14 : decode cL_open 14 = .ok (.ireturn, 1) := by decide +kernel
theorem dL_open_15 : decode cL_open 15 = .ok (.astore_n 3, 1) := by decide +kernel
theorem dL_open_16 : decode cL_open 16 = .ok (.iconst 3, 1) := by decide +kernel
theorem dL_open_17 : decode cL_open 17 = .ok (.ireturn, 1) := by decide +kernel
theorem dL_open_18 : decode cL_open 18 = .ok (.iconst 0, 1) := by decide +kernel
theorem dL_open_19 : decode cL_open 19 = .ok (.ireturn, 1) := by decide +kernel
theorem dL_particle_0 : decode cL_particle 0 = .ok (.aload_n 3, 1) := by decide +kernel
theorem dL_particle_1 : decode cL_particle 1 = .ok (.iconst 0, 1) := by decide +kernel
theorem dL_particle_2 : decode cL_particle 2 = .ok (.aload_n 0, 1) := by decide +kernel
theorem dL_particle_3 : decode cL_particle 3 = .ok (.iload_n 1, 1) := by decide +kernel
theorem dL_particle_4 : decode cL_particle 4 = .ok (.iload_n 2, 1) := by decide +kernel
theorem dL_particle_5 : decode cL_particle 5 = .ok (.invokevirtual 26, 3) := by decide +kernel
theorem dL_particle_8 : decode cL_particle 8 = .ok (.i2l, 1) := by decide +kernel
theorem dL_particle_9 : decode cL_particle 9 = .ok (.lastore, 1) := by decide +kernel
theorem dL_particle_10 : decode cL_particle 10 = .ok (.goto 15, 3) := by decide +kernel
theorem dL_particle_13 : decode cL_particle 13 = .ok (.astore 4, 2) := by decide +kernel
theorem dL_particle_15 : decode cL_particle 15 = .ok (.iconst 1, 1) := by decide +kernel
theorem dL_particle_16 : decode cL_particle 16 = .ok (.ireturn, 1) := by decide +kernel
theorem dL_particle_17 : decode cL_particle 17 = .ok (.astore 4, 2) := by decide +kernel
theorem dL_particle_19 : decode cL_particle 19 = .ok (.iconst 2, 1) := by decide +kernel
theorem dL_particle_20 : decode cL_particle 20 = .ok (.ireturn, 1) := by decide +kernel
theorem dL_particle_21 : decode cL_particle 21 = .ok (.astore 4, 2) := by decide +kernel
theorem dL_particle_23 : decode cL_particle 23 = .ok (.iconst 3, 1) := by decide +kernel
theorem dL_particle_24 : decode cL_particle 24 = .ok (.ireturn, 1) := by decide +kernel
theorem dL_particle_25 : decode cL_particle 25 = .ok (.iconst 0, 1) := by decide +kernel
theorem dL_particle_26 : decode cL_particle 26 = .ok (.ireturn, 1) := by decide +kernel
theorem dL_ink_0 : decode cL_ink 0 = .ok (.aload_n 2, 1) := by decide +kernel
theorem dL_ink_1 : decode cL_ink 1 = .ok (.iconst 0, 1) := by decide +kernel
theorem dL_ink_2 : decode cL_ink 2 = .ok (.aload_n 0, 1) := by decide +kernel
theorem dL_ink_3 : decode cL_ink 3 = .ok (.iload_n 1, 1) := by decide +kernel
theorem dL_ink_4 : decode cL_ink 4 = .ok (.invokevirtual 30, 3) := by decide +kernel
theorem dL_ink_7 : decode cL_ink 7 = .ok (.i2l, 1) := by decide +kernel
theorem dL_ink_8 : decode cL_ink 8 = .ok (.lastore, 1) := by decide +kernel
theorem dL_ink_9 : decode cL_ink 9 = .ok (.goto 6, 3) := by decide +kernel
theorem dL_ink_12 : decode cL_ink 12 = .ok (.astore_n 3, 1) := by decide +kernel
theorem dL_ink_13 : decode cL_ink 13 = .ok (.iconst 1, 1) := by decide +kernel
theorem dL_ink_14 : decode cL_ink 14 = .ok (.ireturn, 1) := by decide +kernel
theorem dL_ink_15 : decode cL_ink 15 = .ok (.iconst 0, 1) := by decide +kernel
theorem dL_ink_16 : decode cL_ink 16 = .ok (.ireturn, 1) := by decide +kernel
theorem dL_probe_0 : decode cL_probe 0 = .ok (.aload_n 2, 1) := by decide +kernel
theorem dL_probe_1 : decode cL_probe 1 = .ok (.iconst 0, 1) := by decide +kernel
theorem dL_probe_2 : decode cL_probe 2 = .ok (.aload_n 0, 1) := by decide +kernel
theorem dL_probe_3 : decode cL_probe 3 = .ok (.iload_n 1, 1) := by decide +kernel
theorem dL_probe_4 : decode cL_probe 4 = .ok (.invokevirtual 33, 3) := by decide +kernel
theorem dL_probe_7 : decode cL_probe 7 = .ok (.i2l, 1) := by decide +kernel
theorem dL_probe_8 : decode cL_probe 8 = .ok (.lastore, 1) := by decide +kernel
theorem dL_probe_9 : decode cL_probe 9 = .ok (.goto 9, 3) := by decide +kernel
theorem dL_probe_12 : decode cL_probe 12 = .ok (.astore_n 3, 1) := by decide +kernel
theorem dL_probe_13 : decode cL_probe 13 = .ok (.iconst 1, 1) := by decide +kernel
theorem dL_probe_14 : decode cL_probe 14 = .ok (.ireturn, 1) := by decide +kernel
theorem dL_probe_15 : decode cL_probe 15 = .ok (.astore_n 3, 1) := by decide +kernel
theorem dL_probe_16 : decode cL_probe 16 = .ok (.iconst 2, 1) := by decide +kernel
theorem dL_probe_17 : decode cL_probe 17 = .ok (.ireturn, 1) := by decide +kernel
theorem dL_probe_18 : decode cL_probe 18 = .ok (.iconst 0, 1) := by decide +kernel
theorem dL_probe_19 : decode cL_probe 19 = .ok (.ireturn, 1) := by decide +kernel
theorem dL_fault_0 : decode cL_fault 0 = .ok (.aload_n 3, 1) := by decide +kernel
theorem dL_fault_1 : decode cL_fault 1 = .ok (.iconst 0, 1) := by decide +kernel
theorem dL_fault_2 : decode cL_fault 2 = .ok (.aload_n 0, 1) := by decide +kernel
theorem dL_fault_3 : decode cL_fault 3 = .ok (.iload_n 1, 1) := by decide +kernel
theorem dL_fault_4 : decode cL_fault 4 = .ok (.iload_n 2, 1) := by decide +kernel
theorem dL_fault_5 : decode cL_fault 5 = .ok (.invokevirtual 36, 3) := by decide +kernel
theorem dL_fault_8 : decode cL_fault 8 = .ok (.i2l, 1) := by decide +kernel
theorem dL_fault_9 : decode cL_fault 9 = .ok (.lastore, 1) := by decide +kernel
theorem dL_fault_10 : decode cL_fault 10 = .ok (.goto 11, 3) := by decide +kernel
theorem dL_fault_13 : decode cL_fault 13 = .ok (.astore 4, 2) := by decide +kernel
theorem dL_fault_15 : decode cL_fault 15 = .ok (.iconst 1, 1) := by decide +kernel
theorem dL_fault_16 : decode cL_fault 16 = .ok (.ireturn, 1) := by decide +kernel
theorem dL_fault_17 : decode cL_fault 17 = .ok (.astore 4, 2) := by decide +kernel
theorem dL_fault_19 : decode cL_fault 19 = .ok (.iconst 2, 1) := by decide +kernel
theorem dL_fault_20 : decode cL_fault 20 = .ok (.ireturn, 1) := by decide +kernel
theorem dL_fault_21 : decode cL_fault 21 = .ok (.iconst 0, 1) := by decide +kernel
theorem dL_fault_22 : decode cL_fault 22 = .ok (.ireturn, 1) := by decide +kernel
theorem dL_bring_0 : decode cL_bring 0 = .ok (.aload 4, 2) := by decide +kernel
theorem dL_bring_2 : decode cL_bring 2 = .ok (.iconst 0, 1) := by decide +kernel
theorem dL_bring_3 : decode cL_bring 3 = .ok (.aload_n 0, 1) := by decide +kernel
theorem dL_bring_4 : decode cL_bring 4 = .ok (.iload_n 1, 1) := by decide +kernel
theorem dL_bring_5 : decode cL_bring 5 = .ok (.iload_n 2, 1) := by decide +kernel
theorem dL_bring_6 : decode cL_bring 6 = .ok (.iload_n 3, 1) := by decide +kernel
theorem dL_bring_7 : decode cL_bring 7 = .ok (.invokevirtual 39, 3) := by decide +kernel
theorem dL_bring_10 : decode cL_bring 10 = .ok (.i2l, 1) := by decide +kernel
theorem dL_bring_11 : decode cL_bring 11 = .ok (.lastore, 1) := by decide +kernel
theorem dL_bring_12 : decode cL_bring 12 = .ok (.goto 15, 3) := by decide +kernel
theorem dL_bring_15 : decode cL_bring 15 = .ok (.astore 5, 2) := by decide +kernel
theorem dL_bring_17 : decode cL_bring 17 = .ok (.iconst 1, 1) := by decide +kernel
theorem dL_bring_18 : decode cL_bring 18 = .ok (.ireturn, 1) := by decide +kernel
theorem dL_bring_19 : decode cL_bring 19 = .ok (.astore 5, 2) := by decide +kernel
theorem dL_bring_21 : decode cL_bring 21 = .ok (.iconst 2, 1) := by decide +kernel
theorem dL_bring_22 : decode cL_bring 22 = .ok (.ireturn, 1) := by decide +kernel
theorem dL_bring_23 : decode cL_bring 23 = .ok (.astore 5, 2) := by decide +kernel
theorem dL_bring_25 : decode cL_bring 25 = .ok (.iconst 3, 1) := by decide +kernel
theorem dL_bring_26 : decode cL_bring 26 = .ok (.ireturn, 1) := by decide +kernel
theorem dL_bring_27 : decode cL_bring 27 = .ok (.iconst 0, 1) := by decide +kernel
theorem dL_bring_28 : decode cL_bring 28 = .ok (.ireturn, 1) := by decide +kernel
theorem dL_step_0 : decode cL_step 0 = .ok (.aload_n 2, 1) := by decide +kernel
theorem dL_step_1 : decode cL_step 1 = .ok (.iconst 0, 1) := by decide +kernel
theorem dL_step_2 : decode cL_step 2 = .ok (.aload_n 0, 1) := by decide +kernel
theorem dL_step_3 : decode cL_step 3 = .ok (.iload_n 1, 1) := by decide +kernel
theorem dL_step_4 : decode cL_step 4 = .ok (.invokevirtual 43, 3) := by decide +kernel
theorem dL_step_7 : decode cL_step 7 = .ok (.i2l, 1) := by decide +kernel
theorem dL_step_8 : decode cL_step 8 = .ok (.lastore, 1) := by decide +kernel
theorem dL_step_9 : decode cL_step 9 = .ok (.goto 9, 3) := by decide +kernel
theorem dL_step_12 : decode cL_step 12 = .ok (.astore_n 3, 1) := by decide +kernel
theorem dL_step_13 : decode cL_step 13 = .ok (.iconst 1, 1) := by decide +kernel
theorem dL_step_14 : decode cL_step 14 = .ok (.ireturn, 1) := by decide +kernel
theorem dL_step_15 : decode cL_step 15 = .ok (.astore_n 3, 1) := by decide +kernel
theorem dL_step_16 : decode cL_step 16 = .ok (.iconst 2, 1) := by decide +kernel
theorem dL_step_17 : decode cL_step 17 = .ok (.ireturn, 1) := by decide +kernel
theorem dL_step_18 : decode cL_step 18 = .ok (.iconst 0, 1) := by decide +kernel
theorem dL_step_19 : decode cL_step 19 = .ok (.ireturn, 1) := by decide +kernel
theorem dL_back_0 : decode cL_back 0 = .ok (.aload_n 2, 1) := by decide +kernel
theorem dL_back_1 : decode cL_back 1 = .ok (.iconst 0, 1) := by decide +kernel
theorem dL_back_2 : decode cL_back 2 = .ok (.aload_n 0, 1) := by decide +kernel
theorem dL_back_3 : decode cL_back 3 = .ok (.iload_n 1, 1) := by decide +kernel
theorem dL_back_4 : decode cL_back 4 = .ok (.invokevirtual 46, 3) := by decide +kernel
theorem dL_back_7 : decode cL_back 7 = .ok (.i2l, 1) := by decide +kernel
theorem dL_back_8 : decode cL_back 8 = .ok (.lastore, 1) := by decide +kernel
theorem dL_back_9 : decode cL_back 9 = .ok (.goto 9, 3) := by decide +kernel
theorem dL_back_12 : decode cL_back 12 = .ok (.astore_n 3, 1) := by decide +kernel
theorem dL_back_13 : decode cL_back 13 = .ok (.iconst 1, 1) := by decide +kernel
theorem dL_back_14 : decode cL_back 14 = .ok (.ireturn, 1) := by decide +kernel
theorem dL_back_15 : decode cL_back 15 = .ok (.astore_n 3, 1) := by decide +kernel
theorem dL_back_16 : decode cL_back 16 = .ok (.iconst 2, 1) := by decide +kernel
theorem dL_back_17 : decode cL_back 17 = .ok (.ireturn, 1) := by decide +kernel
theorem dL_back_18 : decode cL_back 18 = .ok (.iconst 0, 1) := by decide +kernel
theorem dL_back_19 : decode cL_back 19 = .ok (.ireturn, 1) := by decide +kernel
theorem dL_flow_0 : decode cL_flow 0 = .ok (.aload_n 2, 1) := by decide +kernel
theorem dL_flow_1 : decode cL_flow 1 = .ok (.iconst 0, 1) := by decide +kernel
theorem dL_flow_2 : decode cL_flow 2 = .ok (.aload_n 0, 1) := by decide +kernel
theorem dL_flow_3 : decode cL_flow 3 = .ok (.iload_n 1, 1) := by decide +kernel
theorem dL_flow_4 : decode cL_flow 4 = .ok (.invokevirtual 49, 3) := by decide +kernel
theorem dL_flow_7 : decode cL_flow 7 = .ok (.lastore, 1) := by decide +kernel
theorem dL_flow_8 : decode cL_flow 8 = .ok (.goto 6, 3) := by decide +kernel
theorem dL_flow_11 : decode cL_flow 11 = .ok (.astore_n 3, 1) := by decide +kernel
theorem dL_flow_12 : decode cL_flow 12 = .ok (.iconst 1, 1) := by decide +kernel
theorem dL_flow_13 : decode cL_flow 13 = .ok (.ireturn, 1) := by decide +kernel
theorem dL_flow_14 : decode cL_flow 14 = .ok (.iconst 0, 1) := by decide +kernel
theorem dL_flow_15 : decode cL_flow 15 = .ok (.ireturn, 1) := by decide +kernel
theorem dL_cellOf_0 : decode cL_cellOf 0 = .ok (.aload_n 3, 1) := by decide +kernel
theorem dL_cellOf_1 : decode cL_cellOf 1 = .ok (.iconst 0, 1) := by decide +kernel
theorem dL_cellOf_2 : decode cL_cellOf 2 = .ok (.aload_n 0, 1) := by decide +kernel
theorem dL_cellOf_3 : decode cL_cellOf 3 = .ok (.iload_n 1, 1) := by decide +kernel
theorem dL_cellOf_4 : decode cL_cellOf 4 = .ok (.iload_n 2, 1) := by decide +kernel
theorem dL_cellOf_5 : decode cL_cellOf 5 = .ok (.invokevirtual 53, 3) := by decide +kernel
theorem dL_cellOf_8 : decode cL_cellOf 8 = .ok (.i2l, 1) := by decide +kernel
theorem dL_cellOf_9 : decode cL_cellOf 9 = .ok (.lastore, 1) := by decide +kernel
theorem dL_cellOf_10 : decode cL_cellOf 10 = .ok (.goto 11, 3) := by decide +kernel
theorem dL_cellOf_13 : decode cL_cellOf 13 = .ok (.astore 4, 2) := by decide +kernel
theorem dL_cellOf_15 : decode cL_cellOf 15 = .ok (.iconst 1, 1) := by decide +kernel
theorem dL_cellOf_16 : decode cL_cellOf 16 = .ok (.ireturn, 1) := by decide +kernel
theorem dL_cellOf_17 : decode cL_cellOf 17 = .ok (.astore 4, 2) := by decide +kernel
theorem dL_cellOf_19 : decode cL_cellOf 19 = .ok (.iconst 2, 1) := by decide +kernel
theorem dL_cellOf_20 : decode cL_cellOf 20 = .ok (.ireturn, 1) := by decide +kernel
theorem dL_cellOf_21 : decode cL_cellOf 21 = .ok (.iconst 0, 1) := by decide +kernel
theorem dL_cellOf_22 : decode cL_cellOf 22 = .ok (.ireturn, 1) := by decide +kernel
theorem dL_bodyOf_0 : decode cL_bodyOf 0 = .ok (.aload_n 3, 1) := by decide +kernel
theorem dL_bodyOf_1 : decode cL_bodyOf 1 = .ok (.iconst 0, 1) := by decide +kernel
theorem dL_bodyOf_2 : decode cL_bodyOf 2 = .ok (.aload_n 0, 1) := by decide +kernel
theorem dL_bodyOf_3 : decode cL_bodyOf 3 = .ok (.iload_n 1, 1) := by decide +kernel
theorem dL_bodyOf_4 : decode cL_bodyOf 4 = .ok (.iload_n 2, 1) := by decide +kernel
theorem dL_bodyOf_5 : decode cL_bodyOf 5 = .ok (.invokevirtual 56, 3) := by decide +kernel
theorem dL_bodyOf_8 : decode cL_bodyOf 8 = .ok (.i2l, 1) := by decide +kernel
theorem dL_bodyOf_9 : decode cL_bodyOf 9 = .ok (.lastore, 1) := by decide +kernel
theorem dL_bodyOf_10 : decode cL_bodyOf 10 = .ok (.goto 11, 3) := by decide +kernel
theorem dL_bodyOf_13 : decode cL_bodyOf 13 = .ok (.astore 4, 2) := by decide +kernel
theorem dL_bodyOf_15 : decode cL_bodyOf 15 = .ok (.iconst 1, 1) := by decide +kernel
theorem dL_bodyOf_16 : decode cL_bodyOf 16 = .ok (.ireturn, 1) := by decide +kernel
theorem dL_bodyOf_17 : decode cL_bodyOf 17 = .ok (.astore 4, 2) := by decide +kernel
theorem dL_bodyOf_19 : decode cL_bodyOf 19 = .ok (.iconst 2, 1) := by decide +kernel
theorem dL_bodyOf_20 : decode cL_bodyOf 20 = .ok (.ireturn, 1) := by decide +kernel
theorem dL_bodyOf_21 : decode cL_bodyOf 21 = .ok (.iconst 0, 1) := by decide +kernel
theorem dL_bodyOf_22 : decode cL_bodyOf 22 = .ok (.ireturn, 1) := by decide +kernel
theorem dL_sum_0 : decode cL_sum 0 = .ok (.aload_n 2, 1) := by decide +kernel
theorem dL_sum_1 : decode cL_sum 1 = .ok (.iconst 0, 1) := by decide +kernel
theorem dL_sum_2 : decode cL_sum 2 = .ok (.aload_n 0, 1) := by decide +kernel
theorem dL_sum_3 : decode cL_sum 3 = .ok (.iload_n 1, 1) := by decide +kernel
theorem dL_sum_4 : decode cL_sum 4 = .ok (.invokevirtual 59, 3) := by decide +kernel
theorem dL_sum_7 : decode cL_sum 7 = .ok (.lastore, 1) := by decide +kernel
theorem dL_sum_8 : decode cL_sum 8 = .ok (.goto 6, 3) := by decide +kernel
theorem dL_sum_11 : decode cL_sum 11 = .ok (.astore_n 3, 1) := by decide +kernel
theorem dL_sum_12 : decode cL_sum 12 = .ok (.iconst 1, 1) := by decide +kernel
theorem dL_sum_13 : decode cL_sum 13 = .ok (.ireturn, 1) := by decide +kernel
theorem dL_sum_14 : decode cL_sum 14 = .ok (.iconst 0, 1) := by decide +kernel
theorem dL_sum_15 : decode cL_sum 15 = .ok (.ireturn, 1) := by decide +kernel
theorem dL_average_0 : decode cL_average 0 = .ok (.aload 7, 2) := by decide +kernel
theorem dL_average_2 : decode cL_average 2 = .ok (.iconst 0, 1) := by decide +kernel
theorem dL_average_3 : decode cL_average 3 = .ok (.aload_n 0, 1) := by decide +kernel
theorem dL_average_4 : decode cL_average 4 = .ok (.iload_n 1, 1) := by decide +kernel
theorem dL_average_5 : decode cL_average 5 = .ok (.iload_n 2, 1) := by decide +kernel
theorem dL_average_6 : decode cL_average 6 = .ok (.iload_n 3, 1) := by decide +kernel
theorem dL_average_7 : decode cL_average 7 = .ok (.iload 4, 2) := by decide +kernel
theorem dL_average_9 : decode cL_average 9 = .ok (.iload 5, 2) := by decide +kernel
theorem dL_average_11 : decode cL_average 11 = .ok (.iload 6, 2) := by decide +kernel
theorem dL_average_13 : decode cL_average 13 = .ok (.invokevirtual 62, 3) := by decide +kernel
theorem dL_average_16 : decode cL_average 16 = .ok (.lastore, 1) := by decide +kernel
theorem dL_average_17 : decode cL_average 17 = .ok (.goto 7, 3) := by decide +kernel
theorem dL_average_20 : decode cL_average 20 = .ok (.astore 8, 2) := by decide +kernel
theorem dL_average_22 : decode cL_average 22 = .ok (.iconst 1, 1) := by decide +kernel
theorem dL_average_23 : decode cL_average 23 = .ok (.ireturn, 1) := by decide +kernel
theorem dL_average_24 : decode cL_average 24 = .ok (.iconst 0, 1) := by decide +kernel
theorem dL_average_25 : decode cL_average 25 = .ok (.ireturn, 1) := by decide +kernel
theorem dL_scatter_0 : decode cL_scatter 0 = .ok (.aload 7, 2) := by decide +kernel
theorem dL_scatter_2 : decode cL_scatter 2 = .ok (.iconst 0, 1) := by decide +kernel
theorem dL_scatter_3 : decode cL_scatter 3 = .ok (.aload_n 0, 1) := by decide +kernel
theorem dL_scatter_4 : decode cL_scatter 4 = .ok (.iload_n 1, 1) := by decide +kernel
theorem dL_scatter_5 : decode cL_scatter 5 = .ok (.iload_n 2, 1) := by decide +kernel
theorem dL_scatter_6 : decode cL_scatter 6 = .ok (.iload_n 3, 1) := by decide +kernel
theorem dL_scatter_7 : decode cL_scatter 7 = .ok (.iload 4, 2) := by decide +kernel
theorem dL_scatter_9 : decode cL_scatter 9 = .ok (.iload 5, 2) := by decide +kernel
theorem dL_scatter_11 : decode cL_scatter 11 = .ok (.iload 6, 2) := by decide +kernel
theorem dL_scatter_13 : decode cL_scatter 13 = .ok (.invokevirtual 66, 3) := by decide +kernel
theorem dL_scatter_16 : decode cL_scatter 16 = .ok (.lastore, 1) := by decide +kernel
theorem dL_scatter_17 : decode cL_scatter 17 = .ok (.goto 7, 3) := by decide +kernel
theorem dL_scatter_20 : decode cL_scatter 20 = .ok (.astore 8, 2) := by decide +kernel
theorem dL_scatter_22 : decode cL_scatter 22 = .ok (.iconst 1, 1) := by decide +kernel
theorem dL_scatter_23 : decode cL_scatter 23 = .ok (.ireturn, 1) := by decide +kernel
theorem dL_scatter_24 : decode cL_scatter 24 = .ok (.iconst 0, 1) := by decide +kernel
theorem dL_scatter_25 : decode cL_scatter 25 = .ok (.ireturn, 1) := by decide +kernel
theorem dL_likeness_0 : decode cL_likeness 0 = .ok (.aload 5, 2) := by decide +kernel
theorem dL_likeness_2 : decode cL_likeness 2 = .ok (.iconst 0, 1) := by decide +kernel
theorem dL_likeness_3 : decode cL_likeness 3 = .ok (.aload_n 0, 1) := by decide +kernel
theorem dL_likeness_4 : decode cL_likeness 4 = .ok (.iload_n 1, 1) := by decide +kernel
theorem dL_likeness_5 : decode cL_likeness 5 = .ok (.iload_n 2, 1) := by decide +kernel
theorem dL_likeness_6 : decode cL_likeness 6 = .ok (.iload_n 3, 1) := by decide +kernel
theorem dL_likeness_7 : decode cL_likeness 7 = .ok (.iload 4, 2) := by decide +kernel
theorem dL_likeness_9 : decode cL_likeness 9 = .ok (.invokevirtual 69, 3) := by decide +kernel
theorem dL_likeness_12 : decode cL_likeness 12 = .ok (.f2d, 1) := by decide +kernel
theorem dL_likeness_13 : decode cL_likeness 13 = .ok (.dastore, 1) := by decide +kernel
theorem dL_likeness_14 : decode cL_likeness 14 = .ok (.goto 7, 3) := by decide +kernel
theorem dL_likeness_17 : decode cL_likeness 17 = .ok (.astore 6, 2) := by decide +kernel
theorem dL_likeness_19 : decode cL_likeness 19 = .ok (.iconst 1, 1) := by decide +kernel
theorem dL_likeness_20 : decode cL_likeness 20 = .ok (.ireturn, 1) := by decide +kernel
theorem dL_likeness_21 : decode cL_likeness 21 = .ok (.iconst 0, 1) := by decide +kernel
theorem dL_likeness_22 : decode cL_likeness 22 = .ok (.ireturn, 1) := by decide +kernel
theorem dL_ahead_0 : decode cL_ahead 0 = .ok (.aload_n 3, 1) := by decide +kernel
theorem dL_ahead_1 : decode cL_ahead 1 = .ok (.iconst 0, 1) := by decide +kernel
theorem dL_ahead_2 : decode cL_ahead 2 = .ok (.aload_n 0, 1) := by decide +kernel
theorem dL_ahead_3 : decode cL_ahead 3 = .ok (.iload_n 1, 1) := by decide +kernel
theorem dL_ahead_4 : decode cL_ahead 4 = .ok (.iload_n 2, 1) := by decide +kernel
theorem dL_ahead_5 : decode cL_ahead 5 = .ok (.invokevirtual 73, 3) := by decide +kernel
theorem dL_ahead_8 : decode cL_ahead 8 = .ok (.i2l, 1) := by decide +kernel
theorem dL_ahead_9 : decode cL_ahead 9 = .ok (.lastore, 1) := by decide +kernel
theorem dL_ahead_10 : decode cL_ahead 10 = .ok (.goto 11, 3) := by decide +kernel
theorem dL_ahead_13 : decode cL_ahead 13 = .ok (.astore 4, 2) := by decide +kernel
theorem dL_ahead_15 : decode cL_ahead 15 = .ok (.iconst 1, 1) := by decide +kernel
theorem dL_ahead_16 : decode cL_ahead 16 = .ok (.ireturn, 1) := by decide +kernel
theorem dL_ahead_17 : decode cL_ahead 17 = .ok (.astore 4, 2) := by decide +kernel
theorem dL_ahead_19 : decode cL_ahead 19 = .ok (.iconst 2, 1) := by decide +kernel
theorem dL_ahead_20 : decode cL_ahead 20 = .ok (.ireturn, 1) := by decide +kernel
theorem dL_ahead_21 : decode cL_ahead 21 = .ok (.iconst 0, 1) := by decide +kernel
theorem dL_ahead_22 : decode cL_ahead 22 = .ok (.ireturn, 1) := by decide +kernel
theorem dL_aheadAnew_0 : decode cL_aheadAnew 0 = .ok (.aload_n 3, 1) := by decide +kernel
theorem dL_aheadAnew_1 : decode cL_aheadAnew 1 = .ok (.iconst 0, 1) := by decide +kernel
theorem dL_aheadAnew_2 : decode cL_aheadAnew 2 = .ok (.aload_n 0, 1) := by decide +kernel
theorem dL_aheadAnew_3 : decode cL_aheadAnew 3 = .ok (.iload_n 1, 1) := by decide +kernel
theorem dL_aheadAnew_4 : decode cL_aheadAnew 4 = .ok (.iload_n 2, 1) := by decide +kernel
theorem dL_aheadAnew_5 : decode cL_aheadAnew 5 = .ok (.invokevirtual 76, 3) := by decide +kernel
theorem dL_aheadAnew_8 : decode cL_aheadAnew 8 = .ok (.i2l, 1) := by decide +kernel
theorem dL_aheadAnew_9 : decode cL_aheadAnew 9 = .ok (.lastore, 1) := by decide +kernel
theorem dL_aheadAnew_10 : decode cL_aheadAnew 10 = .ok (.goto 11, 3) := by decide +kernel
theorem dL_aheadAnew_13 : decode cL_aheadAnew 13 = .ok (.astore 4, 2) := by decide +kernel
theorem dL_aheadAnew_15 : decode cL_aheadAnew 15 = .ok (.iconst 1, 1) := by decide +kernel
theorem dL_aheadAnew_16 : decode cL_aheadAnew 16 = .ok (.ireturn, 1) := by decide +kernel
theorem dL_aheadAnew_17 : decode cL_aheadAnew 17 = .ok (.astore 4, 2) := by decide +kernel
theorem dL_aheadAnew_19 : decode cL_aheadAnew 19 = .ok (.iconst 2, 1) := by decide +kernel
theorem dL_aheadAnew_20 : decode cL_aheadAnew 20 = .ok (.ireturn, 1) := by decide +kernel
theorem dL_aheadAnew_21 : decode cL_aheadAnew 21 = .ok (.iconst 0, 1) := by decide +kernel
theorem dL_aheadAnew_22 : decode cL_aheadAnew 22 = .ok (.ireturn, 1) := by decide +kernel
theorem dL_mixed_0 : decode cL_mixed 0 = .ok (.aload_n 2, 1) := by decide +kernel
theorem dL_mixed_1 : decode cL_mixed 1 = .ok (.iconst 0, 1) := by decide +kernel
theorem dL_mixed_2 : decode cL_mixed 2 = .ok (.aload_n 0, 1) := by decide +kernel
theorem dL_mixed_3 : decode cL_mixed 3 = .ok (.iload_n 1, 1) := by decide +kernel
theorem dL_mixed_4 : decode cL_mixed 4 = .ok (.invokevirtual 79, 3) := by decide +kernel
theorem dL_mixed_7 : decode cL_mixed 7 = .ok (.lastore, 1) := by decide +kernel
theorem dL_mixed_8 : decode cL_mixed 8 = .ok (.goto 6, 3) := by decide +kernel
theorem dL_mixed_11 : decode cL_mixed 11 = .ok (.astore_n 3, 1) := by decide +kernel
theorem dL_mixed_12 : decode cL_mixed 12 = .ok (.iconst 1, 1) := by decide +kernel
theorem dL_mixed_13 : decode cL_mixed 13 = .ok (.ireturn, 1) := by decide +kernel
theorem dL_mixed_14 : decode cL_mixed 14 = .ok (.iconst 0, 1) := by decide +kernel
theorem dL_mixed_15 : decode cL_mixed 15 = .ok (.ireturn, 1) := by decide +kernel
theorem dL_record_0 : decode cL_record 0 = .ok (.aload_n 3, 1) := by decide +kernel
theorem dL_record_1 : decode cL_record 1 = .ok (.iconst 0, 1) := by decide +kernel
theorem dL_record_2 : decode cL_record 2 = .ok (.aload_n 0, 1) := by decide +kernel
theorem dL_record_3 : decode cL_record 3 = .ok (.iload_n 1, 1) := by decide +kernel
theorem dL_record_4 : decode cL_record 4 = .ok (.iload_n 2, 1) := by decide +kernel
theorem dL_record_5 : decode cL_record 5 = .ok (.invokevirtual 82, 3) := by decide +kernel
theorem dL_record_8 : decode cL_record 8 = .ok (.i2l, 1) := by decide +kernel
theorem dL_record_9 : decode cL_record 9 = .ok (.lastore, 1) := by decide +kernel
theorem dL_record_10 : decode cL_record 10 = .ok (.goto 7, 3) := by decide +kernel
theorem dL_record_13 : decode cL_record 13 = .ok (.astore 4, 2) := by decide +kernel
theorem dL_record_15 : decode cL_record 15 = .ok (.iconst 1, 1) := by decide +kernel
theorem dL_record_16 : decode cL_record 16 = .ok (.ireturn, 1) := by decide +kernel
theorem dL_record_17 : decode cL_record 17 = .ok (.iconst 0, 1) := by decide +kernel
theorem dL_record_18 : decode cL_record 18 = .ok (.ireturn, 1) := by decide +kernel
theorem dL_beat_0 : decode cL_beat 0 = .ok (.aload_n 2, 1) := by decide +kernel
theorem dL_beat_1 : decode cL_beat 1 = .ok (.iconst 0, 1) := by decide +kernel
theorem dL_beat_2 : decode cL_beat 2 = .ok (.aload_n 0, 1) := by decide +kernel
theorem dL_beat_3 : decode cL_beat 3 = .ok (.iload_n 1, 1) := by decide +kernel
theorem dL_beat_4 : decode cL_beat 4 = .ok (.invokevirtual 85, 3) := by decide +kernel
theorem dL_beat_7 : decode cL_beat 7 = .ok (.i2l, 1) := by decide +kernel
theorem dL_beat_8 : decode cL_beat 8 = .ok (.lastore, 1) := by decide +kernel
theorem dL_beat_9 : decode cL_beat 9 = .ok (.goto 6, 3) := by decide +kernel
theorem dL_beat_12 : decode cL_beat 12 = .ok (.astore_n 3, 1) := by decide +kernel
theorem dL_beat_13 : decode cL_beat 13 = .ok (.iconst 1, 1) := by decide +kernel
theorem dL_beat_14 : decode cL_beat 14 = .ok (.ireturn, 1) := by decide +kernel
theorem dL_beat_15 : decode cL_beat 15 = .ok (.iconst 0, 1) := by decide +kernel
theorem dL_beat_16 : decode cL_beat 16 = .ok (.ireturn, 1) := by decide +kernel
theorem dL_better_0 : decode cL_better 0 = .ok (.aload_n 3, 1) := by decide +kernel
theorem dL_better_1 : decode cL_better 1 = .ok (.iconst 0, 1) := by decide +kernel
theorem dL_better_2 : decode cL_better 2 = .ok (.aload_n 0, 1) := by decide +kernel
theorem dL_better_3 : decode cL_better 3 = .ok (.iload_n 1, 1) := by decide +kernel
theorem dL_better_4 : decode cL_better 4 = .ok (.iload_n 2, 1) := by decide +kernel
theorem dL_better_5 : decode cL_better 5 = .ok (.invokevirtual 88, 3) := by decide +kernel
theorem dL_better_8 : decode cL_better 8 = .ok (.i2l, 1) := by decide +kernel
theorem dL_better_9 : decode cL_better 9 = .ok (.lastore, 1) := by decide +kernel
theorem dL_better_10 : decode cL_better 10 = .ok (.goto 11, 3) := by decide +kernel
theorem dL_better_13 : decode cL_better 13 = .ok (.astore 4, 2) := by decide +kernel
theorem dL_better_15 : decode cL_better 15 = .ok (.iconst 1, 1) := by decide +kernel
theorem dL_better_16 : decode cL_better 16 = .ok (.ireturn, 1) := by decide +kernel
theorem dL_better_17 : decode cL_better 17 = .ok (.astore 4, 2) := by decide +kernel
theorem dL_better_19 : decode cL_better 19 = .ok (.iconst 2, 1) := by decide +kernel
theorem dL_better_20 : decode cL_better 20 = .ok (.ireturn, 1) := by decide +kernel
theorem dL_better_21 : decode cL_better 21 = .ok (.iconst 0, 1) := by decide +kernel
theorem dL_better_22 : decode cL_better 22 = .ok (.ireturn, 1) := by decide +kernel
end
section
theorem dL_law_0 : decode cL_law 0 = .ok (.new 8, 3) := by decide +kernel
theorem dL_law_3 : decode cL_law 3 = .ok (.dup, 1) := by decide +kernel
theorem dL_law_4 : decode cL_law 4 = .ok (.invokespecial 91, 3) := by decide +kernel
theorem dL_law_7 : decode cL_law 7 = .ok (.astore_n 1, 1) := by decide +kernel
theorem dL_law_8 : decode cL_law 8 = .ok (.new 92, 3) := by decide +kernel
theorem dL_law_11 : decode cL_law 11 = .ok (.dup, 1) := by decide +kernel
theorem dL_law_12 : decode cL_law 12 = .ok (.invokespecial 94, 3) := by decide +kernel
theorem dL_law_15 : decode cL_law 15 = .ok (.astore_n 2, 1) := by decide +kernel
theorem dL_law_16 : decode cL_law 16 = .ok (.iconst 1, 1) := by decide +kernel
theorem dL_law_17 : decode cL_law 17 = .ok (.newarray .long, 2) := by decide +kernel
theorem dL_law_19 : decode cL_law 19 = .ok (.astore_n 3, 1) := by decide +kernel
theorem dL_law_20 : decode cL_law 20 = .ok (.iconst 1, 1) := by decide +kernel
theorem dL_law_21 : decode cL_law 21 = .ok (.newarray .double, 2) := by decide +kernel
theorem dL_law_23 : decode cL_law 23 = .ok (.astore 4, 2) := by decide +kernel
theorem dL_law_25 : decode cL_law 25 = .ok (.iconst 0, 1) := by decide +kernel
theorem dL_law_26 : decode cL_law 26 = .ok (.istore 5, 2) := by decide +kernel
theorem dL_law_28 : decode cL_law 28 = .ok (.iload 5, 2) := by decide +kernel
theorem dL_law_30 : decode cL_law 30 = .ok (.aload_n 0, 1) := by decide +kernel
theorem dL_law_31 : decode cL_law 31 = .ok (.arraylength, 1) := by decide +kernel
theorem dL_law_32 : decode cL_law 32 = .ok (.bipush 7, 2) := by decide +kernel
theorem dL_law_34 : decode cL_law 34 = .ok (.isub, 1) := by decide +kernel
theorem dL_law_35 : decode cL_law 35 = .ok (.if_icmp .gt 1770, 3) := by decide +kernel
theorem dL_law_38 : decode cL_law 38 = .ok (.aload_n 0, 1) := by decide +kernel
theorem dL_law_39 : decode cL_law 39 = .ok (.iload 5, 2) := by decide +kernel
theorem dL_law_41 : decode cL_law 41 = .ok (.iaload, 1) := by decide +kernel
theorem dL_law_42 : decode cL_law 42 = .ok (.bipush 31, 2) := by decide +kernel
theorem dL_law_44 : decode cL_law 44 = .ok (.iand, 1) := by decide +kernel
theorem dL_law_45 : decode cL_law 45 = .ok (.tableswitch 1754 0 23 #[111, 159, 215, 263, 331, 387, 443, 511, 591, 647, 703, 758, 826, 894, 949, 991, 1124, 1257, 1371, 1439, 1507, 1562, 1630, 1686], 111) := by decide +kernel
theorem dL_law_156 : decode cL_law 156 = .ok (.aload_n 1, 1) := by decide +kernel
theorem dL_law_157 : decode cL_law 157 = .ok (.aload_n 0, 1) := by decide +kernel
theorem dL_law_158 : decode cL_law 158 = .ok (.iload 5, 2) := by decide +kernel
theorem dL_law_160 : decode cL_law 160 = .ok (.iconst 1, 1) := by decide +kernel
theorem dL_law_161 : decode cL_law 161 = .ok (.iadd, 1) := by decide +kernel
theorem dL_law_162 : decode cL_law 162 = .ok (.iaload, 1) := by decide +kernel
theorem dL_law_163 : decode cL_law 163 = .ok (.aload_n 0, 1) := by decide +kernel
theorem dL_law_164 : decode cL_law 164 = .ok (.iload 5, 2) := by decide +kernel
theorem dL_law_166 : decode cL_law 166 = .ok (.iconst 2, 1) := by decide +kernel
theorem dL_law_167 : decode cL_law 167 = .ok (.iadd, 1) := by decide +kernel
theorem dL_law_168 : decode cL_law 168 = .ok (.iaload, 1) := by decide +kernel
theorem dL_law_169 : decode cL_law 169 = .ok (.invokestatic 95, 3) := by decide +kernel
theorem dL_law_172 : decode cL_law 172 = .ok (.istore 6, 2) := by decide +kernel
theorem dL_law_174 : decode cL_law 174 = .ok (.aload_n 2, 1) := by decide +kernel
theorem dL_law_175 : decode cL_law 175 = .ok (.aload_n 0, 1) := by decide +kernel
theorem dL_law_176 : decode cL_law 176 = .ok (.iload 5, 2) := by decide +kernel
theorem dL_law_178 : decode cL_law 178 = .ok (.iconst 1, 1) := by decide +kernel
theorem dL_law_179 : decode cL_law 179 = .ok (.iadd, 1) := by decide +kernel
theorem dL_law_180 : decode cL_law 180 = .ok (.iaload, 1) := by decide +kernel
theorem dL_law_181 : decode cL_law 181 = .ok (.aload_n 0, 1) := by decide +kernel
theorem dL_law_182 : decode cL_law 182 = .ok (.iload 5, 2) := by decide +kernel
theorem dL_law_184 : decode cL_law 184 = .ok (.iconst 2, 1) := by decide +kernel
theorem dL_law_185 : decode cL_law 185 = .ok (.iadd, 1) := by decide +kernel
theorem dL_law_186 : decode cL_law 186 = .ok (.iaload, 1) := by decide +kernel
theorem dL_law_187 : decode cL_law 187 = .ok (.invokevirtual 100, 3) := by decide +kernel
theorem dL_law_190 : decode cL_law 190 = .ok (.aload_n 2, 1) := by decide +kernel
theorem dL_law_191 : decode cL_law 191 = .ok (.invokevirtual 101, 3) := by decide +kernel
theorem dL_law_194 : decode cL_law 194 = .ok (.iload 6, 2) := by decide +kernel
theorem dL_law_196 : decode cL_law 196 = .ok (.if_icmp .eq 5, 3) := by decide +kernel
theorem dL_law_199 : decode cL_law 199 = .ok (.iconst 0, 1) := by decide +kernel
theorem dL_law_200 : decode cL_law 200 = .ok (.ireturn, 1) := by decide +kernel
theorem dL_law_201 : decode cL_law 201 = .ok (.goto 1598, 3) := by decide +kernel
theorem dL_law_204 : decode cL_law 204 = .ok (.aload_n 1, 1) := by decide +kernel
theorem dL_law_205 : decode cL_law 205 = .ok (.aload_n 0, 1) := by decide +kernel
theorem dL_law_206 : decode cL_law 206 = .ok (.iload 5, 2) := by decide +kernel
theorem dL_law_208 : decode cL_law 208 = .ok (.iconst 1, 1) := by decide +kernel
theorem dL_law_209 : decode cL_law 209 = .ok (.iadd, 1) := by decide +kernel
theorem dL_law_210 : decode cL_law 210 = .ok (.iaload, 1) := by decide +kernel
theorem dL_law_211 : decode cL_law 211 = .ok (.aload_n 3, 1) := by decide +kernel
theorem dL_law_212 : decode cL_law 212 = .ok (.invokestatic 105, 3) := by decide +kernel
theorem dL_law_215 : decode cL_law 215 = .ok (.istore 6, 2) := by decide +kernel
theorem dL_law_217 : decode cL_law 217 = .ok (.aload_n 2, 1) := by decide +kernel
theorem dL_law_218 : decode cL_law 218 = .ok (.aload_n 0, 1) := by decide +kernel
theorem dL_law_219 : decode cL_law 219 = .ok (.iload 5, 2) := by decide +kernel
theorem dL_law_221 : decode cL_law 221 = .ok (.iconst 1, 1) := by decide +kernel
theorem dL_law_222 : decode cL_law 222 = .ok (.iadd, 1) := by decide +kernel
theorem dL_law_223 : decode cL_law 223 = .ok (.iaload, 1) := by decide +kernel
theorem dL_law_224 : decode cL_law 224 = .ok (.invokevirtual 108, 3) := by decide +kernel
theorem dL_law_227 : decode cL_law 227 = .ok (.istore 7, 2) := by decide +kernel
theorem dL_law_229 : decode cL_law 229 = .ok (.aload_n 2, 1) := by decide +kernel
theorem dL_law_230 : decode cL_law 230 = .ok (.invokevirtual 101, 3) := by decide +kernel
theorem dL_law_233 : decode cL_law 233 = .ok (.iload 6, 2) := by decide +kernel
theorem dL_law_235 : decode cL_law 235 = .ok (.if_icmp .eq 5, 3) := by decide +kernel
theorem dL_law_238 : decode cL_law 238 = .ok (.iconst 0, 1) := by decide +kernel
theorem dL_law_239 : decode cL_law 239 = .ok (.ireturn, 1) := by decide +kernel
theorem dL_law_240 : decode cL_law 240 = .ok (.iload 6, 2) := by decide +kernel
theorem dL_law_242 : decode cL_law 242 = .ok (.ifCond .ne 15, 3) := by decide +kernel
theorem dL_law_245 : decode cL_law 245 = .ok (.aload_n 3, 1) := by decide +kernel
theorem dL_law_246 : decode cL_law 246 = .ok (.iconst 0, 1) := by decide +kernel
theorem dL_law_247 : decode cL_law 247 = .ok (.laload, 1) := by decide +kernel
theorem dL_law_248 : decode cL_law 248 = .ok (.iload 7, 2) := by decide +kernel
theorem dL_law_250 : decode cL_law 250 = .ok (.i2l, 1) := by decide +kernel
theorem dL_law_251 : decode cL_law 251 = .ok (.lcmp, 1) := by decide +kernel
theorem dL_law_252 : decode cL_law 252 = .ok (.ifCond .eq 5, 3) := by decide +kernel
theorem dL_law_255 : decode cL_law 255 = .ok (.iconst 0, 1) := by decide +kernel
theorem dL_law_256 : decode cL_law 256 = .ok (.ireturn, 1) := by decide +kernel
theorem dL_law_257 : decode cL_law 257 = .ok (.goto 1542, 3) := by decide +kernel
theorem dL_law_260 : decode cL_law 260 = .ok (.aload_n 1, 1) := by decide +kernel
theorem dL_law_261 : decode cL_law 261 = .ok (.aload_n 0, 1) := by decide +kernel
theorem dL_law_262 : decode cL_law 262 = .ok (.iload 5, 2) := by decide +kernel
theorem dL_law_264 : decode cL_law 264 = .ok (.iconst 1, 1) := by decide +kernel
theorem dL_law_265 : decode cL_law 265 = .ok (.iadd, 1) := by decide +kernel
theorem dL_law_266 : decode cL_law 266 = .ok (.iaload, 1) := by decide +kernel
theorem dL_law_267 : decode cL_law 267 = .ok (.aload_n 0, 1) := by decide +kernel
theorem dL_law_268 : decode cL_law 268 = .ok (.iload 5, 2) := by decide +kernel
theorem dL_law_270 : decode cL_law 270 = .ok (.iconst 2, 1) := by decide +kernel
theorem dL_law_271 : decode cL_law 271 = .ok (.iadd, 1) := by decide +kernel
theorem dL_law_272 : decode cL_law 272 = .ok (.iaload, 1) := by decide +kernel
theorem dL_law_273 : decode cL_law 273 = .ok (.invokestatic 109, 3) := by decide +kernel
theorem dL_law_276 : decode cL_law 276 = .ok (.istore 6, 2) := by decide +kernel
theorem dL_law_278 : decode cL_law 278 = .ok (.aload_n 2, 1) := by decide +kernel
theorem dL_law_279 : decode cL_law 279 = .ok (.aload_n 0, 1) := by decide +kernel
theorem dL_law_280 : decode cL_law 280 = .ok (.iload 5, 2) := by decide +kernel
theorem dL_law_282 : decode cL_law 282 = .ok (.iconst 1, 1) := by decide +kernel
theorem dL_law_283 : decode cL_law 283 = .ok (.iadd, 1) := by decide +kernel
theorem dL_law_284 : decode cL_law 284 = .ok (.iaload, 1) := by decide +kernel
theorem dL_law_285 : decode cL_law 285 = .ok (.aload_n 0, 1) := by decide +kernel
theorem dL_law_286 : decode cL_law 286 = .ok (.iload 5, 2) := by decide +kernel
theorem dL_law_288 : decode cL_law 288 = .ok (.iconst 2, 1) := by decide +kernel
theorem dL_law_289 : decode cL_law 289 = .ok (.iadd, 1) := by decide +kernel
theorem dL_law_290 : decode cL_law 290 = .ok (.iaload, 1) := by decide +kernel
theorem dL_law_291 : decode cL_law 291 = .ok (.invokevirtual 111, 3) := by decide +kernel
theorem dL_law_294 : decode cL_law 294 = .ok (.aload_n 2, 1) := by decide +kernel
theorem dL_law_295 : decode cL_law 295 = .ok (.invokevirtual 101, 3) := by decide +kernel
theorem dL_law_298 : decode cL_law 298 = .ok (.iload 6, 2) := by decide +kernel
theorem dL_law_300 : decode cL_law 300 = .ok (.if_icmp .eq 5, 3) := by decide +kernel
theorem dL_law_303 : decode cL_law 303 = .ok (.iconst 0, 1) := by decide +kernel
theorem dL_law_304 : decode cL_law 304 = .ok (.ireturn, 1) := by decide +kernel
theorem dL_law_305 : decode cL_law 305 = .ok (.goto 1494, 3) := by decide +kernel
theorem dL_law_308 : decode cL_law 308 = .ok (.aload_n 1, 1) := by decide +kernel
theorem dL_law_309 : decode cL_law 309 = .ok (.aload_n 0, 1) := by decide +kernel
theorem dL_law_310 : decode cL_law 310 = .ok (.iload 5, 2) := by decide +kernel
theorem dL_law_312 : decode cL_law 312 = .ok (.iconst 1, 1) := by decide +kernel
theorem dL_law_313 : decode cL_law 313 = .ok (.iadd, 1) := by decide +kernel
theorem dL_law_314 : decode cL_law 314 = .ok (.iaload, 1) := by decide +kernel
theorem dL_law_315 : decode cL_law 315 = .ok (.aload_n 0, 1) := by decide +kernel
theorem dL_law_316 : decode cL_law 316 = .ok (.iload 5, 2) := by decide +kernel
theorem dL_law_318 : decode cL_law 318 = .ok (.iconst 2, 1) := by decide +kernel
theorem dL_law_319 : decode cL_law 319 = .ok (.iadd, 1) := by decide +kernel
theorem dL_law_320 : decode cL_law 320 = .ok (.iaload, 1) := by decide +kernel
theorem dL_law_321 : decode cL_law 321 = .ok (.aload_n 3, 1) := by decide +kernel
theorem dL_law_322 : decode cL_law 322 = .ok (.invokestatic 112, 3) := by decide +kernel
theorem dL_law_325 : decode cL_law 325 = .ok (.istore 6, 2) := by decide +kernel
theorem dL_law_327 : decode cL_law 327 = .ok (.aload_n 2, 1) := by decide +kernel
theorem dL_law_328 : decode cL_law 328 = .ok (.aload_n 0, 1) := by decide +kernel
theorem dL_law_329 : decode cL_law 329 = .ok (.iload 5, 2) := by decide +kernel
theorem dL_law_331 : decode cL_law 331 = .ok (.iconst 1, 1) := by decide +kernel
theorem dL_law_332 : decode cL_law 332 = .ok (.iadd, 1) := by decide +kernel
theorem dL_law_333 : decode cL_law 333 = .ok (.iaload, 1) := by decide +kernel
theorem dL_law_334 : decode cL_law 334 = .ok (.aload_n 0, 1) := by decide +kernel
theorem dL_law_335 : decode cL_law 335 = .ok (.iload 5, 2) := by decide +kernel
theorem dL_law_337 : decode cL_law 337 = .ok (.iconst 2, 1) := by decide +kernel
theorem dL_law_338 : decode cL_law 338 = .ok (.iadd, 1) := by decide +kernel
theorem dL_law_339 : decode cL_law 339 = .ok (.iaload, 1) := by decide +kernel
theorem dL_law_340 : decode cL_law 340 = .ok (.invokevirtual 115, 3) := by decide +kernel
theorem dL_law_343 : decode cL_law 343 = .ok (.istore 7, 2) := by decide +kernel
theorem dL_law_345 : decode cL_law 345 = .ok (.aload_n 2, 1) := by decide +kernel
theorem dL_law_346 : decode cL_law 346 = .ok (.invokevirtual 101, 3) := by decide +kernel
theorem dL_law_349 : decode cL_law 349 = .ok (.iload 6, 2) := by decide +kernel
theorem dL_law_351 : decode cL_law 351 = .ok (.if_icmp .eq 5, 3) := by decide +kernel
theorem dL_law_354 : decode cL_law 354 = .ok (.iconst 0, 1) := by decide +kernel
theorem dL_law_355 : decode cL_law 355 = .ok (.ireturn, 1) := by decide +kernel
theorem dL_law_356 : decode cL_law 356 = .ok (.iload 6, 2) := by decide +kernel
theorem dL_law_358 : decode cL_law 358 = .ok (.ifCond .ne 15, 3) := by decide +kernel
theorem dL_law_361 : decode cL_law 361 = .ok (.aload_n 3, 1) := by decide +kernel
theorem dL_law_362 : decode cL_law 362 = .ok (.iconst 0, 1) := by decide +kernel
theorem dL_law_363 : decode cL_law 363 = .ok (.laload, 1) := by decide +kernel
theorem dL_law_364 : decode cL_law 364 = .ok (.iload 7, 2) := by decide +kernel
theorem dL_law_366 : decode cL_law 366 = .ok (.i2l, 1) := by decide +kernel
theorem dL_law_367 : decode cL_law 367 = .ok (.lcmp, 1) := by decide +kernel
theorem dL_law_368 : decode cL_law 368 = .ok (.ifCond .eq 5, 3) := by decide +kernel
theorem dL_law_371 : decode cL_law 371 = .ok (.iconst 0, 1) := by decide +kernel
theorem dL_law_372 : decode cL_law 372 = .ok (.ireturn, 1) := by decide +kernel
theorem dL_law_373 : decode cL_law 373 = .ok (.goto 1426, 3) := by decide +kernel
theorem dL_law_376 : decode cL_law 376 = .ok (.aload_n 1, 1) := by decide +kernel
theorem dL_law_377 : decode cL_law 377 = .ok (.aload_n 0, 1) := by decide +kernel
theorem dL_law_378 : decode cL_law 378 = .ok (.iload 5, 2) := by decide +kernel
theorem dL_law_380 : decode cL_law 380 = .ok (.iconst 1, 1) := by decide +kernel
theorem dL_law_381 : decode cL_law 381 = .ok (.iadd, 1) := by decide +kernel
theorem dL_law_382 : decode cL_law 382 = .ok (.iaload, 1) := by decide +kernel
theorem dL_law_383 : decode cL_law 383 = .ok (.aload_n 3, 1) := by decide +kernel
theorem dL_law_384 : decode cL_law 384 = .ok (.invokestatic 116, 3) := by decide +kernel
theorem dL_law_387 : decode cL_law 387 = .ok (.istore 6, 2) := by decide +kernel
theorem dL_law_389 : decode cL_law 389 = .ok (.aload_n 2, 1) := by decide +kernel
theorem dL_law_390 : decode cL_law 390 = .ok (.aload_n 0, 1) := by decide +kernel
theorem dL_law_391 : decode cL_law 391 = .ok (.iload 5, 2) := by decide +kernel
theorem dL_law_393 : decode cL_law 393 = .ok (.iconst 1, 1) := by decide +kernel
theorem dL_law_394 : decode cL_law 394 = .ok (.iadd, 1) := by decide +kernel
theorem dL_law_395 : decode cL_law 395 = .ok (.iaload, 1) := by decide +kernel
theorem dL_law_396 : decode cL_law 396 = .ok (.invokevirtual 118, 3) := by decide +kernel
theorem dL_law_399 : decode cL_law 399 = .ok (.istore 7, 2) := by decide +kernel
theorem dL_law_401 : decode cL_law 401 = .ok (.aload_n 2, 1) := by decide +kernel
theorem dL_law_402 : decode cL_law 402 = .ok (.invokevirtual 101, 3) := by decide +kernel
theorem dL_law_405 : decode cL_law 405 = .ok (.iload 6, 2) := by decide +kernel
theorem dL_law_407 : decode cL_law 407 = .ok (.if_icmp .eq 5, 3) := by decide +kernel
theorem dL_law_410 : decode cL_law 410 = .ok (.iconst 0, 1) := by decide +kernel
theorem dL_law_411 : decode cL_law 411 = .ok (.ireturn, 1) := by decide +kernel
theorem dL_law_412 : decode cL_law 412 = .ok (.iload 6, 2) := by decide +kernel
theorem dL_law_414 : decode cL_law 414 = .ok (.ifCond .ne 15, 3) := by decide +kernel
theorem dL_law_417 : decode cL_law 417 = .ok (.aload_n 3, 1) := by decide +kernel
theorem dL_law_418 : decode cL_law 418 = .ok (.iconst 0, 1) := by decide +kernel
theorem dL_law_419 : decode cL_law 419 = .ok (.laload, 1) := by decide +kernel
theorem dL_law_420 : decode cL_law 420 = .ok (.iload 7, 2) := by decide +kernel
theorem dL_law_422 : decode cL_law 422 = .ok (.i2l, 1) := by decide +kernel
theorem dL_law_423 : decode cL_law 423 = .ok (.lcmp, 1) := by decide +kernel
theorem dL_law_424 : decode cL_law 424 = .ok (.ifCond .eq 5, 3) := by decide +kernel
theorem dL_law_427 : decode cL_law 427 = .ok (.iconst 0, 1) := by decide +kernel
theorem dL_law_428 : decode cL_law 428 = .ok (.ireturn, 1) := by decide +kernel
theorem dL_law_429 : decode cL_law 429 = .ok (.goto 1370, 3) := by decide +kernel
theorem dL_law_432 : decode cL_law 432 = .ok (.aload_n 1, 1) := by decide +kernel
theorem dL_law_433 : decode cL_law 433 = .ok (.aload_n 0, 1) := by decide +kernel
theorem dL_law_434 : decode cL_law 434 = .ok (.iload 5, 2) := by decide +kernel
theorem dL_law_436 : decode cL_law 436 = .ok (.iconst 1, 1) := by decide +kernel
theorem dL_law_437 : decode cL_law 437 = .ok (.iadd, 1) := by decide +kernel
theorem dL_law_438 : decode cL_law 438 = .ok (.iaload, 1) := by decide +kernel
theorem dL_law_439 : decode cL_law 439 = .ok (.aload_n 3, 1) := by decide +kernel
theorem dL_law_440 : decode cL_law 440 = .ok (.invokestatic 119, 3) := by decide +kernel
theorem dL_law_443 : decode cL_law 443 = .ok (.istore 6, 2) := by decide +kernel
theorem dL_law_445 : decode cL_law 445 = .ok (.aload_n 2, 1) := by decide +kernel
theorem dL_law_446 : decode cL_law 446 = .ok (.aload_n 0, 1) := by decide +kernel
theorem dL_law_447 : decode cL_law 447 = .ok (.iload 5, 2) := by decide +kernel
theorem dL_law_449 : decode cL_law 449 = .ok (.iconst 1, 1) := by decide +kernel
theorem dL_law_450 : decode cL_law 450 = .ok (.iadd, 1) := by decide +kernel
theorem dL_law_451 : decode cL_law 451 = .ok (.iaload, 1) := by decide +kernel
theorem dL_law_452 : decode cL_law 452 = .ok (.invokevirtual 121, 3) := by decide +kernel
theorem dL_law_455 : decode cL_law 455 = .ok (.istore 7, 2) := by decide +kernel
theorem dL_law_457 : decode cL_law 457 = .ok (.aload_n 2, 1) := by decide +kernel
theorem dL_law_458 : decode cL_law 458 = .ok (.invokevirtual 101, 3) := by decide +kernel
theorem dL_law_461 : decode cL_law 461 = .ok (.iload 6, 2) := by decide +kernel
theorem dL_law_463 : decode cL_law 463 = .ok (.if_icmp .eq 5, 3) := by decide +kernel
theorem dL_law_466 : decode cL_law 466 = .ok (.iconst 0, 1) := by decide +kernel
theorem dL_law_467 : decode cL_law 467 = .ok (.ireturn, 1) := by decide +kernel
theorem dL_law_468 : decode cL_law 468 = .ok (.iload 6, 2) := by decide +kernel
theorem dL_law_470 : decode cL_law 470 = .ok (.ifCond .ne 15, 3) := by decide +kernel
theorem dL_law_473 : decode cL_law 473 = .ok (.aload_n 3, 1) := by decide +kernel
theorem dL_law_474 : decode cL_law 474 = .ok (.iconst 0, 1) := by decide +kernel
theorem dL_law_475 : decode cL_law 475 = .ok (.laload, 1) := by decide +kernel
theorem dL_law_476 : decode cL_law 476 = .ok (.iload 7, 2) := by decide +kernel
theorem dL_law_478 : decode cL_law 478 = .ok (.i2l, 1) := by decide +kernel
theorem dL_law_479 : decode cL_law 479 = .ok (.lcmp, 1) := by decide +kernel
theorem dL_law_480 : decode cL_law 480 = .ok (.ifCond .eq 5, 3) := by decide +kernel
theorem dL_law_483 : decode cL_law 483 = .ok (.iconst 0, 1) := by decide +kernel
theorem dL_law_484 : decode cL_law 484 = .ok (.ireturn, 1) := by decide +kernel
theorem dL_law_485 : decode cL_law 485 = .ok (.goto 1314, 3) := by decide +kernel
theorem dL_law_488 : decode cL_law 488 = .ok (.aload_n 1, 1) := by decide +kernel
theorem dL_law_489 : decode cL_law 489 = .ok (.aload_n 0, 1) := by decide +kernel
theorem dL_law_490 : decode cL_law 490 = .ok (.iload 5, 2) := by decide +kernel
theorem dL_law_492 : decode cL_law 492 = .ok (.iconst 1, 1) := by decide +kernel
theorem dL_law_493 : decode cL_law 493 = .ok (.iadd, 1) := by decide +kernel
theorem dL_law_494 : decode cL_law 494 = .ok (.iaload, 1) := by decide +kernel
theorem dL_law_495 : decode cL_law 495 = .ok (.aload_n 0, 1) := by decide +kernel
theorem dL_law_496 : decode cL_law 496 = .ok (.iload 5, 2) := by decide +kernel
theorem dL_law_498 : decode cL_law 498 = .ok (.iconst 2, 1) := by decide +kernel
theorem dL_law_499 : decode cL_law 499 = .ok (.iadd, 1) := by decide +kernel
theorem dL_law_500 : decode cL_law 500 = .ok (.iaload, 1) := by decide +kernel
theorem dL_law_501 : decode cL_law 501 = .ok (.aload_n 3, 1) := by decide +kernel
theorem dL_law_502 : decode cL_law 502 = .ok (.invokestatic 122, 3) := by decide +kernel
theorem dL_law_505 : decode cL_law 505 = .ok (.istore 6, 2) := by decide +kernel
theorem dL_law_507 : decode cL_law 507 = .ok (.aload_n 2, 1) := by decide +kernel
theorem dL_law_508 : decode cL_law 508 = .ok (.aload_n 0, 1) := by decide +kernel
theorem dL_law_509 : decode cL_law 509 = .ok (.iload 5, 2) := by decide +kernel
theorem dL_law_511 : decode cL_law 511 = .ok (.iconst 1, 1) := by decide +kernel
theorem dL_law_512 : decode cL_law 512 = .ok (.iadd, 1) := by decide +kernel
theorem dL_law_513 : decode cL_law 513 = .ok (.iaload, 1) := by decide +kernel
theorem dL_law_514 : decode cL_law 514 = .ok (.aload_n 0, 1) := by decide +kernel
theorem dL_law_515 : decode cL_law 515 = .ok (.iload 5, 2) := by decide +kernel
theorem dL_law_517 : decode cL_law 517 = .ok (.iconst 2, 1) := by decide +kernel
theorem dL_law_518 : decode cL_law 518 = .ok (.iadd, 1) := by decide +kernel
theorem dL_law_519 : decode cL_law 519 = .ok (.iaload, 1) := by decide +kernel
theorem dL_law_520 : decode cL_law 520 = .ok (.invokevirtual 124, 3) := by decide +kernel
theorem dL_law_523 : decode cL_law 523 = .ok (.istore 7, 2) := by decide +kernel
theorem dL_law_525 : decode cL_law 525 = .ok (.aload_n 2, 1) := by decide +kernel
theorem dL_law_526 : decode cL_law 526 = .ok (.invokevirtual 101, 3) := by decide +kernel
theorem dL_law_529 : decode cL_law 529 = .ok (.iload 6, 2) := by decide +kernel
theorem dL_law_531 : decode cL_law 531 = .ok (.if_icmp .eq 5, 3) := by decide +kernel
theorem dL_law_534 : decode cL_law 534 = .ok (.iconst 0, 1) := by decide +kernel
theorem dL_law_535 : decode cL_law 535 = .ok (.ireturn, 1) := by decide +kernel
theorem dL_law_536 : decode cL_law 536 = .ok (.iload 6, 2) := by decide +kernel
theorem dL_law_538 : decode cL_law 538 = .ok (.ifCond .ne 15, 3) := by decide +kernel
theorem dL_law_541 : decode cL_law 541 = .ok (.aload_n 3, 1) := by decide +kernel
theorem dL_law_542 : decode cL_law 542 = .ok (.iconst 0, 1) := by decide +kernel
theorem dL_law_543 : decode cL_law 543 = .ok (.laload, 1) := by decide +kernel
theorem dL_law_544 : decode cL_law 544 = .ok (.iload 7, 2) := by decide +kernel
theorem dL_law_546 : decode cL_law 546 = .ok (.i2l, 1) := by decide +kernel
theorem dL_law_547 : decode cL_law 547 = .ok (.lcmp, 1) := by decide +kernel
theorem dL_law_548 : decode cL_law 548 = .ok (.ifCond .eq 5, 3) := by decide +kernel
theorem dL_law_551 : decode cL_law 551 = .ok (.iconst 0, 1) := by decide +kernel
theorem dL_law_552 : decode cL_law 552 = .ok (.ireturn, 1) := by decide +kernel
theorem dL_law_553 : decode cL_law 553 = .ok (.goto 1246, 3) := by decide +kernel
theorem dL_law_556 : decode cL_law 556 = .ok (.aload_n 1, 1) := by decide +kernel
theorem dL_law_557 : decode cL_law 557 = .ok (.aload_n 0, 1) := by decide +kernel
theorem dL_law_558 : decode cL_law 558 = .ok (.iload 5, 2) := by decide +kernel
theorem dL_law_560 : decode cL_law 560 = .ok (.iconst 1, 1) := by decide +kernel
theorem dL_law_561 : decode cL_law 561 = .ok (.iadd, 1) := by decide +kernel
theorem dL_law_562 : decode cL_law 562 = .ok (.iaload, 1) := by decide +kernel
theorem dL_law_563 : decode cL_law 563 = .ok (.aload_n 0, 1) := by decide +kernel
theorem dL_law_564 : decode cL_law 564 = .ok (.iload 5, 2) := by decide +kernel
theorem dL_law_566 : decode cL_law 566 = .ok (.iconst 2, 1) := by decide +kernel
theorem dL_law_567 : decode cL_law 567 = .ok (.iadd, 1) := by decide +kernel
theorem dL_law_568 : decode cL_law 568 = .ok (.iaload, 1) := by decide +kernel
theorem dL_law_569 : decode cL_law 569 = .ok (.aload_n 0, 1) := by decide +kernel
theorem dL_law_570 : decode cL_law 570 = .ok (.iload 5, 2) := by decide +kernel
theorem dL_law_572 : decode cL_law 572 = .ok (.iconst 3, 1) := by decide +kernel
theorem dL_law_573 : decode cL_law 573 = .ok (.iadd, 1) := by decide +kernel
theorem dL_law_574 : decode cL_law 574 = .ok (.iaload, 1) := by decide +kernel
theorem dL_law_575 : decode cL_law 575 = .ok (.aload_n 3, 1) := by decide +kernel
theorem dL_law_576 : decode cL_law 576 = .ok (.invokestatic 125, 3) := by decide +kernel
theorem dL_law_579 : decode cL_law 579 = .ok (.istore 6, 2) := by decide +kernel
theorem dL_law_581 : decode cL_law 581 = .ok (.aload_n 2, 1) := by decide +kernel
theorem dL_law_582 : decode cL_law 582 = .ok (.aload_n 0, 1) := by decide +kernel
theorem dL_law_583 : decode cL_law 583 = .ok (.iload 5, 2) := by decide +kernel
theorem dL_law_585 : decode cL_law 585 = .ok (.iconst 1, 1) := by decide +kernel
theorem dL_law_586 : decode cL_law 586 = .ok (.iadd, 1) := by decide +kernel
theorem dL_law_587 : decode cL_law 587 = .ok (.iaload, 1) := by decide +kernel
theorem dL_law_588 : decode cL_law 588 = .ok (.aload_n 0, 1) := by decide +kernel
theorem dL_law_589 : decode cL_law 589 = .ok (.iload 5, 2) := by decide +kernel
theorem dL_law_591 : decode cL_law 591 = .ok (.iconst 2, 1) := by decide +kernel
theorem dL_law_592 : decode cL_law 592 = .ok (.iadd, 1) := by decide +kernel
theorem dL_law_593 : decode cL_law 593 = .ok (.iaload, 1) := by decide +kernel
theorem dL_law_594 : decode cL_law 594 = .ok (.aload_n 0, 1) := by decide +kernel
theorem dL_law_595 : decode cL_law 595 = .ok (.iload 5, 2) := by decide +kernel
theorem dL_law_597 : decode cL_law 597 = .ok (.iconst 3, 1) := by decide +kernel
theorem dL_law_598 : decode cL_law 598 = .ok (.iadd, 1) := by decide +kernel
theorem dL_law_599 : decode cL_law 599 = .ok (.iaload, 1) := by decide +kernel
theorem dL_law_600 : decode cL_law 600 = .ok (.invokevirtual 128, 3) := by decide +kernel
theorem dL_law_603 : decode cL_law 603 = .ok (.istore 7, 2) := by decide +kernel
theorem dL_law_605 : decode cL_law 605 = .ok (.aload_n 2, 1) := by decide +kernel
theorem dL_law_606 : decode cL_law 606 = .ok (.invokevirtual 101, 3) := by decide +kernel
theorem dL_law_609 : decode cL_law 609 = .ok (.iload 6, 2) := by decide +kernel
theorem dL_law_611 : decode cL_law 611 = .ok (.if_icmp .eq 5, 3) := by decide +kernel
theorem dL_law_614 : decode cL_law 614 = .ok (.iconst 0, 1) := by decide +kernel
theorem dL_law_615 : decode cL_law 615 = .ok (.ireturn, 1) := by decide +kernel
theorem dL_law_616 : decode cL_law 616 = .ok (.iload 6, 2) := by decide +kernel
theorem dL_law_618 : decode cL_law 618 = .ok (.ifCond .ne 15, 3) := by decide +kernel
theorem dL_law_621 : decode cL_law 621 = .ok (.aload_n 3, 1) := by decide +kernel
theorem dL_law_622 : decode cL_law 622 = .ok (.iconst 0, 1) := by decide +kernel
theorem dL_law_623 : decode cL_law 623 = .ok (.laload, 1) := by decide +kernel
theorem dL_law_624 : decode cL_law 624 = .ok (.iload 7, 2) := by decide +kernel
theorem dL_law_626 : decode cL_law 626 = .ok (.i2l, 1) := by decide +kernel
theorem dL_law_627 : decode cL_law 627 = .ok (.lcmp, 1) := by decide +kernel
theorem dL_law_628 : decode cL_law 628 = .ok (.ifCond .eq 5, 3) := by decide +kernel
theorem dL_law_631 : decode cL_law 631 = .ok (.iconst 0, 1) := by decide +kernel
theorem dL_law_632 : decode cL_law 632 = .ok (.ireturn, 1) := by decide +kernel
theorem dL_law_633 : decode cL_law 633 = .ok (.goto 1166, 3) := by decide +kernel
theorem dL_law_636 : decode cL_law 636 = .ok (.aload_n 1, 1) := by decide +kernel
theorem dL_law_637 : decode cL_law 637 = .ok (.aload_n 0, 1) := by decide +kernel
theorem dL_law_638 : decode cL_law 638 = .ok (.iload 5, 2) := by decide +kernel
theorem dL_law_640 : decode cL_law 640 = .ok (.iconst 1, 1) := by decide +kernel
theorem dL_law_641 : decode cL_law 641 = .ok (.iadd, 1) := by decide +kernel
theorem dL_law_642 : decode cL_law 642 = .ok (.iaload, 1) := by decide +kernel
theorem dL_law_643 : decode cL_law 643 = .ok (.aload_n 3, 1) := by decide +kernel
theorem dL_law_644 : decode cL_law 644 = .ok (.invokestatic 129, 3) := by decide +kernel
theorem dL_law_647 : decode cL_law 647 = .ok (.istore 6, 2) := by decide +kernel
theorem dL_law_649 : decode cL_law 649 = .ok (.aload_n 2, 1) := by decide +kernel
theorem dL_law_650 : decode cL_law 650 = .ok (.aload_n 0, 1) := by decide +kernel
theorem dL_law_651 : decode cL_law 651 = .ok (.iload 5, 2) := by decide +kernel
theorem dL_law_653 : decode cL_law 653 = .ok (.iconst 1, 1) := by decide +kernel
theorem dL_law_654 : decode cL_law 654 = .ok (.iadd, 1) := by decide +kernel
theorem dL_law_655 : decode cL_law 655 = .ok (.iaload, 1) := by decide +kernel
theorem dL_law_656 : decode cL_law 656 = .ok (.invokevirtual 131, 3) := by decide +kernel
theorem dL_law_659 : decode cL_law 659 = .ok (.istore 7, 2) := by decide +kernel
theorem dL_law_661 : decode cL_law 661 = .ok (.aload_n 2, 1) := by decide +kernel
theorem dL_law_662 : decode cL_law 662 = .ok (.invokevirtual 101, 3) := by decide +kernel
theorem dL_law_665 : decode cL_law 665 = .ok (.iload 6, 2) := by decide +kernel
theorem dL_law_667 : decode cL_law 667 = .ok (.if_icmp .eq 5, 3) := by decide +kernel
theorem dL_law_670 : decode cL_law 670 = .ok (.iconst 0, 1) := by decide +kernel
theorem dL_law_671 : decode cL_law 671 = .ok (.ireturn, 1) := by decide +kernel
theorem dL_law_672 : decode cL_law 672 = .ok (.iload 6, 2) := by decide +kernel
theorem dL_law_674 : decode cL_law 674 = .ok (.ifCond .ne 15, 3) := by decide +kernel
theorem dL_law_677 : decode cL_law 677 = .ok (.aload_n 3, 1) := by decide +kernel
theorem dL_law_678 : decode cL_law 678 = .ok (.iconst 0, 1) := by decide +kernel
theorem dL_law_679 : decode cL_law 679 = .ok (.laload, 1) := by decide +kernel
theorem dL_law_680 : decode cL_law 680 = .ok (.iload 7, 2) := by decide +kernel
theorem dL_law_682 : decode cL_law 682 = .ok (.i2l, 1) := by decide +kernel
theorem dL_law_683 : decode cL_law 683 = .ok (.lcmp, 1) := by decide +kernel
theorem dL_law_684 : decode cL_law 684 = .ok (.ifCond .eq 5, 3) := by decide +kernel
theorem dL_law_687 : decode cL_law 687 = .ok (.iconst 0, 1) := by decide +kernel
theorem dL_law_688 : decode cL_law 688 = .ok (.ireturn, 1) := by decide +kernel
theorem dL_law_689 : decode cL_law 689 = .ok (.goto 1110, 3) := by decide +kernel
theorem dL_law_692 : decode cL_law 692 = .ok (.aload_n 1, 1) := by decide +kernel
theorem dL_law_693 : decode cL_law 693 = .ok (.aload_n 0, 1) := by decide +kernel
theorem dL_law_694 : decode cL_law 694 = .ok (.iload 5, 2) := by decide +kernel
theorem dL_law_696 : decode cL_law 696 = .ok (.iconst 1, 1) := by decide +kernel
theorem dL_law_697 : decode cL_law 697 = .ok (.iadd, 1) := by decide +kernel
theorem dL_law_698 : decode cL_law 698 = .ok (.iaload, 1) := by decide +kernel
theorem dL_law_699 : decode cL_law 699 = .ok (.aload_n 3, 1) := by decide +kernel
theorem dL_law_700 : decode cL_law 700 = .ok (.invokestatic 132, 3) := by decide +kernel
theorem dL_law_703 : decode cL_law 703 = .ok (.istore 6, 2) := by decide +kernel
theorem dL_law_705 : decode cL_law 705 = .ok (.aload_n 2, 1) := by decide +kernel
theorem dL_law_706 : decode cL_law 706 = .ok (.aload_n 0, 1) := by decide +kernel
theorem dL_law_707 : decode cL_law 707 = .ok (.iload 5, 2) := by decide +kernel
theorem dL_law_709 : decode cL_law 709 = .ok (.iconst 1, 1) := by decide +kernel
theorem dL_law_710 : decode cL_law 710 = .ok (.iadd, 1) := by decide +kernel
theorem dL_law_711 : decode cL_law 711 = .ok (.iaload, 1) := by decide +kernel
theorem dL_law_712 : decode cL_law 712 = .ok (.invokevirtual 134, 3) := by decide +kernel
theorem dL_law_715 : decode cL_law 715 = .ok (.istore 7, 2) := by decide +kernel
theorem dL_law_717 : decode cL_law 717 = .ok (.aload_n 2, 1) := by decide +kernel
theorem dL_law_718 : decode cL_law 718 = .ok (.invokevirtual 101, 3) := by decide +kernel
theorem dL_law_721 : decode cL_law 721 = .ok (.iload 6, 2) := by decide +kernel
theorem dL_law_723 : decode cL_law 723 = .ok (.if_icmp .eq 5, 3) := by decide +kernel
theorem dL_law_726 : decode cL_law 726 = .ok (.iconst 0, 1) := by decide +kernel
theorem dL_law_727 : decode cL_law 727 = .ok (.ireturn, 1) := by decide +kernel
theorem dL_law_728 : decode cL_law 728 = .ok (.iload 6, 2) := by decide +kernel
theorem dL_law_730 : decode cL_law 730 = .ok (.ifCond .ne 15, 3) := by decide +kernel
theorem dL_law_733 : decode cL_law 733 = .ok (.aload_n 3, 1) := by decide +kernel
theorem dL_law_734 : decode cL_law 734 = .ok (.iconst 0, 1) := by decide +kernel
theorem dL_law_735 : decode cL_law 735 = .ok (.laload, 1) := by decide +kernel
theorem dL_law_736 : decode cL_law 736 = .ok (.iload 7, 2) := by decide +kernel
theorem dL_law_738 : decode cL_law 738 = .ok (.i2l, 1) := by decide +kernel
theorem dL_law_739 : decode cL_law 739 = .ok (.lcmp, 1) := by decide +kernel
theorem dL_law_740 : decode cL_law 740 = .ok (.ifCond .eq 5, 3) := by decide +kernel
theorem dL_law_743 : decode cL_law 743 = .ok (.iconst 0, 1) := by decide +kernel
theorem dL_law_744 : decode cL_law 744 = .ok (.ireturn, 1) := by decide +kernel
theorem dL_law_745 : decode cL_law 745 = .ok (.goto 1054, 3) := by decide +kernel
theorem dL_law_748 : decode cL_law 748 = .ok (.aload_n 1, 1) := by decide +kernel
theorem dL_law_749 : decode cL_law 749 = .ok (.aload_n 0, 1) := by decide +kernel
theorem dL_law_750 : decode cL_law 750 = .ok (.iload 5, 2) := by decide +kernel
theorem dL_law_752 : decode cL_law 752 = .ok (.iconst 1, 1) := by decide +kernel
theorem dL_law_753 : decode cL_law 753 = .ok (.iadd, 1) := by decide +kernel
theorem dL_law_754 : decode cL_law 754 = .ok (.iaload, 1) := by decide +kernel
theorem dL_law_755 : decode cL_law 755 = .ok (.aload_n 3, 1) := by decide +kernel
theorem dL_law_756 : decode cL_law 756 = .ok (.invokestatic 135, 3) := by decide +kernel
theorem dL_law_759 : decode cL_law 759 = .ok (.istore 6, 2) := by decide +kernel
theorem dL_law_761 : decode cL_law 761 = .ok (.aload_n 2, 1) := by decide +kernel
theorem dL_law_762 : decode cL_law 762 = .ok (.aload_n 0, 1) := by decide +kernel
theorem dL_law_763 : decode cL_law 763 = .ok (.iload 5, 2) := by decide +kernel
theorem dL_law_765 : decode cL_law 765 = .ok (.iconst 1, 1) := by decide +kernel
theorem dL_law_766 : decode cL_law 766 = .ok (.iadd, 1) := by decide +kernel
theorem dL_law_767 : decode cL_law 767 = .ok (.iaload, 1) := by decide +kernel
theorem dL_law_768 : decode cL_law 768 = .ok (.invokevirtual 137, 3) := by decide +kernel
theorem dL_law_771 : decode cL_law 771 = .ok (.lstore 7, 2) := by decide +kernel
theorem dL_law_773 : decode cL_law 773 = .ok (.aload_n 2, 1) := by decide +kernel
theorem dL_law_774 : decode cL_law 774 = .ok (.invokevirtual 101, 3) := by decide +kernel
theorem dL_law_777 : decode cL_law 777 = .ok (.iload 6, 2) := by decide +kernel
theorem dL_law_779 : decode cL_law 779 = .ok (.if_icmp .eq 5, 3) := by decide +kernel
theorem dL_law_782 : decode cL_law 782 = .ok (.iconst 0, 1) := by decide +kernel
theorem dL_law_783 : decode cL_law 783 = .ok (.ireturn, 1) := by decide +kernel
theorem dL_law_784 : decode cL_law 784 = .ok (.iload 6, 2) := by decide +kernel
theorem dL_law_786 : decode cL_law 786 = .ok (.ifCond .ne 14, 3) := by decide +kernel
theorem dL_law_789 : decode cL_law 789 = .ok (.aload_n 3, 1) := by decide +kernel
theorem dL_law_790 : decode cL_law 790 = .ok (.iconst 0, 1) := by decide +kernel
theorem dL_law_791 : decode cL_law 791 = .ok (.laload, 1) := by decide +kernel
theorem dL_law_792 : decode cL_law 792 = .ok (.lload 7, 2) := by decide +kernel
theorem dL_law_794 : decode cL_law 794 = .ok (.lcmp, 1) := by decide +kernel
theorem dL_law_795 : decode cL_law 795 = .ok (.ifCond .eq 5, 3) := by decide +kernel
theorem dL_law_798 : decode cL_law 798 = .ok (.iconst 0, 1) := by decide +kernel
theorem dL_law_799 : decode cL_law 799 = .ok (.ireturn, 1) := by decide +kernel
theorem dL_law_800 : decode cL_law 800 = .ok (.goto 999, 3) := by decide +kernel
theorem dL_law_803 : decode cL_law 803 = .ok (.aload_n 1, 1) := by decide +kernel
theorem dL_law_804 : decode cL_law 804 = .ok (.aload_n 0, 1) := by decide +kernel
theorem dL_law_805 : decode cL_law 805 = .ok (.iload 5, 2) := by decide +kernel
theorem dL_law_807 : decode cL_law 807 = .ok (.iconst 1, 1) := by decide +kernel
theorem dL_law_808 : decode cL_law 808 = .ok (.iadd, 1) := by decide +kernel
theorem dL_law_809 : decode cL_law 809 = .ok (.iaload, 1) := by decide +kernel
theorem dL_law_810 : decode cL_law 810 = .ok (.aload_n 0, 1) := by decide +kernel
theorem dL_law_811 : decode cL_law 811 = .ok (.iload 5, 2) := by decide +kernel
theorem dL_law_813 : decode cL_law 813 = .ok (.iconst 2, 1) := by decide +kernel
theorem dL_law_814 : decode cL_law 814 = .ok (.iadd, 1) := by decide +kernel
theorem dL_law_815 : decode cL_law 815 = .ok (.iaload, 1) := by decide +kernel
theorem dL_law_816 : decode cL_law 816 = .ok (.aload_n 3, 1) := by decide +kernel
theorem dL_law_817 : decode cL_law 817 = .ok (.invokestatic 138, 3) := by decide +kernel
theorem dL_law_820 : decode cL_law 820 = .ok (.istore 6, 2) := by decide +kernel
theorem dL_law_822 : decode cL_law 822 = .ok (.aload_n 2, 1) := by decide +kernel
theorem dL_law_823 : decode cL_law 823 = .ok (.aload_n 0, 1) := by decide +kernel
theorem dL_law_824 : decode cL_law 824 = .ok (.iload 5, 2) := by decide +kernel
theorem dL_law_826 : decode cL_law 826 = .ok (.iconst 1, 1) := by decide +kernel
theorem dL_law_827 : decode cL_law 827 = .ok (.iadd, 1) := by decide +kernel
theorem dL_law_828 : decode cL_law 828 = .ok (.iaload, 1) := by decide +kernel
theorem dL_law_829 : decode cL_law 829 = .ok (.aload_n 0, 1) := by decide +kernel
theorem dL_law_830 : decode cL_law 830 = .ok (.iload 5, 2) := by decide +kernel
theorem dL_law_832 : decode cL_law 832 = .ok (.iconst 2, 1) := by decide +kernel
theorem dL_law_833 : decode cL_law 833 = .ok (.iadd, 1) := by decide +kernel
theorem dL_law_834 : decode cL_law 834 = .ok (.iaload, 1) := by decide +kernel
theorem dL_law_835 : decode cL_law 835 = .ok (.invokevirtual 140, 3) := by decide +kernel
theorem dL_law_838 : decode cL_law 838 = .ok (.istore 7, 2) := by decide +kernel
theorem dL_law_840 : decode cL_law 840 = .ok (.aload_n 2, 1) := by decide +kernel
theorem dL_law_841 : decode cL_law 841 = .ok (.invokevirtual 101, 3) := by decide +kernel
theorem dL_law_844 : decode cL_law 844 = .ok (.iload 6, 2) := by decide +kernel
theorem dL_law_846 : decode cL_law 846 = .ok (.if_icmp .eq 5, 3) := by decide +kernel
theorem dL_law_849 : decode cL_law 849 = .ok (.iconst 0, 1) := by decide +kernel
theorem dL_law_850 : decode cL_law 850 = .ok (.ireturn, 1) := by decide +kernel
theorem dL_law_851 : decode cL_law 851 = .ok (.iload 6, 2) := by decide +kernel
theorem dL_law_853 : decode cL_law 853 = .ok (.ifCond .ne 15, 3) := by decide +kernel
theorem dL_law_856 : decode cL_law 856 = .ok (.aload_n 3, 1) := by decide +kernel
theorem dL_law_857 : decode cL_law 857 = .ok (.iconst 0, 1) := by decide +kernel
theorem dL_law_858 : decode cL_law 858 = .ok (.laload, 1) := by decide +kernel
theorem dL_law_859 : decode cL_law 859 = .ok (.iload 7, 2) := by decide +kernel
theorem dL_law_861 : decode cL_law 861 = .ok (.i2l, 1) := by decide +kernel
theorem dL_law_862 : decode cL_law 862 = .ok (.lcmp, 1) := by decide +kernel
theorem dL_law_863 : decode cL_law 863 = .ok (.ifCond .eq 5, 3) := by decide +kernel
theorem dL_law_866 : decode cL_law 866 = .ok (.iconst 0, 1) := by decide +kernel
theorem dL_law_867 : decode cL_law 867 = .ok (.ireturn, 1) := by decide +kernel
theorem dL_law_868 : decode cL_law 868 = .ok (.goto 931, 3) := by decide +kernel
theorem dL_law_871 : decode cL_law 871 = .ok (.aload_n 1, 1) := by decide +kernel
theorem dL_law_872 : decode cL_law 872 = .ok (.aload_n 0, 1) := by decide +kernel
theorem dL_law_873 : decode cL_law 873 = .ok (.iload 5, 2) := by decide +kernel
theorem dL_law_875 : decode cL_law 875 = .ok (.iconst 1, 1) := by decide +kernel
theorem dL_law_876 : decode cL_law 876 = .ok (.iadd, 1) := by decide +kernel
theorem dL_law_877 : decode cL_law 877 = .ok (.iaload, 1) := by decide +kernel
theorem dL_law_878 : decode cL_law 878 = .ok (.aload_n 0, 1) := by decide +kernel
theorem dL_law_879 : decode cL_law 879 = .ok (.iload 5, 2) := by decide +kernel
theorem dL_law_881 : decode cL_law 881 = .ok (.iconst 2, 1) := by decide +kernel
theorem dL_law_882 : decode cL_law 882 = .ok (.iadd, 1) := by decide +kernel
theorem dL_law_883 : decode cL_law 883 = .ok (.iaload, 1) := by decide +kernel
theorem dL_law_884 : decode cL_law 884 = .ok (.aload_n 3, 1) := by decide +kernel
theorem dL_law_885 : decode cL_law 885 = .ok (.invokestatic 141, 3) := by decide +kernel
theorem dL_law_888 : decode cL_law 888 = .ok (.istore 6, 2) := by decide +kernel
theorem dL_law_890 : decode cL_law 890 = .ok (.aload_n 2, 1) := by decide +kernel
theorem dL_law_891 : decode cL_law 891 = .ok (.aload_n 0, 1) := by decide +kernel
theorem dL_law_892 : decode cL_law 892 = .ok (.iload 5, 2) := by decide +kernel
theorem dL_law_894 : decode cL_law 894 = .ok (.iconst 1, 1) := by decide +kernel
theorem dL_law_895 : decode cL_law 895 = .ok (.iadd, 1) := by decide +kernel
theorem dL_law_896 : decode cL_law 896 = .ok (.iaload, 1) := by decide +kernel
theorem dL_law_897 : decode cL_law 897 = .ok (.aload_n 0, 1) := by decide +kernel
theorem dL_law_898 : decode cL_law 898 = .ok (.iload 5, 2) := by decide +kernel
theorem dL_law_900 : decode cL_law 900 = .ok (.iconst 2, 1) := by decide +kernel
theorem dL_law_901 : decode cL_law 901 = .ok (.iadd, 1) := by decide +kernel
theorem dL_law_902 : decode cL_law 902 = .ok (.iaload, 1) := by decide +kernel
theorem dL_law_903 : decode cL_law 903 = .ok (.invokevirtual 143, 3) := by decide +kernel
theorem dL_law_906 : decode cL_law 906 = .ok (.istore 7, 2) := by decide +kernel
theorem dL_law_908 : decode cL_law 908 = .ok (.aload_n 2, 1) := by decide +kernel
theorem dL_law_909 : decode cL_law 909 = .ok (.invokevirtual 101, 3) := by decide +kernel
theorem dL_law_912 : decode cL_law 912 = .ok (.iload 6, 2) := by decide +kernel
theorem dL_law_914 : decode cL_law 914 = .ok (.if_icmp .eq 5, 3) := by decide +kernel
theorem dL_law_917 : decode cL_law 917 = .ok (.iconst 0, 1) := by decide +kernel
theorem dL_law_918 : decode cL_law 918 = .ok (.ireturn, 1) := by decide +kernel
theorem dL_law_919 : decode cL_law 919 = .ok (.iload 6, 2) := by decide +kernel
theorem dL_law_921 : decode cL_law 921 = .ok (.ifCond .ne 15, 3) := by decide +kernel
theorem dL_law_924 : decode cL_law 924 = .ok (.aload_n 3, 1) := by decide +kernel
theorem dL_law_925 : decode cL_law 925 = .ok (.iconst 0, 1) := by decide +kernel
theorem dL_law_926 : decode cL_law 926 = .ok (.laload, 1) := by decide +kernel
theorem dL_law_927 : decode cL_law 927 = .ok (.iload 7, 2) := by decide +kernel
theorem dL_law_929 : decode cL_law 929 = .ok (.i2l, 1) := by decide +kernel
theorem dL_law_930 : decode cL_law 930 = .ok (.lcmp, 1) := by decide +kernel
theorem dL_law_931 : decode cL_law 931 = .ok (.ifCond .eq 5, 3) := by decide +kernel
theorem dL_law_934 : decode cL_law 934 = .ok (.iconst 0, 1) := by decide +kernel
theorem dL_law_935 : decode cL_law 935 = .ok (.ireturn, 1) := by decide +kernel
theorem dL_law_936 : decode cL_law 936 = .ok (.goto 863, 3) := by decide +kernel
theorem dL_law_939 : decode cL_law 939 = .ok (.aload_n 1, 1) := by decide +kernel
theorem dL_law_940 : decode cL_law 940 = .ok (.aload_n 0, 1) := by decide +kernel
theorem dL_law_941 : decode cL_law 941 = .ok (.iload 5, 2) := by decide +kernel
theorem dL_law_943 : decode cL_law 943 = .ok (.iconst 1, 1) := by decide +kernel
theorem dL_law_944 : decode cL_law 944 = .ok (.iadd, 1) := by decide +kernel
theorem dL_law_945 : decode cL_law 945 = .ok (.iaload, 1) := by decide +kernel
theorem dL_law_946 : decode cL_law 946 = .ok (.aload_n 3, 1) := by decide +kernel
theorem dL_law_947 : decode cL_law 947 = .ok (.invokestatic 144, 3) := by decide +kernel
theorem dL_law_950 : decode cL_law 950 = .ok (.istore 6, 2) := by decide +kernel
theorem dL_law_952 : decode cL_law 952 = .ok (.aload_n 2, 1) := by decide +kernel
theorem dL_law_953 : decode cL_law 953 = .ok (.aload_n 0, 1) := by decide +kernel
theorem dL_law_954 : decode cL_law 954 = .ok (.iload 5, 2) := by decide +kernel
theorem dL_law_956 : decode cL_law 956 = .ok (.iconst 1, 1) := by decide +kernel
theorem dL_law_957 : decode cL_law 957 = .ok (.iadd, 1) := by decide +kernel
theorem dL_law_958 : decode cL_law 958 = .ok (.iaload, 1) := by decide +kernel
theorem dL_law_959 : decode cL_law 959 = .ok (.invokevirtual 146, 3) := by decide +kernel
theorem dL_law_962 : decode cL_law 962 = .ok (.lstore 7, 2) := by decide +kernel
theorem dL_law_964 : decode cL_law 964 = .ok (.aload_n 2, 1) := by decide +kernel
theorem dL_law_965 : decode cL_law 965 = .ok (.invokevirtual 101, 3) := by decide +kernel
theorem dL_law_968 : decode cL_law 968 = .ok (.iload 6, 2) := by decide +kernel
theorem dL_law_970 : decode cL_law 970 = .ok (.if_icmp .eq 5, 3) := by decide +kernel
theorem dL_law_973 : decode cL_law 973 = .ok (.iconst 0, 1) := by decide +kernel
theorem dL_law_974 : decode cL_law 974 = .ok (.ireturn, 1) := by decide +kernel
theorem dL_law_975 : decode cL_law 975 = .ok (.iload 6, 2) := by decide +kernel
theorem dL_law_977 : decode cL_law 977 = .ok (.ifCond .ne 14, 3) := by decide +kernel
theorem dL_law_980 : decode cL_law 980 = .ok (.aload_n 3, 1) := by decide +kernel
theorem dL_law_981 : decode cL_law 981 = .ok (.iconst 0, 1) := by decide +kernel
theorem dL_law_982 : decode cL_law 982 = .ok (.laload, 1) := by decide +kernel
theorem dL_law_983 : decode cL_law 983 = .ok (.lload 7, 2) := by decide +kernel
theorem dL_law_985 : decode cL_law 985 = .ok (.lcmp, 1) := by decide +kernel
theorem dL_law_986 : decode cL_law 986 = .ok (.ifCond .eq 5, 3) := by decide +kernel
theorem dL_law_989 : decode cL_law 989 = .ok (.iconst 0, 1) := by decide +kernel
theorem dL_law_990 : decode cL_law 990 = .ok (.ireturn, 1) := by decide +kernel
theorem dL_law_991 : decode cL_law 991 = .ok (.goto 808, 3) := by decide +kernel
theorem dL_law_994 : decode cL_law 994 = .ok (.aload_n 1, 1) := by decide +kernel
theorem dL_law_995 : decode cL_law 995 = .ok (.aload_n 0, 1) := by decide +kernel
theorem dL_law_996 : decode cL_law 996 = .ok (.iload 5, 2) := by decide +kernel
theorem dL_law_998 : decode cL_law 998 = .ok (.iconst 1, 1) := by decide +kernel
theorem dL_law_999 : decode cL_law 999 = .ok (.iadd, 1) := by decide +kernel
theorem dL_law_1000 : decode cL_law 1000 = .ok (.iaload, 1) := by decide +kernel
theorem dL_law_1001 : decode cL_law 1001 = .ok (.ifCond .eq 7, 3) := by decide +kernel
theorem dL_law_1004 : decode cL_law 1004 = .ok (.iconst 1, 1) := by decide +kernel
theorem dL_law_1005 : decode cL_law 1005 = .ok (.goto 4, 3) := by decide +kernel
theorem dL_law_1008 : decode cL_law 1008 = .ok (.iconst 0, 1) := by decide +kernel
theorem dL_law_1009 : decode cL_law 1009 = .ok (.invokevirtual 147, 3) := by decide +kernel
theorem dL_law_1012 : decode cL_law 1012 = .ok (.aload_n 2, 1) := by decide +kernel
theorem dL_law_1013 : decode cL_law 1013 = .ok (.aload_n 0, 1) := by decide +kernel
theorem dL_law_1014 : decode cL_law 1014 = .ok (.iload 5, 2) := by decide +kernel
theorem dL_law_1016 : decode cL_law 1016 = .ok (.iconst 1, 1) := by decide +kernel
theorem dL_law_1017 : decode cL_law 1017 = .ok (.iadd, 1) := by decide +kernel
theorem dL_law_1018 : decode cL_law 1018 = .ok (.iaload, 1) := by decide +kernel
theorem dL_law_1019 : decode cL_law 1019 = .ok (.ifCond .eq 7, 3) := by decide +kernel
theorem dL_law_1022 : decode cL_law 1022 = .ok (.iconst 1, 1) := by decide +kernel
theorem dL_law_1023 : decode cL_law 1023 = .ok (.goto 4, 3) := by decide +kernel
theorem dL_law_1026 : decode cL_law 1026 = .ok (.iconst 0, 1) := by decide +kernel
theorem dL_law_1027 : decode cL_law 1027 = .ok (.invokevirtual 151, 3) := by decide +kernel
theorem dL_law_1030 : decode cL_law 1030 = .ok (.lcmp, 1) := by decide +kernel
theorem dL_law_1031 : decode cL_law 1031 = .ok (.ifCond .eq 768, 3) := by decide +kernel
theorem dL_law_1034 : decode cL_law 1034 = .ok (.iconst 0, 1) := by decide +kernel
theorem dL_law_1035 : decode cL_law 1035 = .ok (.ireturn, 1) := by decide +kernel
theorem dL_law_1036 : decode cL_law 1036 = .ok (.aload_n 1, 1) := by decide +kernel
theorem dL_law_1037 : decode cL_law 1037 = .ok (.aload_n 0, 1) := by decide +kernel
theorem dL_law_1038 : decode cL_law 1038 = .ok (.iload 5, 2) := by decide +kernel
theorem dL_law_1040 : decode cL_law 1040 = .ok (.iconst 1, 1) := by decide +kernel
theorem dL_law_1041 : decode cL_law 1041 = .ok (.iadd, 1) := by decide +kernel
theorem dL_law_1042 : decode cL_law 1042 = .ok (.iaload, 1) := by decide +kernel
theorem dL_law_1043 : decode cL_law 1043 = .ok (.ifCond .eq 7, 3) := by decide +kernel
theorem dL_law_1046 : decode cL_law 1046 = .ok (.iconst 1, 1) := by decide +kernel
theorem dL_law_1047 : decode cL_law 1047 = .ok (.goto 4, 3) := by decide +kernel
theorem dL_law_1050 : decode cL_law 1050 = .ok (.iconst 0, 1) := by decide +kernel
theorem dL_law_1051 : decode cL_law 1051 = .ok (.aload_n 0, 1) := by decide +kernel
theorem dL_law_1052 : decode cL_law 1052 = .ok (.iload 5, 2) := by decide +kernel
theorem dL_law_1054 : decode cL_law 1054 = .ok (.iconst 2, 1) := by decide +kernel
theorem dL_law_1055 : decode cL_law 1055 = .ok (.iadd, 1) := by decide +kernel
theorem dL_law_1056 : decode cL_law 1056 = .ok (.iaload, 1) := by decide +kernel
theorem dL_law_1057 : decode cL_law 1057 = .ok (.aload_n 0, 1) := by decide +kernel
theorem dL_law_1058 : decode cL_law 1058 = .ok (.iload 5, 2) := by decide +kernel
theorem dL_law_1060 : decode cL_law 1060 = .ok (.iconst 3, 1) := by decide +kernel
theorem dL_law_1061 : decode cL_law 1061 = .ok (.iadd, 1) := by decide +kernel
theorem dL_law_1062 : decode cL_law 1062 = .ok (.iaload, 1) := by decide +kernel
theorem dL_law_1063 : decode cL_law 1063 = .ok (.aload_n 0, 1) := by decide +kernel
theorem dL_law_1064 : decode cL_law 1064 = .ok (.iload 5, 2) := by decide +kernel
theorem dL_law_1066 : decode cL_law 1066 = .ok (.iconst 4, 1) := by decide +kernel
theorem dL_law_1067 : decode cL_law 1067 = .ok (.iadd, 1) := by decide +kernel
theorem dL_law_1068 : decode cL_law 1068 = .ok (.iaload, 1) := by decide +kernel
theorem dL_law_1069 : decode cL_law 1069 = .ok (.aload_n 0, 1) := by decide +kernel
theorem dL_law_1070 : decode cL_law 1070 = .ok (.iload 5, 2) := by decide +kernel
theorem dL_law_1072 : decode cL_law 1072 = .ok (.iconst 5, 1) := by decide +kernel
theorem dL_law_1073 : decode cL_law 1073 = .ok (.iadd, 1) := by decide +kernel
theorem dL_law_1074 : decode cL_law 1074 = .ok (.iaload, 1) := by decide +kernel
theorem dL_law_1075 : decode cL_law 1075 = .ok (.aload_n 0, 1) := by decide +kernel
theorem dL_law_1076 : decode cL_law 1076 = .ok (.iload 5, 2) := by decide +kernel
theorem dL_law_1078 : decode cL_law 1078 = .ok (.bipush 6, 2) := by decide +kernel
theorem dL_law_1080 : decode cL_law 1080 = .ok (.iadd, 1) := by decide +kernel
theorem dL_law_1081 : decode cL_law 1081 = .ok (.iaload, 1) := by decide +kernel
theorem dL_law_1082 : decode cL_law 1082 = .ok (.aload_n 3, 1) := by decide +kernel
theorem dL_law_1083 : decode cL_law 1083 = .ok (.invokestatic 152, 3) := by decide +kernel
theorem dL_law_1086 : decode cL_law 1086 = .ok (.istore 6, 2) := by decide +kernel
theorem dL_law_1088 : decode cL_law 1088 = .ok (.aload_n 2, 1) := by decide +kernel
theorem dL_law_1089 : decode cL_law 1089 = .ok (.aload_n 0, 1) := by decide +kernel
theorem dL_law_1090 : decode cL_law 1090 = .ok (.iload 5, 2) := by decide +kernel
theorem dL_law_1092 : decode cL_law 1092 = .ok (.iconst 1, 1) := by decide +kernel
theorem dL_law_1093 : decode cL_law 1093 = .ok (.iadd, 1) := by decide +kernel
theorem dL_law_1094 : decode cL_law 1094 = .ok (.iaload, 1) := by decide +kernel
theorem dL_law_1095 : decode cL_law 1095 = .ok (.ifCond .eq 7, 3) := by decide +kernel
theorem dL_law_1098 : decode cL_law 1098 = .ok (.iconst 1, 1) := by decide +kernel
theorem dL_law_1099 : decode cL_law 1099 = .ok (.goto 4, 3) := by decide +kernel
theorem dL_law_1102 : decode cL_law 1102 = .ok (.iconst 0, 1) := by decide +kernel
theorem dL_law_1103 : decode cL_law 1103 = .ok (.aload_n 0, 1) := by decide +kernel
theorem dL_law_1104 : decode cL_law 1104 = .ok (.iload 5, 2) := by decide +kernel
theorem dL_law_1106 : decode cL_law 1106 = .ok (.iconst 2, 1) := by decide +kernel
theorem dL_law_1107 : decode cL_law 1107 = .ok (.iadd, 1) := by decide +kernel
theorem dL_law_1108 : decode cL_law 1108 = .ok (.iaload, 1) := by decide +kernel
theorem dL_law_1109 : decode cL_law 1109 = .ok (.aload_n 0, 1) := by decide +kernel
theorem dL_law_1110 : decode cL_law 1110 = .ok (.iload 5, 2) := by decide +kernel
theorem dL_law_1112 : decode cL_law 1112 = .ok (.iconst 3, 1) := by decide +kernel
theorem dL_law_1113 : decode cL_law 1113 = .ok (.iadd, 1) := by decide +kernel
theorem dL_law_1114 : decode cL_law 1114 = .ok (.iaload, 1) := by decide +kernel
theorem dL_law_1115 : decode cL_law 1115 = .ok (.aload_n 0, 1) := by decide +kernel
theorem dL_law_1116 : decode cL_law 1116 = .ok (.iload 5, 2) := by decide +kernel
theorem dL_law_1118 : decode cL_law 1118 = .ok (.iconst 4, 1) := by decide +kernel
theorem dL_law_1119 : decode cL_law 1119 = .ok (.iadd, 1) := by decide +kernel
theorem dL_law_1120 : decode cL_law 1120 = .ok (.iaload, 1) := by decide +kernel
theorem dL_law_1121 : decode cL_law 1121 = .ok (.aload_n 0, 1) := by decide +kernel
theorem dL_law_1122 : decode cL_law 1122 = .ok (.iload 5, 2) := by decide +kernel
theorem dL_law_1124 : decode cL_law 1124 = .ok (.iconst 5, 1) := by decide +kernel
theorem dL_law_1125 : decode cL_law 1125 = .ok (.iadd, 1) := by decide +kernel
theorem dL_law_1126 : decode cL_law 1126 = .ok (.iaload, 1) := by decide +kernel
theorem dL_law_1127 : decode cL_law 1127 = .ok (.aload_n 0, 1) := by decide +kernel
theorem dL_law_1128 : decode cL_law 1128 = .ok (.iload 5, 2) := by decide +kernel
theorem dL_law_1130 : decode cL_law 1130 = .ok (.bipush 6, 2) := by decide +kernel
theorem dL_law_1132 : decode cL_law 1132 = .ok (.iadd, 1) := by decide +kernel
theorem dL_law_1133 : decode cL_law 1133 = .ok (.iaload, 1) := by decide +kernel
theorem dL_law_1134 : decode cL_law 1134 = .ok (.invokevirtual 155, 3) := by decide +kernel
theorem dL_law_1137 : decode cL_law 1137 = .ok (.lstore 7, 2) := by decide +kernel
theorem dL_law_1139 : decode cL_law 1139 = .ok (.aload_n 2, 1) := by decide +kernel
theorem dL_law_1140 : decode cL_law 1140 = .ok (.invokevirtual 101, 3) := by decide +kernel
theorem dL_law_1143 : decode cL_law 1143 = .ok (.iload 6, 2) := by decide +kernel
theorem dL_law_1145 : decode cL_law 1145 = .ok (.if_icmp .eq 5, 3) := by decide +kernel
theorem dL_law_1148 : decode cL_law 1148 = .ok (.iconst 0, 1) := by decide +kernel
theorem dL_law_1149 : decode cL_law 1149 = .ok (.ireturn, 1) := by decide +kernel
theorem dL_law_1150 : decode cL_law 1150 = .ok (.iload 6, 2) := by decide +kernel
theorem dL_law_1152 : decode cL_law 1152 = .ok (.ifCond .ne 14, 3) := by decide +kernel
theorem dL_law_1155 : decode cL_law 1155 = .ok (.aload_n 3, 1) := by decide +kernel
theorem dL_law_1156 : decode cL_law 1156 = .ok (.iconst 0, 1) := by decide +kernel
theorem dL_law_1157 : decode cL_law 1157 = .ok (.laload, 1) := by decide +kernel
theorem dL_law_1158 : decode cL_law 1158 = .ok (.lload 7, 2) := by decide +kernel
theorem dL_law_1160 : decode cL_law 1160 = .ok (.lcmp, 1) := by decide +kernel
theorem dL_law_1161 : decode cL_law 1161 = .ok (.ifCond .eq 5, 3) := by decide +kernel
theorem dL_law_1164 : decode cL_law 1164 = .ok (.iconst 0, 1) := by decide +kernel
theorem dL_law_1165 : decode cL_law 1165 = .ok (.ireturn, 1) := by decide +kernel
theorem dL_law_1166 : decode cL_law 1166 = .ok (.goto 633, 3) := by decide +kernel
theorem dL_law_1169 : decode cL_law 1169 = .ok (.aload_n 1, 1) := by decide +kernel
theorem dL_law_1170 : decode cL_law 1170 = .ok (.aload_n 0, 1) := by decide +kernel
theorem dL_law_1171 : decode cL_law 1171 = .ok (.iload 5, 2) := by decide +kernel
theorem dL_law_1173 : decode cL_law 1173 = .ok (.iconst 1, 1) := by decide +kernel
theorem dL_law_1174 : decode cL_law 1174 = .ok (.iadd, 1) := by decide +kernel
theorem dL_law_1175 : decode cL_law 1175 = .ok (.iaload, 1) := by decide +kernel
theorem dL_law_1176 : decode cL_law 1176 = .ok (.ifCond .eq 7, 3) := by decide +kernel
theorem dL_law_1179 : decode cL_law 1179 = .ok (.iconst 1, 1) := by decide +kernel
theorem dL_law_1180 : decode cL_law 1180 = .ok (.goto 4, 3) := by decide +kernel
theorem dL_law_1183 : decode cL_law 1183 = .ok (.iconst 0, 1) := by decide +kernel
theorem dL_law_1184 : decode cL_law 1184 = .ok (.aload_n 0, 1) := by decide +kernel
theorem dL_law_1185 : decode cL_law 1185 = .ok (.iload 5, 2) := by decide +kernel
theorem dL_law_1187 : decode cL_law 1187 = .ok (.iconst 2, 1) := by decide +kernel
theorem dL_law_1188 : decode cL_law 1188 = .ok (.iadd, 1) := by decide +kernel
theorem dL_law_1189 : decode cL_law 1189 = .ok (.iaload, 1) := by decide +kernel
theorem dL_law_1190 : decode cL_law 1190 = .ok (.aload_n 0, 1) := by decide +kernel
theorem dL_law_1191 : decode cL_law 1191 = .ok (.iload 5, 2) := by decide +kernel
theorem dL_law_1193 : decode cL_law 1193 = .ok (.iconst 3, 1) := by decide +kernel
theorem dL_law_1194 : decode cL_law 1194 = .ok (.iadd, 1) := by decide +kernel
theorem dL_law_1195 : decode cL_law 1195 = .ok (.iaload, 1) := by decide +kernel
theorem dL_law_1196 : decode cL_law 1196 = .ok (.aload_n 0, 1) := by decide +kernel
theorem dL_law_1197 : decode cL_law 1197 = .ok (.iload 5, 2) := by decide +kernel
theorem dL_law_1199 : decode cL_law 1199 = .ok (.iconst 4, 1) := by decide +kernel
theorem dL_law_1200 : decode cL_law 1200 = .ok (.iadd, 1) := by decide +kernel
theorem dL_law_1201 : decode cL_law 1201 = .ok (.iaload, 1) := by decide +kernel
theorem dL_law_1202 : decode cL_law 1202 = .ok (.aload_n 0, 1) := by decide +kernel
theorem dL_law_1203 : decode cL_law 1203 = .ok (.iload 5, 2) := by decide +kernel
theorem dL_law_1205 : decode cL_law 1205 = .ok (.iconst 5, 1) := by decide +kernel
theorem dL_law_1206 : decode cL_law 1206 = .ok (.iadd, 1) := by decide +kernel
theorem dL_law_1207 : decode cL_law 1207 = .ok (.iaload, 1) := by decide +kernel
theorem dL_law_1208 : decode cL_law 1208 = .ok (.aload_n 0, 1) := by decide +kernel
theorem dL_law_1209 : decode cL_law 1209 = .ok (.iload 5, 2) := by decide +kernel
theorem dL_law_1211 : decode cL_law 1211 = .ok (.bipush 6, 2) := by decide +kernel
theorem dL_law_1213 : decode cL_law 1213 = .ok (.iadd, 1) := by decide +kernel
theorem dL_law_1214 : decode cL_law 1214 = .ok (.iaload, 1) := by decide +kernel
theorem dL_law_1215 : decode cL_law 1215 = .ok (.aload_n 3, 1) := by decide +kernel
theorem dL_law_1216 : decode cL_law 1216 = .ok (.invokestatic 156, 3) := by decide +kernel
theorem dL_law_1219 : decode cL_law 1219 = .ok (.istore 6, 2) := by decide +kernel
theorem dL_law_1221 : decode cL_law 1221 = .ok (.aload_n 2, 1) := by decide +kernel
theorem dL_law_1222 : decode cL_law 1222 = .ok (.aload_n 0, 1) := by decide +kernel
theorem dL_law_1223 : decode cL_law 1223 = .ok (.iload 5, 2) := by decide +kernel
theorem dL_law_1225 : decode cL_law 1225 = .ok (.iconst 1, 1) := by decide +kernel
theorem dL_law_1226 : decode cL_law 1226 = .ok (.iadd, 1) := by decide +kernel
theorem dL_law_1227 : decode cL_law 1227 = .ok (.iaload, 1) := by decide +kernel
theorem dL_law_1228 : decode cL_law 1228 = .ok (.ifCond .eq 7, 3) := by decide +kernel
theorem dL_law_1231 : decode cL_law 1231 = .ok (.iconst 1, 1) := by decide +kernel
theorem dL_law_1232 : decode cL_law 1232 = .ok (.goto 4, 3) := by decide +kernel
theorem dL_law_1235 : decode cL_law 1235 = .ok (.iconst 0, 1) := by decide +kernel
theorem dL_law_1236 : decode cL_law 1236 = .ok (.aload_n 0, 1) := by decide +kernel
theorem dL_law_1237 : decode cL_law 1237 = .ok (.iload 5, 2) := by decide +kernel
theorem dL_law_1239 : decode cL_law 1239 = .ok (.iconst 2, 1) := by decide +kernel
theorem dL_law_1240 : decode cL_law 1240 = .ok (.iadd, 1) := by decide +kernel
theorem dL_law_1241 : decode cL_law 1241 = .ok (.iaload, 1) := by decide +kernel
theorem dL_law_1242 : decode cL_law 1242 = .ok (.aload_n 0, 1) := by decide +kernel
theorem dL_law_1243 : decode cL_law 1243 = .ok (.iload 5, 2) := by decide +kernel
theorem dL_law_1245 : decode cL_law 1245 = .ok (.iconst 3, 1) := by decide +kernel
theorem dL_law_1246 : decode cL_law 1246 = .ok (.iadd, 1) := by decide +kernel
theorem dL_law_1247 : decode cL_law 1247 = .ok (.iaload, 1) := by decide +kernel
theorem dL_law_1248 : decode cL_law 1248 = .ok (.aload_n 0, 1) := by decide +kernel
theorem dL_law_1249 : decode cL_law 1249 = .ok (.iload 5, 2) := by decide +kernel
theorem dL_law_1251 : decode cL_law 1251 = .ok (.iconst 4, 1) := by decide +kernel
theorem dL_law_1252 : decode cL_law 1252 = .ok (.iadd, 1) := by decide +kernel
theorem dL_law_1253 : decode cL_law 1253 = .ok (.iaload, 1) := by decide +kernel
theorem dL_law_1254 : decode cL_law 1254 = .ok (.aload_n 0, 1) := by decide +kernel
theorem dL_law_1255 : decode cL_law 1255 = .ok (.iload 5, 2) := by decide +kernel
theorem dL_law_1257 : decode cL_law 1257 = .ok (.iconst 5, 1) := by decide +kernel
theorem dL_law_1258 : decode cL_law 1258 = .ok (.iadd, 1) := by decide +kernel
theorem dL_law_1259 : decode cL_law 1259 = .ok (.iaload, 1) := by decide +kernel
theorem dL_law_1260 : decode cL_law 1260 = .ok (.aload_n 0, 1) := by decide +kernel
theorem dL_law_1261 : decode cL_law 1261 = .ok (.iload 5, 2) := by decide +kernel
theorem dL_law_1263 : decode cL_law 1263 = .ok (.bipush 6, 2) := by decide +kernel
theorem dL_law_1265 : decode cL_law 1265 = .ok (.iadd, 1) := by decide +kernel
theorem dL_law_1266 : decode cL_law 1266 = .ok (.iaload, 1) := by decide +kernel
theorem dL_law_1267 : decode cL_law 1267 = .ok (.invokevirtual 158, 3) := by decide +kernel
theorem dL_law_1270 : decode cL_law 1270 = .ok (.lstore 7, 2) := by decide +kernel
theorem dL_law_1272 : decode cL_law 1272 = .ok (.aload_n 2, 1) := by decide +kernel
theorem dL_law_1273 : decode cL_law 1273 = .ok (.invokevirtual 101, 3) := by decide +kernel
theorem dL_law_1276 : decode cL_law 1276 = .ok (.iload 6, 2) := by decide +kernel
theorem dL_law_1278 : decode cL_law 1278 = .ok (.if_icmp .eq 5, 3) := by decide +kernel
theorem dL_law_1281 : decode cL_law 1281 = .ok (.iconst 0, 1) := by decide +kernel
theorem dL_law_1282 : decode cL_law 1282 = .ok (.ireturn, 1) := by decide +kernel
theorem dL_law_1283 : decode cL_law 1283 = .ok (.iload 6, 2) := by decide +kernel
theorem dL_law_1285 : decode cL_law 1285 = .ok (.ifCond .ne 14, 3) := by decide +kernel
theorem dL_law_1288 : decode cL_law 1288 = .ok (.aload_n 3, 1) := by decide +kernel
theorem dL_law_1289 : decode cL_law 1289 = .ok (.iconst 0, 1) := by decide +kernel
theorem dL_law_1290 : decode cL_law 1290 = .ok (.laload, 1) := by decide +kernel
theorem dL_law_1291 : decode cL_law 1291 = .ok (.lload 7, 2) := by decide +kernel
theorem dL_law_1293 : decode cL_law 1293 = .ok (.lcmp, 1) := by decide +kernel
theorem dL_law_1294 : decode cL_law 1294 = .ok (.ifCond .eq 5, 3) := by decide +kernel
theorem dL_law_1297 : decode cL_law 1297 = .ok (.iconst 0, 1) := by decide +kernel
theorem dL_law_1298 : decode cL_law 1298 = .ok (.ireturn, 1) := by decide +kernel
theorem dL_law_1299 : decode cL_law 1299 = .ok (.goto 500, 3) := by decide +kernel
theorem dL_law_1302 : decode cL_law 1302 = .ok (.aload_n 1, 1) := by decide +kernel
theorem dL_law_1303 : decode cL_law 1303 = .ok (.aload_n 0, 1) := by decide +kernel
theorem dL_law_1304 : decode cL_law 1304 = .ok (.iload 5, 2) := by decide +kernel
theorem dL_law_1306 : decode cL_law 1306 = .ok (.iconst 1, 1) := by decide +kernel
theorem dL_law_1307 : decode cL_law 1307 = .ok (.iadd, 1) := by decide +kernel
theorem dL_law_1308 : decode cL_law 1308 = .ok (.iaload, 1) := by decide +kernel
theorem dL_law_1309 : decode cL_law 1309 = .ok (.aload_n 0, 1) := by decide +kernel
theorem dL_law_1310 : decode cL_law 1310 = .ok (.iload 5, 2) := by decide +kernel
theorem dL_law_1312 : decode cL_law 1312 = .ok (.iconst 2, 1) := by decide +kernel
theorem dL_law_1313 : decode cL_law 1313 = .ok (.iadd, 1) := by decide +kernel
theorem dL_law_1314 : decode cL_law 1314 = .ok (.iaload, 1) := by decide +kernel
theorem dL_law_1315 : decode cL_law 1315 = .ok (.aload_n 0, 1) := by decide +kernel
theorem dL_law_1316 : decode cL_law 1316 = .ok (.iload 5, 2) := by decide +kernel
theorem dL_law_1318 : decode cL_law 1318 = .ok (.iconst 3, 1) := by decide +kernel
theorem dL_law_1319 : decode cL_law 1319 = .ok (.iadd, 1) := by decide +kernel
theorem dL_law_1320 : decode cL_law 1320 = .ok (.iaload, 1) := by decide +kernel
theorem dL_law_1321 : decode cL_law 1321 = .ok (.aload_n 0, 1) := by decide +kernel
theorem dL_law_1322 : decode cL_law 1322 = .ok (.iload 5, 2) := by decide +kernel
theorem dL_law_1324 : decode cL_law 1324 = .ok (.iconst 4, 1) := by decide +kernel
theorem dL_law_1325 : decode cL_law 1325 = .ok (.iadd, 1) := by decide +kernel
theorem dL_law_1326 : decode cL_law 1326 = .ok (.iaload, 1) := by decide +kernel
theorem dL_law_1327 : decode cL_law 1327 = .ok (.aload 4, 2) := by decide +kernel
theorem dL_law_1329 : decode cL_law 1329 = .ok (.invokestatic 159, 3) := by decide +kernel
theorem dL_law_1332 : decode cL_law 1332 = .ok (.istore 6, 2) := by decide +kernel
theorem dL_law_1334 : decode cL_law 1334 = .ok (.aload_n 2, 1) := by decide +kernel
theorem dL_law_1335 : decode cL_law 1335 = .ok (.aload_n 0, 1) := by decide +kernel
theorem dL_law_1336 : decode cL_law 1336 = .ok (.iload 5, 2) := by decide +kernel
theorem dL_law_1338 : decode cL_law 1338 = .ok (.iconst 1, 1) := by decide +kernel
theorem dL_law_1339 : decode cL_law 1339 = .ok (.iadd, 1) := by decide +kernel
theorem dL_law_1340 : decode cL_law 1340 = .ok (.iaload, 1) := by decide +kernel
theorem dL_law_1341 : decode cL_law 1341 = .ok (.aload_n 0, 1) := by decide +kernel
theorem dL_law_1342 : decode cL_law 1342 = .ok (.iload 5, 2) := by decide +kernel
theorem dL_law_1344 : decode cL_law 1344 = .ok (.iconst 2, 1) := by decide +kernel
theorem dL_law_1345 : decode cL_law 1345 = .ok (.iadd, 1) := by decide +kernel
theorem dL_law_1346 : decode cL_law 1346 = .ok (.iaload, 1) := by decide +kernel
theorem dL_law_1347 : decode cL_law 1347 = .ok (.aload_n 0, 1) := by decide +kernel
theorem dL_law_1348 : decode cL_law 1348 = .ok (.iload 5, 2) := by decide +kernel
theorem dL_law_1350 : decode cL_law 1350 = .ok (.iconst 3, 1) := by decide +kernel
theorem dL_law_1351 : decode cL_law 1351 = .ok (.iadd, 1) := by decide +kernel
theorem dL_law_1352 : decode cL_law 1352 = .ok (.iaload, 1) := by decide +kernel
theorem dL_law_1353 : decode cL_law 1353 = .ok (.aload_n 0, 1) := by decide +kernel
theorem dL_law_1354 : decode cL_law 1354 = .ok (.iload 5, 2) := by decide +kernel
theorem dL_law_1356 : decode cL_law 1356 = .ok (.iconst 4, 1) := by decide +kernel
theorem dL_law_1357 : decode cL_law 1357 = .ok (.iadd, 1) := by decide +kernel
theorem dL_law_1358 : decode cL_law 1358 = .ok (.iaload, 1) := by decide +kernel
theorem dL_law_1359 : decode cL_law 1359 = .ok (.invokevirtual 162, 3) := by decide +kernel
theorem dL_law_1362 : decode cL_law 1362 = .ok (.fstore 7, 2) := by decide +kernel
theorem dL_law_1364 : decode cL_law 1364 = .ok (.aload_n 2, 1) := by decide +kernel
theorem dL_law_1365 : decode cL_law 1365 = .ok (.invokevirtual 101, 3) := by decide +kernel
theorem dL_law_1368 : decode cL_law 1368 = .ok (.iload 6, 2) := by decide +kernel
theorem dL_law_1370 : decode cL_law 1370 = .ok (.if_icmp .eq 5, 3) := by decide +kernel
theorem dL_law_1373 : decode cL_law 1373 = .ok (.iconst 0, 1) := by decide +kernel
theorem dL_law_1374 : decode cL_law 1374 = .ok (.ireturn, 1) := by decide +kernel
theorem dL_law_1375 : decode cL_law 1375 = .ok (.iload 6, 2) := by decide +kernel
theorem dL_law_1377 : decode cL_law 1377 = .ok (.ifCond .ne 36, 3) := by decide +kernel
theorem dL_law_1380 : decode cL_law 1380 = .ok (.aload 4, 2) := by decide +kernel
theorem dL_law_1382 : decode cL_law 1382 = .ok (.iconst 0, 1) := by decide +kernel
theorem dL_law_1383 : decode cL_law 1383 = .ok (.daload, 1) := by decide +kernel
theorem dL_law_1384 : decode cL_law 1384 = .ok (.fload 7, 2) := by decide +kernel
theorem dL_law_1386 : decode cL_law 1386 = .ok (.f2d, 1) := by decide +kernel
theorem dL_law_1387 : decode cL_law 1387 = .ok (.dcmp .l, 1) := by decide +kernel
theorem dL_law_1388 : decode cL_law 1388 = .ok (.ifCond .eq 25, 3) := by decide +kernel
theorem dL_law_1391 : decode cL_law 1391 = .ok (.aload 4, 2) := by decide +kernel
theorem dL_law_1393 : decode cL_law 1393 = .ok (.iconst 0, 1) := by decide +kernel
theorem dL_law_1394 : decode cL_law 1394 = .ok (.daload, 1) := by decide +kernel
theorem dL_law_1395 : decode cL_law 1395 = .ok (.aload 4, 2) := by decide +kernel
theorem dL_law_1397 : decode cL_law 1397 = .ok (.iconst 0, 1) := by decide +kernel
theorem dL_law_1398 : decode cL_law 1398 = .ok (.daload, 1) := by decide +kernel
theorem dL_law_1399 : decode cL_law 1399 = .ok (.dcmp .l, 1) := by decide +kernel
theorem dL_law_1400 : decode cL_law 1400 = .ok (.ifCond .eq 11, 3) := by decide +kernel
theorem dL_law_1403 : decode cL_law 1403 = .ok (.fload 7, 2) := by decide +kernel
theorem dL_law_1405 : decode cL_law 1405 = .ok (.fload 7, 2) := by decide +kernel
theorem dL_law_1407 : decode cL_law 1407 = .ok (.fcmp .l, 1) := by decide +kernel
theorem dL_law_1408 : decode cL_law 1408 = .ok (.ifCond .ne 5, 3) := by decide +kernel
theorem dL_law_1411 : decode cL_law 1411 = .ok (.iconst 0, 1) := by decide +kernel
theorem dL_law_1412 : decode cL_law 1412 = .ok (.ireturn, 1) := by decide +kernel
theorem dL_law_1413 : decode cL_law 1413 = .ok (.goto 386, 3) := by decide +kernel
theorem dL_law_1416 : decode cL_law 1416 = .ok (.aload_n 1, 1) := by decide +kernel
theorem dL_law_1417 : decode cL_law 1417 = .ok (.aload_n 0, 1) := by decide +kernel
theorem dL_law_1418 : decode cL_law 1418 = .ok (.iload 5, 2) := by decide +kernel
theorem dL_law_1420 : decode cL_law 1420 = .ok (.iconst 1, 1) := by decide +kernel
theorem dL_law_1421 : decode cL_law 1421 = .ok (.iadd, 1) := by decide +kernel
theorem dL_law_1422 : decode cL_law 1422 = .ok (.iaload, 1) := by decide +kernel
theorem dL_law_1423 : decode cL_law 1423 = .ok (.aload_n 0, 1) := by decide +kernel
theorem dL_law_1424 : decode cL_law 1424 = .ok (.iload 5, 2) := by decide +kernel
theorem dL_law_1426 : decode cL_law 1426 = .ok (.iconst 2, 1) := by decide +kernel
theorem dL_law_1427 : decode cL_law 1427 = .ok (.iadd, 1) := by decide +kernel
theorem dL_law_1428 : decode cL_law 1428 = .ok (.iaload, 1) := by decide +kernel
theorem dL_law_1429 : decode cL_law 1429 = .ok (.aload_n 3, 1) := by decide +kernel
theorem dL_law_1430 : decode cL_law 1430 = .ok (.invokestatic 163, 3) := by decide +kernel
theorem dL_law_1433 : decode cL_law 1433 = .ok (.istore 6, 2) := by decide +kernel
theorem dL_law_1435 : decode cL_law 1435 = .ok (.aload_n 2, 1) := by decide +kernel
theorem dL_law_1436 : decode cL_law 1436 = .ok (.aload_n 0, 1) := by decide +kernel
theorem dL_law_1437 : decode cL_law 1437 = .ok (.iload 5, 2) := by decide +kernel
theorem dL_law_1439 : decode cL_law 1439 = .ok (.iconst 1, 1) := by decide +kernel
theorem dL_law_1440 : decode cL_law 1440 = .ok (.iadd, 1) := by decide +kernel
theorem dL_law_1441 : decode cL_law 1441 = .ok (.iaload, 1) := by decide +kernel
theorem dL_law_1442 : decode cL_law 1442 = .ok (.aload_n 0, 1) := by decide +kernel
theorem dL_law_1443 : decode cL_law 1443 = .ok (.iload 5, 2) := by decide +kernel
theorem dL_law_1445 : decode cL_law 1445 = .ok (.iconst 2, 1) := by decide +kernel
theorem dL_law_1446 : decode cL_law 1446 = .ok (.iadd, 1) := by decide +kernel
theorem dL_law_1447 : decode cL_law 1447 = .ok (.iaload, 1) := by decide +kernel
theorem dL_law_1448 : decode cL_law 1448 = .ok (.invokevirtual 165, 3) := by decide +kernel
theorem dL_law_1451 : decode cL_law 1451 = .ok (.istore 7, 2) := by decide +kernel
theorem dL_law_1453 : decode cL_law 1453 = .ok (.aload_n 2, 1) := by decide +kernel
theorem dL_law_1454 : decode cL_law 1454 = .ok (.invokevirtual 101, 3) := by decide +kernel
theorem dL_law_1457 : decode cL_law 1457 = .ok (.iload 6, 2) := by decide +kernel
theorem dL_law_1459 : decode cL_law 1459 = .ok (.if_icmp .eq 5, 3) := by decide +kernel
theorem dL_law_1462 : decode cL_law 1462 = .ok (.iconst 0, 1) := by decide +kernel
theorem dL_law_1463 : decode cL_law 1463 = .ok (.ireturn, 1) := by decide +kernel
theorem dL_law_1464 : decode cL_law 1464 = .ok (.iload 6, 2) := by decide +kernel
theorem dL_law_1466 : decode cL_law 1466 = .ok (.ifCond .ne 15, 3) := by decide +kernel
theorem dL_law_1469 : decode cL_law 1469 = .ok (.aload_n 3, 1) := by decide +kernel
theorem dL_law_1470 : decode cL_law 1470 = .ok (.iconst 0, 1) := by decide +kernel
theorem dL_law_1471 : decode cL_law 1471 = .ok (.laload, 1) := by decide +kernel
theorem dL_law_1472 : decode cL_law 1472 = .ok (.iload 7, 2) := by decide +kernel
theorem dL_law_1474 : decode cL_law 1474 = .ok (.i2l, 1) := by decide +kernel
theorem dL_law_1475 : decode cL_law 1475 = .ok (.lcmp, 1) := by decide +kernel
theorem dL_law_1476 : decode cL_law 1476 = .ok (.ifCond .eq 5, 3) := by decide +kernel
theorem dL_law_1479 : decode cL_law 1479 = .ok (.iconst 0, 1) := by decide +kernel
theorem dL_law_1480 : decode cL_law 1480 = .ok (.ireturn, 1) := by decide +kernel
theorem dL_law_1481 : decode cL_law 1481 = .ok (.goto 318, 3) := by decide +kernel
theorem dL_law_1484 : decode cL_law 1484 = .ok (.aload_n 1, 1) := by decide +kernel
theorem dL_law_1485 : decode cL_law 1485 = .ok (.aload_n 0, 1) := by decide +kernel
theorem dL_law_1486 : decode cL_law 1486 = .ok (.iload 5, 2) := by decide +kernel
theorem dL_law_1488 : decode cL_law 1488 = .ok (.iconst 1, 1) := by decide +kernel
theorem dL_law_1489 : decode cL_law 1489 = .ok (.iadd, 1) := by decide +kernel
theorem dL_law_1490 : decode cL_law 1490 = .ok (.iaload, 1) := by decide +kernel
theorem dL_law_1491 : decode cL_law 1491 = .ok (.aload_n 0, 1) := by decide +kernel
theorem dL_law_1492 : decode cL_law 1492 = .ok (.iload 5, 2) := by decide +kernel
theorem dL_law_1494 : decode cL_law 1494 = .ok (.iconst 2, 1) := by decide +kernel
theorem dL_law_1495 : decode cL_law 1495 = .ok (.iadd, 1) := by decide +kernel
theorem dL_law_1496 : decode cL_law 1496 = .ok (.iaload, 1) := by decide +kernel
theorem dL_law_1497 : decode cL_law 1497 = .ok (.aload_n 3, 1) := by decide +kernel
theorem dL_law_1498 : decode cL_law 1498 = .ok (.invokestatic 166, 3) := by decide +kernel
theorem dL_law_1501 : decode cL_law 1501 = .ok (.istore 6, 2) := by decide +kernel
theorem dL_law_1503 : decode cL_law 1503 = .ok (.aload_n 2, 1) := by decide +kernel
theorem dL_law_1504 : decode cL_law 1504 = .ok (.aload_n 0, 1) := by decide +kernel
theorem dL_law_1505 : decode cL_law 1505 = .ok (.iload 5, 2) := by decide +kernel
theorem dL_law_1507 : decode cL_law 1507 = .ok (.iconst 1, 1) := by decide +kernel
theorem dL_law_1508 : decode cL_law 1508 = .ok (.iadd, 1) := by decide +kernel
theorem dL_law_1509 : decode cL_law 1509 = .ok (.iaload, 1) := by decide +kernel
theorem dL_law_1510 : decode cL_law 1510 = .ok (.aload_n 0, 1) := by decide +kernel
theorem dL_law_1511 : decode cL_law 1511 = .ok (.iload 5, 2) := by decide +kernel
theorem dL_law_1513 : decode cL_law 1513 = .ok (.iconst 2, 1) := by decide +kernel
theorem dL_law_1514 : decode cL_law 1514 = .ok (.iadd, 1) := by decide +kernel
theorem dL_law_1515 : decode cL_law 1515 = .ok (.iaload, 1) := by decide +kernel
theorem dL_law_1516 : decode cL_law 1516 = .ok (.invokevirtual 168, 3) := by decide +kernel
theorem dL_law_1519 : decode cL_law 1519 = .ok (.istore 7, 2) := by decide +kernel
theorem dL_law_1521 : decode cL_law 1521 = .ok (.aload_n 2, 1) := by decide +kernel
theorem dL_law_1522 : decode cL_law 1522 = .ok (.invokevirtual 101, 3) := by decide +kernel
theorem dL_law_1525 : decode cL_law 1525 = .ok (.iload 6, 2) := by decide +kernel
theorem dL_law_1527 : decode cL_law 1527 = .ok (.if_icmp .eq 5, 3) := by decide +kernel
theorem dL_law_1530 : decode cL_law 1530 = .ok (.iconst 0, 1) := by decide +kernel
theorem dL_law_1531 : decode cL_law 1531 = .ok (.ireturn, 1) := by decide +kernel
theorem dL_law_1532 : decode cL_law 1532 = .ok (.iload 6, 2) := by decide +kernel
theorem dL_law_1534 : decode cL_law 1534 = .ok (.ifCond .ne 15, 3) := by decide +kernel
theorem dL_law_1537 : decode cL_law 1537 = .ok (.aload_n 3, 1) := by decide +kernel
theorem dL_law_1538 : decode cL_law 1538 = .ok (.iconst 0, 1) := by decide +kernel
theorem dL_law_1539 : decode cL_law 1539 = .ok (.laload, 1) := by decide +kernel
theorem dL_law_1540 : decode cL_law 1540 = .ok (.iload 7, 2) := by decide +kernel
theorem dL_law_1542 : decode cL_law 1542 = .ok (.i2l, 1) := by decide +kernel
theorem dL_law_1543 : decode cL_law 1543 = .ok (.lcmp, 1) := by decide +kernel
theorem dL_law_1544 : decode cL_law 1544 = .ok (.ifCond .eq 5, 3) := by decide +kernel
theorem dL_law_1547 : decode cL_law 1547 = .ok (.iconst 0, 1) := by decide +kernel
theorem dL_law_1548 : decode cL_law 1548 = .ok (.ireturn, 1) := by decide +kernel
theorem dL_law_1549 : decode cL_law 1549 = .ok (.goto 250, 3) := by decide +kernel
theorem dL_law_1552 : decode cL_law 1552 = .ok (.aload_n 1, 1) := by decide +kernel
theorem dL_law_1553 : decode cL_law 1553 = .ok (.aload_n 0, 1) := by decide +kernel
theorem dL_law_1554 : decode cL_law 1554 = .ok (.iload 5, 2) := by decide +kernel
theorem dL_law_1556 : decode cL_law 1556 = .ok (.iconst 1, 1) := by decide +kernel
theorem dL_law_1557 : decode cL_law 1557 = .ok (.iadd, 1) := by decide +kernel
theorem dL_law_1558 : decode cL_law 1558 = .ok (.iaload, 1) := by decide +kernel
theorem dL_law_1559 : decode cL_law 1559 = .ok (.aload_n 3, 1) := by decide +kernel
theorem dL_law_1560 : decode cL_law 1560 = .ok (.invokestatic 169, 3) := by decide +kernel
theorem dL_law_1563 : decode cL_law 1563 = .ok (.istore 6, 2) := by decide +kernel
theorem dL_law_1565 : decode cL_law 1565 = .ok (.aload_n 2, 1) := by decide +kernel
theorem dL_law_1566 : decode cL_law 1566 = .ok (.aload_n 0, 1) := by decide +kernel
theorem dL_law_1567 : decode cL_law 1567 = .ok (.iload 5, 2) := by decide +kernel
theorem dL_law_1569 : decode cL_law 1569 = .ok (.iconst 1, 1) := by decide +kernel
theorem dL_law_1570 : decode cL_law 1570 = .ok (.iadd, 1) := by decide +kernel
theorem dL_law_1571 : decode cL_law 1571 = .ok (.iaload, 1) := by decide +kernel
theorem dL_law_1572 : decode cL_law 1572 = .ok (.invokevirtual 171, 3) := by decide +kernel
theorem dL_law_1575 : decode cL_law 1575 = .ok (.lstore 7, 2) := by decide +kernel
theorem dL_law_1577 : decode cL_law 1577 = .ok (.aload_n 2, 1) := by decide +kernel
theorem dL_law_1578 : decode cL_law 1578 = .ok (.invokevirtual 101, 3) := by decide +kernel
theorem dL_law_1581 : decode cL_law 1581 = .ok (.iload 6, 2) := by decide +kernel
theorem dL_law_1583 : decode cL_law 1583 = .ok (.if_icmp .eq 5, 3) := by decide +kernel
theorem dL_law_1586 : decode cL_law 1586 = .ok (.iconst 0, 1) := by decide +kernel
theorem dL_law_1587 : decode cL_law 1587 = .ok (.ireturn, 1) := by decide +kernel
theorem dL_law_1588 : decode cL_law 1588 = .ok (.iload 6, 2) := by decide +kernel
theorem dL_law_1590 : decode cL_law 1590 = .ok (.ifCond .ne 14, 3) := by decide +kernel
theorem dL_law_1593 : decode cL_law 1593 = .ok (.aload_n 3, 1) := by decide +kernel
theorem dL_law_1594 : decode cL_law 1594 = .ok (.iconst 0, 1) := by decide +kernel
theorem dL_law_1595 : decode cL_law 1595 = .ok (.laload, 1) := by decide +kernel
theorem dL_law_1596 : decode cL_law 1596 = .ok (.lload 7, 2) := by decide +kernel
theorem dL_law_1598 : decode cL_law 1598 = .ok (.lcmp, 1) := by decide +kernel
theorem dL_law_1599 : decode cL_law 1599 = .ok (.ifCond .eq 5, 3) := by decide +kernel
theorem dL_law_1602 : decode cL_law 1602 = .ok (.iconst 0, 1) := by decide +kernel
theorem dL_law_1603 : decode cL_law 1603 = .ok (.ireturn, 1) := by decide +kernel
theorem dL_law_1604 : decode cL_law 1604 = .ok (.goto 195, 3) := by decide +kernel
theorem dL_law_1607 : decode cL_law 1607 = .ok (.aload_n 1, 1) := by decide +kernel
theorem dL_law_1608 : decode cL_law 1608 = .ok (.aload_n 0, 1) := by decide +kernel
theorem dL_law_1609 : decode cL_law 1609 = .ok (.iload 5, 2) := by decide +kernel
theorem dL_law_1611 : decode cL_law 1611 = .ok (.iconst 1, 1) := by decide +kernel
theorem dL_law_1612 : decode cL_law 1612 = .ok (.iadd, 1) := by decide +kernel
theorem dL_law_1613 : decode cL_law 1613 = .ok (.iaload, 1) := by decide +kernel
theorem dL_law_1614 : decode cL_law 1614 = .ok (.aload_n 0, 1) := by decide +kernel
theorem dL_law_1615 : decode cL_law 1615 = .ok (.iload 5, 2) := by decide +kernel
theorem dL_law_1617 : decode cL_law 1617 = .ok (.iconst 2, 1) := by decide +kernel
theorem dL_law_1618 : decode cL_law 1618 = .ok (.iadd, 1) := by decide +kernel
theorem dL_law_1619 : decode cL_law 1619 = .ok (.iaload, 1) := by decide +kernel
theorem dL_law_1620 : decode cL_law 1620 = .ok (.aload_n 3, 1) := by decide +kernel
theorem dL_law_1621 : decode cL_law 1621 = .ok (.invokestatic 172, 3) := by decide +kernel
theorem dL_law_1624 : decode cL_law 1624 = .ok (.istore 6, 2) := by decide +kernel
theorem dL_law_1626 : decode cL_law 1626 = .ok (.aload_n 2, 1) := by decide +kernel
theorem dL_law_1627 : decode cL_law 1627 = .ok (.aload_n 0, 1) := by decide +kernel
theorem dL_law_1628 : decode cL_law 1628 = .ok (.iload 5, 2) := by decide +kernel
theorem dL_law_1630 : decode cL_law 1630 = .ok (.iconst 1, 1) := by decide +kernel
theorem dL_law_1631 : decode cL_law 1631 = .ok (.iadd, 1) := by decide +kernel
theorem dL_law_1632 : decode cL_law 1632 = .ok (.iaload, 1) := by decide +kernel
theorem dL_law_1633 : decode cL_law 1633 = .ok (.aload_n 0, 1) := by decide +kernel
theorem dL_law_1634 : decode cL_law 1634 = .ok (.iload 5, 2) := by decide +kernel
theorem dL_law_1636 : decode cL_law 1636 = .ok (.iconst 2, 1) := by decide +kernel
theorem dL_law_1637 : decode cL_law 1637 = .ok (.iadd, 1) := by decide +kernel
theorem dL_law_1638 : decode cL_law 1638 = .ok (.iaload, 1) := by decide +kernel
theorem dL_law_1639 : decode cL_law 1639 = .ok (.invokevirtual 174, 3) := by decide +kernel
theorem dL_law_1642 : decode cL_law 1642 = .ok (.istore 7, 2) := by decide +kernel
theorem dL_law_1644 : decode cL_law 1644 = .ok (.aload_n 2, 1) := by decide +kernel
theorem dL_law_1645 : decode cL_law 1645 = .ok (.invokevirtual 101, 3) := by decide +kernel
theorem dL_law_1648 : decode cL_law 1648 = .ok (.iload 6, 2) := by decide +kernel
theorem dL_law_1650 : decode cL_law 1650 = .ok (.if_icmp .eq 5, 3) := by decide +kernel
theorem dL_law_1653 : decode cL_law 1653 = .ok (.iconst 0, 1) := by decide +kernel
theorem dL_law_1654 : decode cL_law 1654 = .ok (.ireturn, 1) := by decide +kernel
theorem dL_law_1655 : decode cL_law 1655 = .ok (.iload 6, 2) := by decide +kernel
theorem dL_law_1657 : decode cL_law 1657 = .ok (.ifCond .ne 15, 3) := by decide +kernel
theorem dL_law_1660 : decode cL_law 1660 = .ok (.aload_n 3, 1) := by decide +kernel
theorem dL_law_1661 : decode cL_law 1661 = .ok (.iconst 0, 1) := by decide +kernel
theorem dL_law_1662 : decode cL_law 1662 = .ok (.laload, 1) := by decide +kernel
theorem dL_law_1663 : decode cL_law 1663 = .ok (.iload 7, 2) := by decide +kernel
theorem dL_law_1665 : decode cL_law 1665 = .ok (.i2l, 1) := by decide +kernel
theorem dL_law_1666 : decode cL_law 1666 = .ok (.lcmp, 1) := by decide +kernel
theorem dL_law_1667 : decode cL_law 1667 = .ok (.ifCond .eq 5, 3) := by decide +kernel
theorem dL_law_1670 : decode cL_law 1670 = .ok (.iconst 0, 1) := by decide +kernel
theorem dL_law_1671 : decode cL_law 1671 = .ok (.ireturn, 1) := by decide +kernel
theorem dL_law_1672 : decode cL_law 1672 = .ok (.goto 127, 3) := by decide +kernel
theorem dL_law_1675 : decode cL_law 1675 = .ok (.aload_n 1, 1) := by decide +kernel
theorem dL_law_1676 : decode cL_law 1676 = .ok (.aload_n 0, 1) := by decide +kernel
theorem dL_law_1677 : decode cL_law 1677 = .ok (.iload 5, 2) := by decide +kernel
theorem dL_law_1679 : decode cL_law 1679 = .ok (.iconst 1, 1) := by decide +kernel
theorem dL_law_1680 : decode cL_law 1680 = .ok (.iadd, 1) := by decide +kernel
theorem dL_law_1681 : decode cL_law 1681 = .ok (.iaload, 1) := by decide +kernel
theorem dL_law_1682 : decode cL_law 1682 = .ok (.aload_n 3, 1) := by decide +kernel
theorem dL_law_1683 : decode cL_law 1683 = .ok (.invokestatic 175, 3) := by decide +kernel
theorem dL_law_1686 : decode cL_law 1686 = .ok (.istore 6, 2) := by decide +kernel
theorem dL_law_1688 : decode cL_law 1688 = .ok (.aload_n 2, 1) := by decide +kernel
theorem dL_law_1689 : decode cL_law 1689 = .ok (.aload_n 0, 1) := by decide +kernel
theorem dL_law_1690 : decode cL_law 1690 = .ok (.iload 5, 2) := by decide +kernel
theorem dL_law_1692 : decode cL_law 1692 = .ok (.iconst 1, 1) := by decide +kernel
theorem dL_law_1693 : decode cL_law 1693 = .ok (.iadd, 1) := by decide +kernel
theorem dL_law_1694 : decode cL_law 1694 = .ok (.iaload, 1) := by decide +kernel
theorem dL_law_1695 : decode cL_law 1695 = .ok (.invokevirtual 177, 3) := by decide +kernel
theorem dL_law_1698 : decode cL_law 1698 = .ok (.istore 7, 2) := by decide +kernel
theorem dL_law_1700 : decode cL_law 1700 = .ok (.aload_n 2, 1) := by decide +kernel
theorem dL_law_1701 : decode cL_law 1701 = .ok (.invokevirtual 101, 3) := by decide +kernel
theorem dL_law_1704 : decode cL_law 1704 = .ok (.iload 6, 2) := by decide +kernel
theorem dL_law_1706 : decode cL_law 1706 = .ok (.if_icmp .eq 5, 3) := by decide +kernel
theorem dL_law_1709 : decode cL_law 1709 = .ok (.iconst 0, 1) := by decide +kernel
theorem dL_law_1710 : decode cL_law 1710 = .ok (.ireturn, 1) := by decide +kernel
theorem dL_law_1711 : decode cL_law 1711 = .ok (.iload 6, 2) := by decide +kernel
theorem dL_law_1713 : decode cL_law 1713 = .ok (.ifCond .ne 15, 3) := by decide +kernel
theorem dL_law_1716 : decode cL_law 1716 = .ok (.aload_n 3, 1) := by decide +kernel
theorem dL_law_1717 : decode cL_law 1717 = .ok (.iconst 0, 1) := by decide +kernel
theorem dL_law_1718 : decode cL_law 1718 = .ok (.laload, 1) := by decide +kernel
theorem dL_law_1719 : decode cL_law 1719 = .ok (.iload 7, 2) := by decide +kernel
theorem dL_law_1721 : decode cL_law 1721 = .ok (.i2l, 1) := by decide +kernel
theorem dL_law_1722 : decode cL_law 1722 = .ok (.lcmp, 1) := by decide +kernel
theorem dL_law_1723 : decode cL_law 1723 = .ok (.ifCond .eq 5, 3) := by decide +kernel
theorem dL_law_1726 : decode cL_law 1726 = .ok (.iconst 0, 1) := by decide +kernel
theorem dL_law_1727 : decode cL_law 1727 = .ok (.ireturn, 1) := by decide +kernel
theorem dL_law_1728 : decode cL_law 1728 = .ok (.goto 71, 3) := by decide +kernel
theorem dL_law_1731 : decode cL_law 1731 = .ok (.aload_n 1, 1) := by decide +kernel
theorem dL_law_1732 : decode cL_law 1732 = .ok (.aload_n 0, 1) := by decide +kernel
theorem dL_law_1733 : decode cL_law 1733 = .ok (.iload 5, 2) := by decide +kernel
theorem dL_law_1735 : decode cL_law 1735 = .ok (.iconst 1, 1) := by decide +kernel
theorem dL_law_1736 : decode cL_law 1736 = .ok (.iadd, 1) := by decide +kernel
theorem dL_law_1737 : decode cL_law 1737 = .ok (.iaload, 1) := by decide +kernel
theorem dL_law_1738 : decode cL_law 1738 = .ok (.aload_n 0, 1) := by decide +kernel
theorem dL_law_1739 : decode cL_law 1739 = .ok (.iload 5, 2) := by decide +kernel
theorem dL_law_1741 : decode cL_law 1741 = .ok (.iconst 2, 1) := by decide +kernel
theorem dL_law_1742 : decode cL_law 1742 = .ok (.iadd, 1) := by decide +kernel
theorem dL_law_1743 : decode cL_law 1743 = .ok (.iaload, 1) := by decide +kernel
theorem dL_law_1744 : decode cL_law 1744 = .ok (.aload_n 3, 1) := by decide +kernel
theorem dL_law_1745 : decode cL_law 1745 = .ok (.invokestatic 178, 3) := by decide +kernel
theorem dL_law_1748 : decode cL_law 1748 = .ok (.istore 6, 2) := by decide +kernel
theorem dL_law_1750 : decode cL_law 1750 = .ok (.aload_n 2, 1) := by decide +kernel
theorem dL_law_1751 : decode cL_law 1751 = .ok (.aload_n 0, 1) := by decide +kernel
theorem dL_law_1752 : decode cL_law 1752 = .ok (.iload 5, 2) := by decide +kernel
theorem dL_law_1754 : decode cL_law 1754 = .ok (.iconst 1, 1) := by decide +kernel
theorem dL_law_1755 : decode cL_law 1755 = .ok (.iadd, 1) := by decide +kernel
theorem dL_law_1756 : decode cL_law 1756 = .ok (.iaload, 1) := by decide +kernel
theorem dL_law_1757 : decode cL_law 1757 = .ok (.aload_n 0, 1) := by decide +kernel
theorem dL_law_1758 : decode cL_law 1758 = .ok (.iload 5, 2) := by decide +kernel
theorem dL_law_1760 : decode cL_law 1760 = .ok (.iconst 2, 1) := by decide +kernel
theorem dL_law_1761 : decode cL_law 1761 = .ok (.iadd, 1) := by decide +kernel
theorem dL_law_1762 : decode cL_law 1762 = .ok (.iaload, 1) := by decide +kernel
theorem dL_law_1763 : decode cL_law 1763 = .ok (.invokevirtual 180, 3) := by decide +kernel
theorem dL_law_1766 : decode cL_law 1766 = .ok (.istore 7, 2) := by decide +kernel
theorem dL_law_1768 : decode cL_law 1768 = .ok (.aload_n 2, 1) := by decide +kernel
theorem dL_law_1769 : decode cL_law 1769 = .ok (.invokevirtual 101, 3) := by decide +kernel
theorem dL_law_1772 : decode cL_law 1772 = .ok (.iload 6, 2) := by decide +kernel
theorem dL_law_1774 : decode cL_law 1774 = .ok (.if_icmp .eq 5, 3) := by decide +kernel
theorem dL_law_1777 : decode cL_law 1777 = .ok (.iconst 0, 1) := by decide +kernel
theorem dL_law_1778 : decode cL_law 1778 = .ok (.ireturn, 1) := by decide +kernel
theorem dL_law_1779 : decode cL_law 1779 = .ok (.iload 6, 2) := by decide +kernel
theorem dL_law_1781 : decode cL_law 1781 = .ok (.ifCond .ne 15, 3) := by decide +kernel
theorem dL_law_1784 : decode cL_law 1784 = .ok (.aload_n 3, 1) := by decide +kernel
theorem dL_law_1785 : decode cL_law 1785 = .ok (.iconst 0, 1) := by decide +kernel
theorem dL_law_1786 : decode cL_law 1786 = .ok (.laload, 1) := by decide +kernel
theorem dL_law_1787 : decode cL_law 1787 = .ok (.iload 7, 2) := by decide +kernel
theorem dL_law_1789 : decode cL_law 1789 = .ok (.i2l, 1) := by decide +kernel
theorem dL_law_1790 : decode cL_law 1790 = .ok (.lcmp, 1) := by decide +kernel
theorem dL_law_1791 : decode cL_law 1791 = .ok (.ifCond .eq 5, 3) := by decide +kernel
theorem dL_law_1794 : decode cL_law 1794 = .ok (.iconst 0, 1) := by decide +kernel
theorem dL_law_1795 : decode cL_law 1795 = .ok (.ireturn, 1) := by decide +kernel
theorem dL_law_1796 : decode cL_law 1796 = .ok (.goto 3, 3) := by decide +kernel
theorem dL_law_1799 : decode cL_law 1799 = .ok (.iinc 5 7, 3) := by decide +kernel
theorem dL_law_1802 : decode cL_law 1802 = .ok (.goto (-1774), 3) := by decide +kernel
theorem dL_law_1805 : decode cL_law 1805 = .ok (.iconst 1, 1) := by decide +kernel
theorem dL_law_1806 : decode cL_law 1806 = .ok (.ireturn, 1) := by decide +kernel
end
section
/-! ===== the walker's own kit: a state is a function component -> slot -> Int; a program fragment is a function into Option ===== -/
def qI (z : Int) : Int32 := Int32.ofInt z
def qJ (z : Int) : Int64 := Int64.ofInt z
abbrev qSt : Type := Nat → Int → Int
abbrev qLay : Type := (Int → Int) → va_E
abbrev qWd : Type := Nat → Option (Nat × qLay)
abbrev qG : Type := va_G × (Nat → ClassId)
abbrev qCl : List vw_C := [(RX0, TX0, 4), (RX1, TX1, 4), (RX2, TX2, 3), (RX3, TX3, 13), (RX4, TX4, 4), (RX5, TX5, 7), (RX6, TX6, 26)]
abbrev qTys (ca : Nat → ClassId) : List (ClassId × FieldType) := [(ca 0, .int), (ca 1, .byte), (ca 2, .array .int), (ca 3, .array .byte), (ca 4, .long), (ca 5, .double)]
/-- the heap holds the state: component k at its address, laid as it is laid -/
def qR (g : qG) (z0 : Nat) (w : qWd) (σ : qSt) (H : Heap) : Prop :=
  (∀ k a f, w k = some (a, f) → va_at g.1 qCl (a, f (σ k)) H ∧ z0 ≤ a) ∧ ∀ j k a f h, w j = some (a, f) → w k = some (a, h) → j = k
def qAO (t : FieldType) (U : State) : Prop := (Cond.arrayOver t).before #[] U = true
theorem qAO.moved {t : FieldType} {u U : State} (hvm : u.vm.Alike U.vm) (h : qAO t u) : qAO t U :=
  have h2 : (Cond.arrayOver t).before #[] (u.setVm U.vm) = true := by rw [Cond.arrayOver_setVmC hvm]; exact h
  h2
def qNest : Cond → Bool
  | .methodLinkNest .. => true
  | .fieldLinkNest .. => true
  | .declares .. => true
  | .castable .. => true
  | .arrayOver .. => true
  | _ => false
/-- the tables' words, at any state of the run -/
def qTW (U : State) : Prop := ∀ x, x ∈ lw_tbl → (goodWord x || qNest x) = true → x.before #[] U = true
theorem qTW.warm {s U : State} (h : qTW s) (hW : s.WarmedH U.vm) : qTW U := by
  intro x hx hg
  have h1 := h x hx hg
  rcases Bool.or_eq_true_iff.mp hg with g | g
  · exact word_at hW (good_of_word g) h1
  · cases x <;> first | (exact va_Nw.warmM hW h1) | (exact va_Nw.warmF hW h1) | (exact va_Nw.warmD hW h1) | (exact va_Nw.warmC hW h1) | (exact qAO.moved hW.alike h1) | (exact absurd g Bool.false_ne_true)
theorem qTW.word {s : State} (h : qTW s) {x : Cond} {args : Array Value} (hx : x ∈ lw_tbl) (g : goodWord x = true) : x.before args s = true :=
  word_at (State.WarmedH.refl s) (good_of_word g) (h x hx (by rw [g]; rfl))
theorem qTW.nestM {s : State} (h : qTW s) {a : String} {i : Nat} {x : MethodName} {b : String} (hx : Cond.methodLinkNest a i x b ∈ lw_tbl) : va_Nw (.methodLinkNest a i x b) s := h _ hx (by rfl)
theorem qTW.cast {s : State} (h : qTW s) {a b : String} {args : Array Value} (hx : Cond.castable a b ∈ lw_tbl) : (Cond.castable a b).before args s = true := va_Nw.use rfl (h _ hx (by rfl))
theorem qTW.over {s : State} (h : qTW s) {t : FieldType} {args : Array Value} (hx : Cond.arrayOver t ∈ lw_tbl) : (Cond.arrayOver t).before args s = true := h _ hx (by rfl)
theorem qTW.nestF {s : State} (h : qTW s) {a : String} {i : Nat} {b n d c : String} (hx : Cond.fieldLinkNest a i b n d c ∈ lw_tbl) : va_Nw (.fieldLinkNest a i b n d c) s := h _ hx (by rfl)
abbrev qA (z0 : Nat) : Nat → Prop := fun q => z0 ≤ q
def qE1 : String := "java/lang/IndexOutOfBoundsException"
def qE2 : String := "java/lang/IllegalArgumentException"
def qE3 : String := "java/lang/IllegalStateException"
def qNc (U : State) : Prop := va_Nc qE1 qE2 U ∧ va_Nc qE1 qE3 U ∧ va_Nc qE2 qE1 U ∧ va_Nc qE2 qE3 U ∧ va_Nc qE3 qE1 U ∧ va_Nc qE3 qE2 U
/-- what stays true of the machine all through the run -/
def qK (g : qG) (z0 : Nat) (U : State) : Prop :=
  va_K g.1 qCl (qTys g.2) U ∧ qTW U ∧ vx_Zq Bundle.tN "UNASSIGNED_STACK" Bundle.steD (qA z0) U U.heap ∧ vx_Zq Bundle.tN "SUPPRESSED_SENTINEL" Bundle.listD (qA z0) U U.heap ∧ z0 ≤ U.heap.size ∧ qNc U
theorem qK.step {g : qG} {z0 : Nat} {s U : State} {H : Heap} {locs : List Loc} (h : qK g z0 s) (hW : s.WarmedH U.vm) (hH : U.heap = H) (hS : va_S (qA z0) s.heap H locs) : qK g z0 U := by
  obtain ⟨h1, h2, h3, h4, h5, n1, n2, n3, n4, n5, n6⟩ := h
  subst hH
  exact ⟨h1.moved hW.alike, h2.warm hW, vx_Zq.moved hW.alike (h3.kept hS.2.1), vx_Zq.moved hW.alike (h4.kept hS.2.1), Nat.le_trans h5 hS.1,
    n1.moved hW.alike, n2.moved hW.alike, n3.moved hW.alike, n4.moved hW.alike, n5.moved hW.alike, n6.moved hW.alike⟩
theorem qK.calling {g : qG} {z0 : Nat} {U : State} {g' : JFrame} {mk : MethodId} {a : Array Value} (h : qK g z0 U) : qK g z0 (U.calling g' mk a) :=
  qK.step (U := U.calling g' mk a) (H := U.heap) (locs := []) h (State.WarmedH.refl U) rfl va_S.rf
theorem qR.kept {g : qG} {z0 : Nat} {w : qWd} {σ : qSt} {H H1 : Heap} (h : qR g z0 w σ H) (hq : ∀ k a f, w k = some (a, f) → H1[a]? = H[a]?) : qR g z0 w σ H1 :=
  ⟨fun k a f hk => ⟨((h.1 k a f hk).1).kept (hq k a f hk), (h.1 k a f hk).2⟩, h.2⟩
theorem qR.sub {g : qG} {z0 : Nat} {w w' : qWd} {σ : qSt} {H : Heap} (h : qR g z0 w σ H) (hw : ∀ k x, w' k = some x → w k = some x) : qR g z0 w' σ H :=
  ⟨fun k a f hk => h.1 k a f (hw k _ hk), fun j k a f e h1 h2 => h.2 j k a f e (hw j _ h1) (hw k _ h2)⟩
def qset (σ : qSt) (k : Nat) (j v : Int) : qSt := fun k' => if k' = k then (fun j' => if j' = j then v else σ k j') else σ k'
def qrow (σ : qSt) (k : Nat) (r : Int → Int) : qSt := fun k' => if k' = k then r else σ k'
theorem qset_row (σ : qSt) (k : Nat) (j v : Int) : qset σ k j v = qrow σ k (fun j' => if j' = j then v else σ k j') := rfl
theorem qrow_self (σ : qSt) (k : Nat) (r : Int → Int) : qrow σ k r k = r := by unfold qrow; rw [if_pos rfl]
/-- one cell's row is written -/
theorem qR.put {g : qG} {z0 : Nat} {w : qWd} {σ : qSt} {H H1 : Heap} {k a : Nat} {f : qLay} {r : Int → Int} (h : qR g z0 w σ H) (hk : w k = some (a, f)) (he : va_at g.1 qCl (a, f r) H1) (oq : ∀ q : Nat, q ≠ a → H1[q]? = H[q]?) : qR g z0 w (qrow σ k r) H1 := by
  refine ⟨fun k' a' f' hk' => ?_, h.2⟩
  by_cases e : k' = k
  · subst e
    rw [hk] at hk'
    cases hk'
    rw [qrow_self]
    exact ⟨he, (h.1 _ _ _ hk).2⟩
  · have e2 : qrow σ k r k' = σ k' := if_neg e
    rw [e2]
    obtain ⟨h1, h2⟩ := h.1 k' a' f' hk'
    refine ⟨h1.kept (oq a' (fun z => e ?_)), h2⟩
    subst z
    exact h.2 k' k a' f' f hk' hk
/-- a fresh cell -/
def qWput (w : qWd) (k : Nat) (x : Nat × qLay) : qWd := fun j => if j = k then some x else w j
theorem qWput_self (w : qWd) (k : Nat) (x : Nat × qLay) : qWput w k x k = some x := if_pos rfl
theorem qWput_ne {w : qWd} {k j : Nat} (x : Nat × qLay) (h : j ≠ k) : qWput w k x j = w j := if_neg h
theorem qR.lt {g : qG} {z0 : Nat} {w : qWd} {σ : qSt} {H : Heap} (h : qR g z0 w σ H) {k a : Nat} {f : qLay} (hk : w k = some (a, f)) : a < H.size := ((h.1 k a f hk).1).lt
theorem qR.new {g : qG} {z0 : Nat} {w : qWd} {σ : qSt} {H H1 : Heap} {k : Nat} {f : qLay} {r : Int → Int} (h : qR g z0 w σ H) (hz : z0 ≤ H.size) (he : va_at g.1 qCl (H.size, f r) H1) (oq : ∀ q : Nat, q < H.size → H1[q]? = H[q]?) : qR g z0 (qWput w k (H.size, f)) (qrow σ k r) H1 := by
  refine ⟨fun k' a' f' hk' => ?_, fun i j a' f' h' hi hj => ?_⟩
  · by_cases e : k' = k
    · subst e
      rw [qWput_self] at hk'
      cases hk'
      rw [qrow_self]
      exact ⟨he, hz⟩
    · rw [qWput_ne _ e] at hk'
      have e2 : qrow σ k r k' = σ k' := if_neg e
      rw [e2]
      obtain ⟨h1, h2⟩ := h.1 k' a' f' hk'
      exact ⟨h1.kept (oq a' h1.lt), h2⟩
  · by_cases ei : i = k <;> by_cases ej : j = k
    · rw [ei, ej]
    · subst ei
      rw [qWput_self] at hi
      rw [qWput_ne _ ej] at hj
      cases hi
      exact absurd (h.lt hj) (Nat.lt_irrefl _)
    · subst ej
      rw [qWput_self] at hj
      rw [qWput_ne _ ei] at hi
      cases hj
      exact absurd (h.lt hi) (Nat.lt_irrefl _)
    · rw [qWput_ne _ ei] at hi
      rw [qWput_ne _ ej] at hj
      exact h.2 i j a' f' h' hi hj
/-! the locals: a list in which the first entry of a place counts -/
abbrev qLo : Type := List (Nat × Option Value)
def qlook : qLo → Nat → Option Value
  | [], _ => none
  | (k, v) :: t, n => bif Nat.beq k n then v else qlook t n
def qV (ls : Array Slot) (nL : Nat) (lo : qLo) : Prop := ls.size = nL ∧ lv_wf ls ∧ ∀ n v, qlook lo n = some v → ls[n]? = some (.val v)
theorem qV.at {ls : Array Slot} {nL : Nat} {lo : qLo} (h : qV ls nL lo) {n : Nat} {v : Value} (hn : qlook lo n = some v) : ls[n]? = some (.val v) := h.2.2 n v hn
theorem qV.one {ls : Array Slot} {nL : Nat} {lo : qLo} (h : qV ls nL lo) {n : Nat} {v : Value} (hn : qlook lo n = some v) : lv_has ls nL [(n, v)] :=
  ⟨h.1, h.2.1, fun q hq => by rw [List.mem_singleton.mp hq]; exact h.2.2 n v hn⟩
theorem qlook_cons (k n : Nat) (v : Option Value) (t : qLo) : qlook ((k, v) :: t) n = if k = n then v else qlook t n := by
  show (bif Nat.beq k n then v else qlook t n) = _
  by_cases e : k = n
  · rw [if_pos e, e, Nat.beq_refl]; rfl
  · rw [if_neg e]
    have : Nat.beq k n = false := by
      cases h : Nat.beq k n
      · rfl
      · exact absurd (Nat.eq_of_beq_eq_true h) e
    rw [this]; rfl
/-- a store at place i leaves what stands before it, if that is no long -/
def qok (lo : qLo) (i : Nat) : Bool := match i with
  | 0 => true
  | j + 1 => match qlook lo j with
    | some v => v.category == 1
    | none => true
theorem qok_at {lo : qLo} {i n : Nat} {v : Value} (h : qok lo i = true) (hn : n + 1 = i) (hv : qlook lo n = some v) : v.category = 1 := by
  subst hn
  have h : (match qlook lo n with
    | some v => v.category == 1
    | none => true) = true := h
  rw [hv] at h
  exact beq_iff_eq.mp h
theorem qV.store1 {ls : Array Slot} {nL : Nat} {lo : qLo} (h : qV ls nL lo) {i : Nat} {v : Value} (hi : i < nL) (hc : v.category = 1) (hok : qok lo i = true) : ∃ ls', storeLocals ls i v = some ls' ∧ qV ls' nL ((i, some v) :: lo) := by
  have h0 : lv_has ls nL [] := ⟨h.1, h.2.1, fun _ hq => by cases hq⟩
  obtain ⟨ls', e, h1⟩ := lv_store1 h0 hi hc
  refine ⟨ls', e, h1.1, h1.2.1, fun n x hn => ?_⟩
  rw [qlook_cons] at hn
  by_cases en : i = n
  · subst en
    rw [if_pos rfl] at hn
    cases hn
    exact h1.2.2 (i, v) List.mem_cons_self
  · rw [if_neg en] at hn
    obtain ⟨ls2, e2, h2⟩ := lv_store1 (h.one hn) hi hc
    cases Option.some.inj (e.symm.trans e2)
    refine h2.2.2 (n, x) (List.mem_cons_of_mem _ (List.mem_filter.mpr ⟨List.mem_singleton.mpr rfl, ?_⟩))
    have h3 : (n == i) = false := beq_false_of_ne (fun z => en z.symm)
    show (!(n == i) && !(n + 1 == i && x.category == 2)) = true
    rw [h3]
    by_cases e4 : n + 1 = i
    · rw [qok_at hok e4 hn]
      simp
    · rw [beq_false_of_ne e4]
      rfl
theorem qV.store2 {ls : Array Slot} {nL : Nat} {lo : qLo} (h : qV ls nL lo) {i : Nat} {v : Value} (hi : i + 1 < nL) (hc : v.category = 2) (hok : qok lo i = true) : ∃ ls', storeLocals ls i v = some ls' ∧ qV ls' nL ((i, some v) :: (i + 1, none) :: lo) := by
  have h0 : lv_has ls nL [] := ⟨h.1, h.2.1, fun _ hq => by cases hq⟩
  obtain ⟨ls', e, h1⟩ := lv_store2 h0 hi hc
  refine ⟨ls', e, h1.1, h1.2.1, fun n x hn => ?_⟩
  rw [qlook_cons] at hn
  by_cases en : i = n
  · subst en
    rw [if_pos rfl] at hn
    cases hn
    exact h1.2.2 (i, v) List.mem_cons_self
  · rw [if_neg en, qlook_cons] at hn
    by_cases en2 : i + 1 = n
    · rw [if_pos en2] at hn
      cases hn
    · rw [if_neg en2] at hn
      obtain ⟨ls2, e2, h2⟩ := lv_store2 (h.one hn) hi hc
      cases Option.some.inj (e.symm.trans e2)
      refine h2.2.2 (n, x) (List.mem_cons_of_mem _ (List.mem_filter.mpr ⟨List.mem_singleton.mpr rfl, ?_⟩))
      have h3 : (n == i) = false := beq_false_of_ne (fun z => en z.symm)
      have h4 : (n == i + 1) = false := beq_false_of_ne (fun z => en2 z.symm)
      show (!(n == i) && (!(n == i + 1) && !(n + 1 == i && x.category == 2))) = true
      rw [h3, h4]
      by_cases e4 : n + 1 = i
      · rw [qok_at hok e4 hn]
        simp
      · rw [beq_false_of_ne e4]
        rfl
def qsub (lo lo' : qLo) : Prop := ∀ n v, qlook lo' n = some v → qlook lo n = some v
theorem qsub_nil (lo : qLo) : qsub lo [] := fun _ _ h => by cases h
theorem qsub_cons {lo t : qLo} {n : Nat} {v : Value} (h : qlook lo n = some v) (k : qsub lo t) : qsub lo ((n, some v) :: t) := fun j x hx => by
  rw [qlook_cons] at hx
  by_cases e : n = j
  · subst e
    rw [if_pos rfl] at hx
    cases hx
    exact h
  · rw [if_neg e] at hx
    exact k j x hx
theorem qV.sub {ls : Array Slot} {nL : Nat} {lo lo' : qLo} (h : qV ls nL lo) (k : qsub lo lo') : qV ls nL lo' := ⟨h.1, h.2.1, fun n v hn => h.2.2 n v (k n v hn)⟩
end
