section
-- ===== PART A: goes FIRST, ahead of the names: the tables' words, and 'selects' of the private methods out of them =====
/-- a private method of a class that the tables say can be made, by its rows of tables_1 -/
def lw_okq (q : MethodName × Nat) : Prop := (q.1.cls ≠ "java/lang/invoke/MethodHandle" ∧ q.1.cls ≠ "java/lang/invoke/VarHandle") ∧ Cond.instantiable q.1.cls q.2 ∈ tables_1 ∧ Cond.privateMethod q.1 ∈ tables_1 ∧ Cond.instanceMethod q.1 ∈ tables_1
theorem lw_p0 : lw_okq (⟨"DrumWords", "refuse", "(I)I"⟩, 17) := ⟨⟨by decide +kernel, by decide +kernel⟩, List.mem_of_getElem? (i := 12) (by decide +kernel), List.mem_of_getElem? (i := 276) (by decide +kernel), List.mem_of_getElem? (i := 277) (by decide +kernel)⟩
theorem lw_p1 : lw_okq (⟨"DrumWords", "refusedPlace", "(II)I"⟩, 17) := ⟨⟨by decide +kernel, by decide +kernel⟩, List.mem_of_getElem? (i := 12) (by decide +kernel), List.mem_of_getElem? (i := 284) (by decide +kernel), List.mem_of_getElem? (i := 285) (by decide +kernel)⟩
theorem lw_p2 : lw_okq (⟨"DrumWords", "rowHolds", "(III)Z"⟩, 17) := ⟨⟨by decide +kernel, by decide +kernel⟩, List.mem_of_getElem? (i := 12) (by decide +kernel), List.mem_of_getElem? (i := 300) (by decide +kernel), List.mem_of_getElem? (i := 301) (by decide +kernel)⟩
theorem lw_p3 : lw_okq (⟨"DrumWords$Reader", "faultOf", "([BI)I"⟩, 4) := ⟨⟨by decide +kernel, by decide +kernel⟩, List.mem_of_getElem? (i := 124) (by decide +kernel), List.mem_of_getElem? (i := 329) (by decide +kernel), List.mem_of_getElem? (i := 330) (by decide +kernel)⟩
theorem lw_p4 : lw_okq (⟨"DrumWords$Reader", "readHead", "()Z"⟩, 4) := ⟨⟨by decide +kernel, by decide +kernel⟩, List.mem_of_getElem? (i := 124) (by decide +kernel), List.mem_of_getElem? (i := 336) (by decide +kernel), List.mem_of_getElem? (i := 337) (by decide +kernel)⟩
theorem lw_p5 : lw_okq (⟨"DrumWords$Reader", "skipBlanks", "()V"⟩, 4) := ⟨⟨by decide +kernel, by decide +kernel⟩, List.mem_of_getElem? (i := 124) (by decide +kernel), List.mem_of_getElem? (i := 340) (by decide +kernel), List.mem_of_getElem? (i := 341) (by decide +kernel)⟩
theorem lw_p6 : lw_okq (⟨"DrumWords$Reader", "readFigure", "(II)I"⟩, 4) := ⟨⟨by decide +kernel, by decide +kernel⟩, List.mem_of_getElem? (i := 124) (by decide +kernel), List.mem_of_getElem? (i := 344) (by decide +kernel), List.mem_of_getElem? (i := 345) (by decide +kernel)⟩
theorem lw_p7 : lw_okq (⟨"DrumWords$Reader", "readWord", "(I)Z"⟩, 4) := ⟨⟨by decide +kernel, by decide +kernel⟩, List.mem_of_getElem? (i := 124) (by decide +kernel), List.mem_of_getElem? (i := 349) (by decide +kernel), List.mem_of_getElem? (i := 350) (by decide +kernel)⟩
theorem lw_p8 : lw_okq (⟨"DrumWords$Reader", "readLetter", "()I"⟩, 4) := ⟨⟨by decide +kernel, by decide +kernel⟩, List.mem_of_getElem? (i := 124) (by decide +kernel), List.mem_of_getElem? (i := 353) (by decide +kernel), List.mem_of_getElem? (i := 354) (by decide +kernel)⟩
theorem lw_p9 : lw_okq (⟨"DrumWords$Reader", "readPlace", "(I)Z"⟩, 4) := ⟨⟨by decide +kernel, by decide +kernel⟩, List.mem_of_getElem? (i := 124) (by decide +kernel), List.mem_of_getElem? (i := 359) (by decide +kernel), List.mem_of_getElem? (i := 360) (by decide +kernel)⟩
theorem lw_p10 : lw_okq (⟨"DrumWords$Machine", "isFree", "(I)Z"⟩, 12) := ⟨⟨by decide +kernel, by decide +kernel⟩, List.mem_of_getElem? (i := 30) (by decide +kernel), List.mem_of_getElem? (i := 363) (by decide +kernel), List.mem_of_getElem? (i := 364) (by decide +kernel)⟩
theorem lw_p11 : lw_okq (⟨"DrumWords$Reader", "tellsOnlyWords", "()Z"⟩, 4) := ⟨⟨by decide +kernel, by decide +kernel⟩, List.mem_of_getElem? (i := 124) (by decide +kernel), List.mem_of_getElem? (i := 370) (by decide +kernel), List.mem_of_getElem? (i := 371) (by decide +kernel)⟩
theorem lw_p12 : lw_okq (⟨"DrumWords$Machine", "has", "(I)Z"⟩, 12) := ⟨⟨by decide +kernel, by decide +kernel⟩, List.mem_of_getElem? (i := 30) (by decide +kernel), List.mem_of_getElem? (i := 374) (by decide +kernel), List.mem_of_getElem? (i := 375) (by decide +kernel)⟩
theorem lw_p13 : lw_okq (⟨"DrumWords$Drum", "begin", "(LDrumWords$Machine;)V"⟩, 6) := ⟨⟨by decide +kernel, by decide +kernel⟩, List.mem_of_getElem? (i := 24) (by decide +kernel), List.mem_of_getElem? (i := 383) (by decide +kernel), List.mem_of_getElem? (i := 384) (by decide +kernel)⟩
theorem lw_p14 : lw_okq (⟨"DrumWords$Machine", "become", "(LDrumWords$Machine;)V"⟩, 12) := ⟨⟨by decide +kernel, by decide +kernel⟩, List.mem_of_getElem? (i := 30) (by decide +kernel), List.mem_of_getElem? (i := 387) (by decide +kernel), List.mem_of_getElem? (i := 388) (by decide +kernel)⟩
theorem lw_p15 : lw_okq (⟨"DrumWords$Drum", "drop", "()V"⟩, 6) := ⟨⟨by decide +kernel, by decide +kernel⟩, List.mem_of_getElem? (i := 24) (by decide +kernel), List.mem_of_getElem? (i := 392) (by decide +kernel), List.mem_of_getElem? (i := 393) (by decide +kernel)⟩
def lw_privs_1 : List (MethodName × Nat) := [(⟨"DrumWords", "refuse", "(I)I"⟩, 17), (⟨"DrumWords", "refusedPlace", "(II)I"⟩, 17), (⟨"DrumWords", "rowHolds", "(III)Z"⟩, 17), (⟨"DrumWords$Reader", "faultOf", "([BI)I"⟩, 4), (⟨"DrumWords$Reader", "readHead", "()Z"⟩, 4), (⟨"DrumWords$Reader", "skipBlanks", "()V"⟩, 4), (⟨"DrumWords$Reader", "readFigure", "(II)I"⟩, 4), (⟨"DrumWords$Reader", "readWord", "(I)Z"⟩, 4), (⟨"DrumWords$Reader", "readLetter", "()I"⟩, 4), (⟨"DrumWords$Reader", "readPlace", "(I)Z"⟩, 4), (⟨"DrumWords$Machine", "isFree", "(I)Z"⟩, 12), (⟨"DrumWords$Reader", "tellsOnlyWords", "()Z"⟩, 4), (⟨"DrumWords$Machine", "has", "(I)Z"⟩, 12), (⟨"DrumWords$Drum", "begin", "(LDrumWords$Machine;)V"⟩, 6), (⟨"DrumWords$Machine", "become", "(LDrumWords$Machine;)V"⟩, 12), (⟨"DrumWords$Drum", "drop", "()V"⟩, 6)]
theorem lw_r1 : ∀ q ∈ lw_privs_1, lw_okq q := List.forall_mem_cons.mpr ⟨lw_p0, List.forall_mem_cons.mpr ⟨lw_p1, List.forall_mem_cons.mpr ⟨lw_p2, List.forall_mem_cons.mpr ⟨lw_p3, List.forall_mem_cons.mpr ⟨lw_p4, List.forall_mem_cons.mpr ⟨lw_p5, List.forall_mem_cons.mpr ⟨lw_p6, List.forall_mem_cons.mpr ⟨lw_p7, List.forall_mem_cons.mpr ⟨lw_p8, List.forall_mem_cons.mpr ⟨lw_p9, List.forall_mem_cons.mpr ⟨lw_p10, List.forall_mem_cons.mpr ⟨lw_p11, List.forall_mem_cons.mpr ⟨lw_p12, List.forall_mem_cons.mpr ⟨lw_p13, List.forall_mem_cons.mpr ⟨lw_p14, List.forall_mem_cons.mpr ⟨lw_p15, fun _ h => absurd h List.not_mem_nil⟩⟩⟩⟩⟩⟩⟩⟩⟩⟩⟩⟩⟩⟩⟩⟩
theorem lw_p16 : lw_okq (⟨"DrumWords$Machine", "tellWord", "(II)I"⟩, 12) := ⟨⟨by decide +kernel, by decide +kernel⟩, List.mem_of_getElem? (i := 30) (by decide +kernel), List.mem_of_getElem? (i := 401) (by decide +kernel), List.mem_of_getElem? (i := 402) (by decide +kernel)⟩
theorem lw_p17 : lw_okq (⟨"DrumWords$Machine", "isOf", "(II)Z"⟩, 12) := ⟨⟨by decide +kernel, by decide +kernel⟩, List.mem_of_getElem? (i := 30) (by decide +kernel), List.mem_of_getElem? (i := 409) (by decide +kernel), List.mem_of_getElem? (i := 410) (by decide +kernel)⟩
theorem lw_p18 : lw_okq (⟨"DrumWords$Machine", "markOf", "(II)I"⟩, 12) := ⟨⟨by decide +kernel, by decide +kernel⟩, List.mem_of_getElem? (i := 30) (by decide +kernel), List.mem_of_getElem? (i := 415) (by decide +kernel), List.mem_of_getElem? (i := 416) (by decide +kernel)⟩
theorem lw_p19 : lw_okq (⟨"DrumWords$Machine", "workOf", "(I)I"⟩, 12) := ⟨⟨by decide +kernel, by decide +kernel⟩, List.mem_of_getElem? (i := 30) (by decide +kernel), List.mem_of_getElem? (i := 425) (by decide +kernel), List.mem_of_getElem? (i := 426) (by decide +kernel)⟩
theorem lw_p20 : lw_okq (⟨"DrumWords$Machine", "dueBehind", "(I)I"⟩, 12) := ⟨⟨by decide +kernel, by decide +kernel⟩, List.mem_of_getElem? (i := 30) (by decide +kernel), List.mem_of_getElem? (i := 429) (by decide +kernel), List.mem_of_getElem? (i := 430) (by decide +kernel)⟩
theorem lw_p21 : lw_okq (⟨"DrumWords", "hasNoWords", "()Z"⟩, 17) := ⟨⟨by decide +kernel, by decide +kernel⟩, List.mem_of_getElem? (i := 12) (by decide +kernel), List.mem_of_getElem? (i := 442) (by decide +kernel), List.mem_of_getElem? (i := 443) (by decide +kernel)⟩
theorem lw_p22 : lw_okq (⟨"DrumWords$Drum", "isMissing", "()Z"⟩, 6) := ⟨⟨by decide +kernel, by decide +kernel⟩, List.mem_of_getElem? (i := 24) (by decide +kernel), List.mem_of_getElem? (i := 446) (by decide +kernel), List.mem_of_getElem? (i := 447) (by decide +kernel)⟩
theorem lw_p23 : lw_okq (⟨"DrumWords$Drum", "doDeed", "(III)I"⟩, 6) := ⟨⟨by decide +kernel, by decide +kernel⟩, List.mem_of_getElem? (i := 24) (by decide +kernel), List.mem_of_getElem? (i := 450) (by decide +kernel), List.mem_of_getElem? (i := 451) (by decide +kernel)⟩
theorem lw_p24 : lw_okq (⟨"DrumWords$Drum", "perform", "(I)I"⟩, 6) := ⟨⟨by decide +kernel, by decide +kernel⟩, List.mem_of_getElem? (i := 24) (by decide +kernel), List.mem_of_getElem? (i := 454) (by decide +kernel), List.mem_of_getElem? (i := 455) (by decide +kernel)⟩
theorem lw_p25 : lw_okq (⟨"DrumWords$Machine", "doStep", "()I"⟩, 12) := ⟨⟨by decide +kernel, by decide +kernel⟩, List.mem_of_getElem? (i := 30) (by decide +kernel), List.mem_of_getElem? (i := 458) (by decide +kernel), List.mem_of_getElem? (i := 459) (by decide +kernel)⟩
theorem lw_p26 : lw_okq (⟨"DrumWords$Machine", "readWord", "(I)V"⟩, 12) := ⟨⟨by decide +kernel, by decide +kernel⟩, List.mem_of_getElem? (i := 30) (by decide +kernel), List.mem_of_getElem? (i := 463) (by decide +kernel), List.mem_of_getElem? (i := 464) (by decide +kernel)⟩
theorem lw_p27 : lw_okq (⟨"DrumWords$Machine", "act", "(I)V"⟩, 12) := ⟨⟨by decide +kernel, by decide +kernel⟩, List.mem_of_getElem? (i := 30) (by decide +kernel), List.mem_of_getElem? (i := 468) (by decide +kernel), List.mem_of_getElem? (i := 469) (by decide +kernel)⟩
theorem lw_p28 : lw_okq (⟨"DrumWords$Machine", "moveTo", "(II)I"⟩, 12) := ⟨⟨by decide +kernel, by decide +kernel⟩, List.mem_of_getElem? (i := 30) (by decide +kernel), List.mem_of_getElem? (i := 472) (by decide +kernel), List.mem_of_getElem? (i := 473) (by decide +kernel)⟩
theorem lw_p29 : lw_okq (⟨"DrumWords$Machine", "changeRound", "(II)I"⟩, 12) := ⟨⟨by decide +kernel, by decide +kernel⟩, List.mem_of_getElem? (i := 30) (by decide +kernel), List.mem_of_getElem? (i := 476) (by decide +kernel), List.mem_of_getElem? (i := 477) (by decide +kernel)⟩
theorem lw_p30 : lw_okq (⟨"DrumWords$Machine", "tellAnew", "(II)I"⟩, 12) := ⟨⟨by decide +kernel, by decide +kernel⟩, List.mem_of_getElem? (i := 30) (by decide +kernel), List.mem_of_getElem? (i := 483) (by decide +kernel), List.mem_of_getElem? (i := 484) (by decide +kernel)⟩
theorem lw_p31 : lw_okq (⟨"DrumWords$Drum", "goBackTo", "(I)V"⟩, 6) := ⟨⟨by decide +kernel, by decide +kernel⟩, List.mem_of_getElem? (i := 24) (by decide +kernel), List.mem_of_getElem? (i := 504) (by decide +kernel), List.mem_of_getElem? (i := 505) (by decide +kernel)⟩
def lw_privs_2 : List (MethodName × Nat) := [(⟨"DrumWords$Machine", "tellWord", "(II)I"⟩, 12), (⟨"DrumWords$Machine", "isOf", "(II)Z"⟩, 12), (⟨"DrumWords$Machine", "markOf", "(II)I"⟩, 12), (⟨"DrumWords$Machine", "workOf", "(I)I"⟩, 12), (⟨"DrumWords$Machine", "dueBehind", "(I)I"⟩, 12), (⟨"DrumWords", "hasNoWords", "()Z"⟩, 17), (⟨"DrumWords$Drum", "isMissing", "()Z"⟩, 6), (⟨"DrumWords$Drum", "doDeed", "(III)I"⟩, 6), (⟨"DrumWords$Drum", "perform", "(I)I"⟩, 6), (⟨"DrumWords$Machine", "doStep", "()I"⟩, 12), (⟨"DrumWords$Machine", "readWord", "(I)V"⟩, 12), (⟨"DrumWords$Machine", "act", "(I)V"⟩, 12), (⟨"DrumWords$Machine", "moveTo", "(II)I"⟩, 12), (⟨"DrumWords$Machine", "changeRound", "(II)I"⟩, 12), (⟨"DrumWords$Machine", "tellAnew", "(II)I"⟩, 12), (⟨"DrumWords$Drum", "goBackTo", "(I)V"⟩, 6)]
theorem lw_r2 : ∀ q ∈ lw_privs_2, lw_okq q := List.forall_mem_cons.mpr ⟨lw_p16, List.forall_mem_cons.mpr ⟨lw_p17, List.forall_mem_cons.mpr ⟨lw_p18, List.forall_mem_cons.mpr ⟨lw_p19, List.forall_mem_cons.mpr ⟨lw_p20, List.forall_mem_cons.mpr ⟨lw_p21, List.forall_mem_cons.mpr ⟨lw_p22, List.forall_mem_cons.mpr ⟨lw_p23, List.forall_mem_cons.mpr ⟨lw_p24, List.forall_mem_cons.mpr ⟨lw_p25, List.forall_mem_cons.mpr ⟨lw_p26, List.forall_mem_cons.mpr ⟨lw_p27, List.forall_mem_cons.mpr ⟨lw_p28, List.forall_mem_cons.mpr ⟨lw_p29, List.forall_mem_cons.mpr ⟨lw_p30, List.forall_mem_cons.mpr ⟨lw_p31, fun _ h => absurd h List.not_mem_nil⟩⟩⟩⟩⟩⟩⟩⟩⟩⟩⟩⟩⟩⟩⟩⟩
theorem lw_p32 : lw_okq (⟨"DrumWords$Drum", "become", "(LDrumWords$Drum;)V"⟩, 6) := ⟨⟨by decide +kernel, by decide +kernel⟩, List.mem_of_getElem? (i := 24) (by decide +kernel), List.mem_of_getElem? (i := 512) (by decide +kernel), List.mem_of_getElem? (i := 513) (by decide +kernel)⟩
theorem lw_p33 : lw_okq (⟨"DrumWords", "refusedSteps", "(II)I"⟩, 17) := ⟨⟨by decide +kernel, by decide +kernel⟩, List.mem_of_getElem? (i := 12) (by decide +kernel), List.mem_of_getElem? (i := 525) (by decide +kernel), List.mem_of_getElem? (i := 526) (by decide +kernel)⟩
theorem lw_p34 : lw_okq (⟨"DrumWords", "followSteps", "(I)V"⟩, 17) := ⟨⟨by decide +kernel, by decide +kernel⟩, List.mem_of_getElem? (i := 12) (by decide +kernel), List.mem_of_getElem? (i := 529) (by decide +kernel), List.mem_of_getElem? (i := 530) (by decide +kernel)⟩
theorem lw_p35 : lw_okq (⟨"DrumWords$Trace", "follow", "(LDrumWords$Machine;I)V"⟩, 7) := ⟨⟨by decide +kernel, by decide +kernel⟩, List.mem_of_getElem? (i := 146) (by decide +kernel), List.mem_of_getElem? (i := 534) (by decide +kernel), List.mem_of_getElem? (i := 535) (by decide +kernel)⟩
theorem lw_p36 : lw_okq (⟨"DrumWords$Trace", "addRead", "(I)V"⟩, 7) := ⟨⟨by decide +kernel, by decide +kernel⟩, List.mem_of_getElem? (i := 146) (by decide +kernel), List.mem_of_getElem? (i := 539) (by decide +kernel), List.mem_of_getElem? (i := 540) (by decide +kernel)⟩
theorem lw_p37 : lw_okq (⟨"DrumWords$Trace", "beatsOf", "([II)I"⟩, 7) := ⟨⟨by decide +kernel, by decide +kernel⟩, List.mem_of_getElem? (i := 146) (by decide +kernel), List.mem_of_getElem? (i := 546) (by decide +kernel), List.mem_of_getElem? (i := 547) (by decide +kernel)⟩
theorem lw_p38 : lw_okq (⟨"DrumWords$Trace", "beatBehind", "([III)I"⟩, 7) := ⟨⟨by decide +kernel, by decide +kernel⟩, List.mem_of_getElem? (i := 146) (by decide +kernel), List.mem_of_getElem? (i := 550) (by decide +kernel), List.mem_of_getElem? (i := 551) (by decide +kernel)⟩
theorem lw_p39 : lw_okq (⟨"DrumWords$Trace", "busyBeats", "()I"⟩, 7) := ⟨⟨by decide +kernel, by decide +kernel⟩, List.mem_of_getElem? (i := 146) (by decide +kernel), List.mem_of_getElem? (i := 559) (by decide +kernel), List.mem_of_getElem? (i := 560) (by decide +kernel)⟩
theorem lw_p40 : lw_okq (⟨"DrumWords", "tellShare", "(JJ)V"⟩, 17) := ⟨⟨by decide +kernel, by decide +kernel⟩, List.mem_of_getElem? (i := 12) (by decide +kernel), List.mem_of_getElem? (i := 563) (by decide +kernel), List.mem_of_getElem? (i := 564) (by decide +kernel)⟩
theorem lw_p41 : lw_okq (⟨"DrumWords$Placing", "begin", "(LDrumWords$Machine;)V"⟩, 7) := ⟨⟨by decide +kernel, by decide +kernel⟩, List.mem_of_getElem? (i := 180) (by decide +kernel), List.mem_of_getElem? (i := 580) (by decide +kernel), List.mem_of_getElem? (i := 581) (by decide +kernel)⟩
theorem lw_p42 : lw_okq (⟨"DrumWords$Machine", "mayLie", "(II)Z"⟩, 12) := ⟨⟨by decide +kernel, by decide +kernel⟩, List.mem_of_getElem? (i := 30) (by decide +kernel), List.mem_of_getElem? (i := 586) (by decide +kernel), List.mem_of_getElem? (i := 587) (by decide +kernel)⟩
theorem lw_p43 : lw_okq (⟨"DrumWords$Placing", "findShortest", "()V"⟩, 7) := ⟨⟨by decide +kernel, by decide +kernel⟩, List.mem_of_getElem? (i := 180) (by decide +kernel), List.mem_of_getElem? (i := 600) (by decide +kernel), List.mem_of_getElem? (i := 601) (by decide +kernel)⟩
theorem lw_p44 : lw_okq (⟨"DrumWords$Placing", "takeOffAllButFirst", "()V"⟩, 7) := ⟨⟨by decide +kernel, by decide +kernel⟩, List.mem_of_getElem? (i := 180) (by decide +kernel), List.mem_of_getElem? (i := 604) (by decide +kernel), List.mem_of_getElem? (i := 605) (by decide +kernel)⟩
theorem lw_p45 : lw_okq (⟨"DrumWords$Placing", "settle", "(I)V"⟩, 7) := ⟨⟨by decide +kernel, by decide +kernel⟩, List.mem_of_getElem? (i := 180) (by decide +kernel), List.mem_of_getElem? (i := 613) (by decide +kernel), List.mem_of_getElem? (i := 614) (by decide +kernel)⟩
theorem lw_p46 : lw_okq (⟨"DrumWords$Placing", "fillRest", "([I)V"⟩, 7) := ⟨⟨by decide +kernel, by decide +kernel⟩, List.mem_of_getElem? (i := 180) (by decide +kernel), List.mem_of_getElem? (i := 617) (by decide +kernel), List.mem_of_getElem? (i := 618) (by decide +kernel)⟩
theorem lw_p47 : lw_okq (⟨"DrumWords$Placing", "isAhead", "([I[I)Z"⟩, 7) := ⟨⟨by decide +kernel, by decide +kernel⟩, List.mem_of_getElem? (i := 180) (by decide +kernel), List.mem_of_getElem? (i := 622) (by decide +kernel), List.mem_of_getElem? (i := 623) (by decide +kernel)⟩
def lw_privs_3 : List (MethodName × Nat) := [(⟨"DrumWords$Drum", "become", "(LDrumWords$Drum;)V"⟩, 6), (⟨"DrumWords", "refusedSteps", "(II)I"⟩, 17), (⟨"DrumWords", "followSteps", "(I)V"⟩, 17), (⟨"DrumWords$Trace", "follow", "(LDrumWords$Machine;I)V"⟩, 7), (⟨"DrumWords$Trace", "addRead", "(I)V"⟩, 7), (⟨"DrumWords$Trace", "beatsOf", "([II)I"⟩, 7), (⟨"DrumWords$Trace", "beatBehind", "([III)I"⟩, 7), (⟨"DrumWords$Trace", "busyBeats", "()I"⟩, 7), (⟨"DrumWords", "tellShare", "(JJ)V"⟩, 17), (⟨"DrumWords$Placing", "begin", "(LDrumWords$Machine;)V"⟩, 7), (⟨"DrumWords$Machine", "mayLie", "(II)Z"⟩, 12), (⟨"DrumWords$Placing", "findShortest", "()V"⟩, 7), (⟨"DrumWords$Placing", "takeOffAllButFirst", "()V"⟩, 7), (⟨"DrumWords$Placing", "settle", "(I)V"⟩, 7), (⟨"DrumWords$Placing", "fillRest", "([I)V"⟩, 7), (⟨"DrumWords$Placing", "isAhead", "([I[I)Z"⟩, 7)]
theorem lw_r3 : ∀ q ∈ lw_privs_3, lw_okq q := List.forall_mem_cons.mpr ⟨lw_p32, List.forall_mem_cons.mpr ⟨lw_p33, List.forall_mem_cons.mpr ⟨lw_p34, List.forall_mem_cons.mpr ⟨lw_p35, List.forall_mem_cons.mpr ⟨lw_p36, List.forall_mem_cons.mpr ⟨lw_p37, List.forall_mem_cons.mpr ⟨lw_p38, List.forall_mem_cons.mpr ⟨lw_p39, List.forall_mem_cons.mpr ⟨lw_p40, List.forall_mem_cons.mpr ⟨lw_p41, List.forall_mem_cons.mpr ⟨lw_p42, List.forall_mem_cons.mpr ⟨lw_p43, List.forall_mem_cons.mpr ⟨lw_p44, List.forall_mem_cons.mpr ⟨lw_p45, List.forall_mem_cons.mpr ⟨lw_p46, List.forall_mem_cons.mpr ⟨lw_p47, fun _ h => absurd h List.not_mem_nil⟩⟩⟩⟩⟩⟩⟩⟩⟩⟩⟩⟩⟩⟩⟩⟩
theorem lw_p48 : lw_okq (⟨"DrumWords", "layPlaces", "(I[I)V"⟩, 17) := ⟨⟨by decide +kernel, by decide +kernel⟩, List.mem_of_getElem? (i := 12) (by decide +kernel), List.mem_of_getElem? (i := 626) (by decide +kernel), List.mem_of_getElem? (i := 627) (by decide +kernel)⟩
theorem lw_p49 : lw_okq (⟨"DrumWords$Placing", "layByFirstUse", "()V"⟩, 7) := ⟨⟨by decide +kernel, by decide +kernel⟩, List.mem_of_getElem? (i := 180) (by decide +kernel), List.mem_of_getElem? (i := 634) (by decide +kernel), List.mem_of_getElem? (i := 635) (by decide +kernel)⟩
theorem lw_p50 : lw_okq (⟨"DrumWords$Placing", "firstFreeFrom", "(I)I"⟩, 7) := ⟨⟨by decide +kernel, by decide +kernel⟩, List.mem_of_getElem? (i := 180) (by decide +kernel), List.mem_of_getElem? (i := 638) (by decide +kernel), List.mem_of_getElem? (i := 639) (by decide +kernel)⟩
theorem lw_p51 : lw_okq (⟨"DrumWords", "refusedTimes", "(II)I"⟩, 17) := ⟨⟨by decide +kernel, by decide +kernel⟩, List.mem_of_getElem? (i := 12) (by decide +kernel), List.mem_of_getElem? (i := 646) (by decide +kernel), List.mem_of_getElem? (i := 647) (by decide +kernel)⟩
theorem lw_p52 : lw_okq (⟨"DrumWords$Trace", "fits", "([I[II)Z"⟩, 7) := ⟨⟨by decide +kernel, by decide +kernel⟩, List.mem_of_getElem? (i := 146) (by decide +kernel), List.mem_of_getElem? (i := 650) (by decide +kernel), List.mem_of_getElem? (i := 651) (by decide +kernel)⟩
theorem lw_p53 : lw_okq (⟨"DrumWords", "beginClocks", "(I)V"⟩, 17) := ⟨⟨by decide +kernel, by decide +kernel⟩, List.mem_of_getElem? (i := 12) (by decide +kernel), List.mem_of_getElem? (i := 662) (by decide +kernel), List.mem_of_getElem? (i := 663) (by decide +kernel)⟩
theorem lw_p54 : lw_okq (⟨"DrumWords", "turnClocks", "(II)V"⟩, 17) := ⟨⟨by decide +kernel, by decide +kernel⟩, List.mem_of_getElem? (i := 12) (by decide +kernel), List.mem_of_getElem? (i := 666) (by decide +kernel), List.mem_of_getElem? (i := 667) (by decide +kernel)⟩
theorem lw_p55 : lw_okq (⟨"DrumWords", "greatestPart", "()I"⟩, 17) := ⟨⟨by decide +kernel, by decide +kernel⟩, List.mem_of_getElem? (i := 12) (by decide +kernel), List.mem_of_getElem? (i := 671) (by decide +kernel), List.mem_of_getElem? (i := 672) (by decide +kernel)⟩
theorem lw_p56 : lw_okq (⟨"DrumWords", "refusedChances", "(II)I"⟩, 17) := ⟨⟨by decide +kernel, by decide +kernel⟩, List.mem_of_getElem? (i := 12) (by decide +kernel), List.mem_of_getElem? (i := 695) (by decide +kernel), List.mem_of_getElem? (i := 696) (by decide +kernel)⟩
theorem lw_p57 : lw_okq (⟨"DrumWords", "spreadMiss", "(I)V"⟩, 17) := ⟨⟨by decide +kernel, by decide +kernel⟩, List.mem_of_getElem? (i := 12) (by decide +kernel), List.mem_of_getElem? (i := 702) (by decide +kernel), List.mem_of_getElem? (i := 703) (by decide +kernel)⟩
theorem lw_p58 : lw_okq (⟨"DrumWords", "doLot", "(J)V"⟩, 17) := ⟨⟨by decide +kernel, by decide +kernel⟩, List.mem_of_getElem? (i := 12) (by decide +kernel), List.mem_of_getElem? (i := 718) (by decide +kernel), List.mem_of_getElem? (i := 719) (by decide +kernel)⟩
theorem lw_p59 : lw_okq (⟨"DrumWords$Machine", "adds", "()I"⟩, 12) := ⟨⟨by decide +kernel, by decide +kernel⟩, List.mem_of_getElem? (i := 30) (by decide +kernel), List.mem_of_getElem? (i := 740) (by decide +kernel), List.mem_of_getElem? (i := 741) (by decide +kernel)⟩
theorem lw_p60 : lw_okq (⟨"DrumWords", "keptDrums", "()I"⟩, 17) := ⟨⟨by decide +kernel, by decide +kernel⟩, List.mem_of_getElem? (i := 12) (by decide +kernel), List.mem_of_getElem? (i := 747) (by decide +kernel), List.mem_of_getElem? (i := 748) (by decide +kernel)⟩
theorem lw_p61 : lw_okq (⟨"DrumWordsModel", "find", "(I)I"⟩, 28) := ⟨⟨by decide +kernel, by decide +kernel⟩, List.mem_of_getElem? (i := 766) (by decide +kernel), List.mem_of_getElem? (i := 868) (by decide +kernel), List.mem_of_getElem? (i := 869) (by decide +kernel)⟩
theorem lw_p62 : lw_okq (⟨"DrumWordsModel", "makeRow", "(II)V"⟩, 28) := ⟨⟨by decide +kernel, by decide +kernel⟩, List.mem_of_getElem? (i := 766) (by decide +kernel), List.mem_of_getElem? (i := 872) (by decide +kernel), List.mem_of_getElem? (i := 873) (by decide +kernel)⟩
theorem lw_p63 : lw_okq (⟨"DrumWordsModel", "refused", "(II)I"⟩, 28) := ⟨⟨by decide +kernel, by decide +kernel⟩, List.mem_of_getElem? (i := 766) (by decide +kernel), List.mem_of_getElem? (i := 880) (by decide +kernel), List.mem_of_getElem? (i := 881) (by decide +kernel)⟩
def lw_privs_4 : List (MethodName × Nat) := [(⟨"DrumWords", "layPlaces", "(I[I)V"⟩, 17), (⟨"DrumWords$Placing", "layByFirstUse", "()V"⟩, 7), (⟨"DrumWords$Placing", "firstFreeFrom", "(I)I"⟩, 7), (⟨"DrumWords", "refusedTimes", "(II)I"⟩, 17), (⟨"DrumWords$Trace", "fits", "([I[II)Z"⟩, 7), (⟨"DrumWords", "beginClocks", "(I)V"⟩, 17), (⟨"DrumWords", "turnClocks", "(II)V"⟩, 17), (⟨"DrumWords", "greatestPart", "()I"⟩, 17), (⟨"DrumWords", "refusedChances", "(II)I"⟩, 17), (⟨"DrumWords", "spreadMiss", "(I)V"⟩, 17), (⟨"DrumWords", "doLot", "(J)V"⟩, 17), (⟨"DrumWords$Machine", "adds", "()I"⟩, 12), (⟨"DrumWords", "keptDrums", "()I"⟩, 17), (⟨"DrumWordsModel", "find", "(I)I"⟩, 28), (⟨"DrumWordsModel", "makeRow", "(II)V"⟩, 28), (⟨"DrumWordsModel", "refused", "(II)I"⟩, 28)]
theorem lw_r4 : ∀ q ∈ lw_privs_4, lw_okq q := List.forall_mem_cons.mpr ⟨lw_p48, List.forall_mem_cons.mpr ⟨lw_p49, List.forall_mem_cons.mpr ⟨lw_p50, List.forall_mem_cons.mpr ⟨lw_p51, List.forall_mem_cons.mpr ⟨lw_p52, List.forall_mem_cons.mpr ⟨lw_p53, List.forall_mem_cons.mpr ⟨lw_p54, List.forall_mem_cons.mpr ⟨lw_p55, List.forall_mem_cons.mpr ⟨lw_p56, List.forall_mem_cons.mpr ⟨lw_p57, List.forall_mem_cons.mpr ⟨lw_p58, List.forall_mem_cons.mpr ⟨lw_p59, List.forall_mem_cons.mpr ⟨lw_p60, List.forall_mem_cons.mpr ⟨lw_p61, List.forall_mem_cons.mpr ⟨lw_p62, List.forall_mem_cons.mpr ⟨lw_p63, fun _ h => absurd h List.not_mem_nil⟩⟩⟩⟩⟩⟩⟩⟩⟩⟩⟩⟩⟩⟩⟩⟩
theorem lw_p64 : lw_okq (⟨"DrumWordsModel", "tell", "(I)I"⟩, 28) := ⟨⟨by decide +kernel, by decide +kernel⟩, List.mem_of_getElem? (i := 766) (by decide +kernel), List.mem_of_getElem? (i := 884) (by decide +kernel), List.mem_of_getElem? (i := 885) (by decide +kernel)⟩
theorem lw_p65 : lw_okq (⟨"DrumWordsModel", "isSpan", "(III)Z"⟩, 28) := ⟨⟨by decide +kernel, by decide +kernel⟩, List.mem_of_getElem? (i := 766) (by decide +kernel), List.mem_of_getElem? (i := 900) (by decide +kernel), List.mem_of_getElem? (i := 901) (by decide +kernel)⟩
theorem lw_p66 : lw_okq (⟨"DrumWordsModel", "faultOf", "(I)I"⟩, 28) := ⟨⟨by decide +kernel, by decide +kernel⟩, List.mem_of_getElem? (i := 766) (by decide +kernel), List.mem_of_getElem? (i := 924) (by decide +kernel), List.mem_of_getElem? (i := 925) (by decide +kernel)⟩
theorem lw_p67 : lw_okq (⟨"DrumWordsModel", "readsPlaces", "()Z"⟩, 28) := ⟨⟨by decide +kernel, by decide +kernel⟩, List.mem_of_getElem? (i := 766) (by decide +kernel), List.mem_of_getElem? (i := 928) (by decide +kernel), List.mem_of_getElem? (i := 929) (by decide +kernel)⟩
theorem lw_p68 : lw_okq (⟨"DrumWordsModel", "skip", "()V"⟩, 28) := ⟨⟨by decide +kernel, by decide +kernel⟩, List.mem_of_getElem? (i := 766) (by decide +kernel), List.mem_of_getElem? (i := 932) (by decide +kernel), List.mem_of_getElem? (i := 933) (by decide +kernel)⟩
theorem lw_p69 : lw_okq (⟨"DrumWordsModel", "here", "()I"⟩, 28) := ⟨⟨by decide +kernel, by decide +kernel⟩, List.mem_of_getElem? (i := 766) (by decide +kernel), List.mem_of_getElem? (i := 936) (by decide +kernel), List.mem_of_getElem? (i := 937) (by decide +kernel)⟩
theorem lw_p70 : lw_okq (⟨"DrumWordsModel", "figure", "(II)I"⟩, 28) := ⟨⟨by decide +kernel, by decide +kernel⟩, List.mem_of_getElem? (i := 766) (by decide +kernel), List.mem_of_getElem? (i := 940) (by decide +kernel), List.mem_of_getElem? (i := 941) (by decide +kernel)⟩
theorem lw_p71 : lw_okq (⟨"DrumWordsModel", "readsWord", "()Z"⟩, 28) := ⟨⟨by decide +kernel, by decide +kernel⟩, List.mem_of_getElem? (i := 766) (by decide +kernel), List.mem_of_getElem? (i := 944) (by decide +kernel), List.mem_of_getElem? (i := 945) (by decide +kernel)⟩
theorem lw_p72 : lw_okq (⟨"DrumWordsModel", "isTaken", "(I)Z"⟩, 28) := ⟨⟨by decide +kernel, by decide +kernel⟩, List.mem_of_getElem? (i := 766) (by decide +kernel), List.mem_of_getElem? (i := 951) (by decide +kernel), List.mem_of_getElem? (i := 952) (by decide +kernel)⟩
theorem lw_p73 : lw_okq (⟨"DrumWordsModel", "areAllThere", "()Z"⟩, 28) := ⟨⟨by decide +kernel, by decide +kernel⟩, List.mem_of_getElem? (i := 766) (by decide +kernel), List.mem_of_getElem? (i := 955) (by decide +kernel), List.mem_of_getElem? (i := 956) (by decide +kernel)⟩
theorem lw_p74 : lw_okq (⟨"DrumWordsModel", "isWord", "(I)Z"⟩, 28) := ⟨⟨by decide +kernel, by decide +kernel⟩, List.mem_of_getElem? (i := 766) (by decide +kernel), List.mem_of_getElem? (i := 967) (by decide +kernel), List.mem_of_getElem? (i := 968) (by decide +kernel)⟩
theorem lw_p75 : lw_okq (⟨"DrumWordsModel", "toldOf", "(II)I"⟩, 28) := ⟨⟨by decide +kernel, by decide +kernel⟩, List.mem_of_getElem? (i := 766) (by decide +kernel), List.mem_of_getElem? (i := 971) (by decide +kernel), List.mem_of_getElem? (i := 972) (by decide +kernel)⟩
theorem lw_p76 : lw_okq (⟨"DrumWordsModel", "isOf", "(II)Z"⟩, 28) := ⟨⟨by decide +kernel, by decide +kernel⟩, List.mem_of_getElem? (i := 766) (by decide +kernel), List.mem_of_getElem? (i := 979) (by decide +kernel), List.mem_of_getElem? (i := 980) (by decide +kernel)⟩
theorem lw_p77 : lw_okq (⟨"DrumWordsModel", "waitsFor", "(II)I"⟩, 28) := ⟨⟨by decide +kernel, by decide +kernel⟩, List.mem_of_getElem? (i := 766) (by decide +kernel), List.mem_of_getElem? (i := 983) (by decide +kernel), List.mem_of_getElem? (i := 984) (by decide +kernel)⟩
theorem lw_p78 : lw_okq (⟨"DrumWordsModel", "worksBy", "(II)I"⟩, 28) := ⟨⟨by decide +kernel, by decide +kernel⟩, List.mem_of_getElem? (i := 766) (by decide +kernel), List.mem_of_getElem? (i := 987) (by decide +kernel), List.mem_of_getElem? (i := 988) (by decide +kernel)⟩
theorem lw_p79 : lw_okq (⟨"DrumWordsModel", "keepPast", "()V"⟩, 28) := ⟨⟨by decide +kernel, by decide +kernel⟩, List.mem_of_getElem? (i := 766) (by decide +kernel), List.mem_of_getElem? (i := 1000) (by decide +kernel), List.mem_of_getElem? (i := 1001) (by decide +kernel)⟩
def lw_privs_5 : List (MethodName × Nat) := [(⟨"DrumWordsModel", "tell", "(I)I"⟩, 28), (⟨"DrumWordsModel", "isSpan", "(III)Z"⟩, 28), (⟨"DrumWordsModel", "faultOf", "(I)I"⟩, 28), (⟨"DrumWordsModel", "readsPlaces", "()Z"⟩, 28), (⟨"DrumWordsModel", "skip", "()V"⟩, 28), (⟨"DrumWordsModel", "here", "()I"⟩, 28), (⟨"DrumWordsModel", "figure", "(II)I"⟩, 28), (⟨"DrumWordsModel", "readsWord", "()Z"⟩, 28), (⟨"DrumWordsModel", "isTaken", "(I)Z"⟩, 28), (⟨"DrumWordsModel", "areAllThere", "()Z"⟩, 28), (⟨"DrumWordsModel", "isWord", "(I)Z"⟩, 28), (⟨"DrumWordsModel", "toldOf", "(II)I"⟩, 28), (⟨"DrumWordsModel", "isOf", "(II)Z"⟩, 28), (⟨"DrumWordsModel", "waitsFor", "(II)I"⟩, 28), (⟨"DrumWordsModel", "worksBy", "(II)I"⟩, 28), (⟨"DrumWordsModel", "keepPast", "()V"⟩, 28)]
theorem lw_r5 : ∀ q ∈ lw_privs_5, lw_okq q := List.forall_mem_cons.mpr ⟨lw_p64, List.forall_mem_cons.mpr ⟨lw_p65, List.forall_mem_cons.mpr ⟨lw_p66, List.forall_mem_cons.mpr ⟨lw_p67, List.forall_mem_cons.mpr ⟨lw_p68, List.forall_mem_cons.mpr ⟨lw_p69, List.forall_mem_cons.mpr ⟨lw_p70, List.forall_mem_cons.mpr ⟨lw_p71, List.forall_mem_cons.mpr ⟨lw_p72, List.forall_mem_cons.mpr ⟨lw_p73, List.forall_mem_cons.mpr ⟨lw_p74, List.forall_mem_cons.mpr ⟨lw_p75, List.forall_mem_cons.mpr ⟨lw_p76, List.forall_mem_cons.mpr ⟨lw_p77, List.forall_mem_cons.mpr ⟨lw_p78, List.forall_mem_cons.mpr ⟨lw_p79, fun _ h => absurd h List.not_mem_nil⟩⟩⟩⟩⟩⟩⟩⟩⟩⟩⟩⟩⟩⟩⟩⟩
theorem lw_p80 : lw_okq (⟨"DrumWordsModel", "goes", "(I)V"⟩, 28) := ⟨⟨by decide +kernel, by decide +kernel⟩, List.mem_of_getElem? (i := 766) (by decide +kernel), List.mem_of_getElem? (i := 1004) (by decide +kernel), List.mem_of_getElem? (i := 1005) (by decide +kernel)⟩
theorem lw_p81 : lw_okq (⟨"DrumWordsModel", "reads", "(II)V"⟩, 28) := ⟨⟨by decide +kernel, by decide +kernel⟩, List.mem_of_getElem? (i := 766) (by decide +kernel), List.mem_of_getElem? (i := 1008) (by decide +kernel), List.mem_of_getElem? (i := 1009) (by decide +kernel)⟩
theorem lw_p82 : lw_okq (⟨"DrumWordsModel", "layWord", "(II)V"⟩, 28) := ⟨⟨by decide +kernel, by decide +kernel⟩, List.mem_of_getElem? (i := 766) (by decide +kernel), List.mem_of_getElem? (i := 1012) (by decide +kernel), List.mem_of_getElem? (i := 1013) (by decide +kernel)⟩
theorem lw_p83 : lw_okq (⟨"DrumWordsModel", "isFree", "(II)Z"⟩, 28) := ⟨⟨by decide +kernel, by decide +kernel⟩, List.mem_of_getElem? (i := 766) (by decide +kernel), List.mem_of_getElem? (i := 1016) (by decide +kernel), List.mem_of_getElem? (i := 1017) (by decide +kernel)⟩
theorem lw_p84 : lw_okq (⟨"DrumWordsModel", "swaps", "(III)V"⟩, 28) := ⟨⟨by decide +kernel, by decide +kernel⟩, List.mem_of_getElem? (i := 766) (by decide +kernel), List.mem_of_getElem? (i := 1028) (by decide +kernel), List.mem_of_getElem? (i := 1029) (by decide +kernel)⟩
theorem lw_p85 : lw_okq (⟨"DrumWordsModel", "copyDrum", "(II)V"⟩, 28) := ⟨⟨by decide +kernel, by decide +kernel⟩, List.mem_of_getElem? (i := 766) (by decide +kernel), List.mem_of_getElem? (i := 1046) (by decide +kernel), List.mem_of_getElem? (i := 1047) (by decide +kernel)⟩
theorem lw_p86 : lw_okq (⟨"DrumWordsModel", "noSteps", "(II)I"⟩, 28) := ⟨⟨by decide +kernel, by decide +kernel⟩, List.mem_of_getElem? (i := 766) (by decide +kernel), List.mem_of_getElem? (i := 1058) (by decide +kernel), List.mem_of_getElem? (i := 1059) (by decide +kernel)⟩
theorem lw_p87 : lw_okq (⟨"DrumWordsModel", "layTried", "()V"⟩, 28) := ⟨⟨by decide +kernel, by decide +kernel⟩, List.mem_of_getElem? (i := 766) (by decide +kernel), List.mem_of_getElem? (i := 1062) (by decide +kernel), List.mem_of_getElem? (i := 1063) (by decide +kernel)⟩
theorem lw_p88 : lw_okq (⟨"DrumWordsModel", "beatsTried", "(I)I"⟩, 28) := ⟨⟨by decide +kernel, by decide +kernel⟩, List.mem_of_getElem? (i := 766) (by decide +kernel), List.mem_of_getElem? (i := 1066) (by decide +kernel), List.mem_of_getElem? (i := 1067) (by decide +kernel)⟩
theorem lw_p89 : lw_okq (⟨"DrumWordsModel", "tellParts", "(JJ)V"⟩, 28) := ⟨⟨by decide +kernel, by decide +kernel⟩, List.mem_of_getElem? (i := 766) (by decide +kernel), List.mem_of_getElem? (i := 1074) (by decide +kernel), List.mem_of_getElem? (i := 1075) (by decide +kernel)⟩
theorem lw_p90 : lw_okq (⟨"DrumWordsModel", "mayLie", "(II)Z"⟩, 28) := ⟨⟨by decide +kernel, by decide +kernel⟩, List.mem_of_getElem? (i := 766) (by decide +kernel), List.mem_of_getElem? (i := 1092) (by decide +kernel), List.mem_of_getElem? (i := 1093) (by decide +kernel)⟩
theorem lw_p91 : lw_okq (⟨"DrumWordsModel", "beatsAt", "(III)I"⟩, 28) := ⟨⟨by decide +kernel, by decide +kernel⟩, List.mem_of_getElem? (i := 766) (by decide +kernel), List.mem_of_getElem? (i := 1096) (by decide +kernel), List.mem_of_getElem? (i := 1097) (by decide +kernel)⟩
theorem lw_p92 : lw_okq (⟨"DrumWordsModel", "noPlacing", "(II)I"⟩, 28) := ⟨⟨by decide +kernel, by decide +kernel⟩, List.mem_of_getElem? (i := 766) (by decide +kernel), List.mem_of_getElem? (i := 1108) (by decide +kernel), List.mem_of_getElem? (i := 1109) (by decide +kernel)⟩
theorem lw_p93 : lw_okq (⟨"DrumWordsModel", "areUnlike", "()Z"⟩, 28) := ⟨⟨by decide +kernel, by decide +kernel⟩, List.mem_of_getElem? (i := 766) (by decide +kernel), List.mem_of_getElem? (i := 1112) (by decide +kernel), List.mem_of_getElem? (i := 1113) (by decide +kernel)⟩
theorem lw_p94 : lw_okq (⟨"DrumWordsModel", "beatsByLine", "(I)I"⟩, 28) := ⟨⟨by decide +kernel, by decide +kernel⟩, List.mem_of_getElem? (i := 766) (by decide +kernel), List.mem_of_getElem? (i := 1119) (by decide +kernel), List.mem_of_getElem? (i := 1120) (by decide +kernel)⟩
theorem lw_p95 : lw_okq (⟨"DrumWordsModel", "nextLine", "()Z"⟩, 28) := ⟨⟨by decide +kernel, by decide +kernel⟩, List.mem_of_getElem? (i := 766) (by decide +kernel), List.mem_of_getElem? (i := 1123) (by decide +kernel), List.mem_of_getElem? (i := 1124) (by decide +kernel)⟩
def lw_privs_6 : List (MethodName × Nat) := [(⟨"DrumWordsModel", "goes", "(I)V"⟩, 28), (⟨"DrumWordsModel", "reads", "(II)V"⟩, 28), (⟨"DrumWordsModel", "layWord", "(II)V"⟩, 28), (⟨"DrumWordsModel", "isFree", "(II)Z"⟩, 28), (⟨"DrumWordsModel", "swaps", "(III)V"⟩, 28), (⟨"DrumWordsModel", "copyDrum", "(II)V"⟩, 28), (⟨"DrumWordsModel", "noSteps", "(II)I"⟩, 28), (⟨"DrumWordsModel", "layTried", "()V"⟩, 28), (⟨"DrumWordsModel", "beatsTried", "(I)I"⟩, 28), (⟨"DrumWordsModel", "tellParts", "(JJ)V"⟩, 28), (⟨"DrumWordsModel", "mayLie", "(II)Z"⟩, 28), (⟨"DrumWordsModel", "beatsAt", "(III)I"⟩, 28), (⟨"DrumWordsModel", "noPlacing", "(II)I"⟩, 28), (⟨"DrumWordsModel", "areUnlike", "()Z"⟩, 28), (⟨"DrumWordsModel", "beatsByLine", "(I)I"⟩, 28), (⟨"DrumWordsModel", "nextLine", "()Z"⟩, 28)]
theorem lw_r6 : ∀ q ∈ lw_privs_6, lw_okq q := List.forall_mem_cons.mpr ⟨lw_p80, List.forall_mem_cons.mpr ⟨lw_p81, List.forall_mem_cons.mpr ⟨lw_p82, List.forall_mem_cons.mpr ⟨lw_p83, List.forall_mem_cons.mpr ⟨lw_p84, List.forall_mem_cons.mpr ⟨lw_p85, List.forall_mem_cons.mpr ⟨lw_p86, List.forall_mem_cons.mpr ⟨lw_p87, List.forall_mem_cons.mpr ⟨lw_p88, List.forall_mem_cons.mpr ⟨lw_p89, List.forall_mem_cons.mpr ⟨lw_p90, List.forall_mem_cons.mpr ⟨lw_p91, List.forall_mem_cons.mpr ⟨lw_p92, List.forall_mem_cons.mpr ⟨lw_p93, List.forall_mem_cons.mpr ⟨lw_p94, List.forall_mem_cons.mpr ⟨lw_p95, fun _ h => absurd h List.not_mem_nil⟩⟩⟩⟩⟩⟩⟩⟩⟩⟩⟩⟩⟩⟩⟩⟩
theorem lw_p96 : lw_okq (⟨"DrumWordsModel", "noBeats", "(I)I"⟩, 28) := ⟨⟨by decide +kernel, by decide +kernel⟩, List.mem_of_getElem? (i := 766) (by decide +kernel), List.mem_of_getElem? (i := 1135) (by decide +kernel), List.mem_of_getElem? (i := 1136) (by decide +kernel)⟩
theorem lw_p97 : lw_okq (⟨"DrumWordsModel", "isSo", "(I)Z"⟩, 28) := ⟨⟨by decide +kernel, by decide +kernel⟩, List.mem_of_getElem? (i := 766) (by decide +kernel), List.mem_of_getElem? (i := 1140) (by decide +kernel), List.mem_of_getElem? (i := 1141) (by decide +kernel)⟩
theorem lw_p98 : lw_okq (⟨"DrumWordsModel", "greatestPart", "(II)I"⟩, 28) := ⟨⟨by decide +kernel, by decide +kernel⟩, List.mem_of_getElem? (i := 766) (by decide +kernel), List.mem_of_getElem? (i := 1152) (by decide +kernel), List.mem_of_getElem? (i := 1153) (by decide +kernel)⟩
theorem lw_p99 : lw_okq (⟨"DrumWordsModel", "eightSteps", "()I"⟩, 28) := ⟨⟨by decide +kernel, by decide +kernel⟩, List.mem_of_getElem? (i := 766) (by decide +kernel), List.mem_of_getElem? (i := 1160) (by decide +kernel), List.mem_of_getElem? (i := 1161) (by decide +kernel)⟩
theorem lw_p100 : lw_okq (⟨"DrumWordsModel", "swapsPair", "(I)V"⟩, 28) := ⟨⟨by decide +kernel, by decide +kernel⟩, List.mem_of_getElem? (i := 766) (by decide +kernel), List.mem_of_getElem? (i := 1164) (by decide +kernel), List.mem_of_getElem? (i := 1165) (by decide +kernel)⟩
theorem lw_p101 : lw_okq (⟨"DrumWordsModel", "beginTurn", "(I)V"⟩, 28) := ⟨⟨by decide +kernel, by decide +kernel⟩, List.mem_of_getElem? (i := 766) (by decide +kernel), List.mem_of_getElem? (i := 1168) (by decide +kernel), List.mem_of_getElem? (i := 1169) (by decide +kernel)⟩
theorem lw_p102 : lw_okq (⟨"DrumWordsModel", "isPair", "(I)Z"⟩, 28) := ⟨⟨by decide +kernel, by decide +kernel⟩, List.mem_of_getElem? (i := 766) (by decide +kernel), List.mem_of_getElem? (i := 1172) (by decide +kernel), List.mem_of_getElem? (i := 1173) (by decide +kernel)⟩
theorem lw_p103 : lw_okq (⟨"DrumWordsModel", "tellMisses", "(IIIZ)I"⟩, 28) := ⟨⟨by decide +kernel, by decide +kernel⟩, List.mem_of_getElem? (i := 766) (by decide +kernel), List.mem_of_getElem? (i := 1184) (by decide +kernel), List.mem_of_getElem? (i := 1185) (by decide +kernel)⟩
theorem lw_p104 : lw_okq (⟨"DrumWordsModel", "countOf", "(I)I"⟩, 28) := ⟨⟨by decide +kernel, by decide +kernel⟩, List.mem_of_getElem? (i := 766) (by decide +kernel), List.mem_of_getElem? (i := 1221) (by decide +kernel), List.mem_of_getElem? (i := 1222) (by decide +kernel)⟩
theorem lw_p105 : lw_okq (⟨"DrumWordsModel", "those", "(I)I"⟩, 28) := ⟨⟨by decide +kernel, by decide +kernel⟩, List.mem_of_getElem? (i := 766) (by decide +kernel), List.mem_of_getElem? (i := 1225) (by decide +kernel), List.mem_of_getElem? (i := 1226) (by decide +kernel)⟩
theorem lw_p106 : lw_okq (⟨"DrumWordsModel", "thereOf", "(I)I"⟩, 28) := ⟨⟨by decide +kernel, by decide +kernel⟩, List.mem_of_getElem? (i := 766) (by decide +kernel), List.mem_of_getElem? (i := 1229) (by decide +kernel), List.mem_of_getElem? (i := 1230) (by decide +kernel)⟩
def lw_privs_7 : List (MethodName × Nat) := [(⟨"DrumWordsModel", "noBeats", "(I)I"⟩, 28), (⟨"DrumWordsModel", "isSo", "(I)Z"⟩, 28), (⟨"DrumWordsModel", "greatestPart", "(II)I"⟩, 28), (⟨"DrumWordsModel", "eightSteps", "()I"⟩, 28), (⟨"DrumWordsModel", "swapsPair", "(I)V"⟩, 28), (⟨"DrumWordsModel", "beginTurn", "(I)V"⟩, 28), (⟨"DrumWordsModel", "isPair", "(I)Z"⟩, 28), (⟨"DrumWordsModel", "tellMisses", "(IIIZ)I"⟩, 28), (⟨"DrumWordsModel", "countOf", "(I)I"⟩, 28), (⟨"DrumWordsModel", "those", "(I)I"⟩, 28), (⟨"DrumWordsModel", "thereOf", "(I)I"⟩, 28)]
theorem lw_r7 : ∀ q ∈ lw_privs_7, lw_okq q := List.forall_mem_cons.mpr ⟨lw_p96, List.forall_mem_cons.mpr ⟨lw_p97, List.forall_mem_cons.mpr ⟨lw_p98, List.forall_mem_cons.mpr ⟨lw_p99, List.forall_mem_cons.mpr ⟨lw_p100, List.forall_mem_cons.mpr ⟨lw_p101, List.forall_mem_cons.mpr ⟨lw_p102, List.forall_mem_cons.mpr ⟨lw_p103, List.forall_mem_cons.mpr ⟨lw_p104, List.forall_mem_cons.mpr ⟨lw_p105, List.forall_mem_cons.mpr ⟨lw_p106, fun _ h => absurd h List.not_mem_nil⟩⟩⟩⟩⟩⟩⟩⟩⟩⟩⟩
def lw_privs : List (MethodName × Nat) := lw_privs_1 ++ (lw_privs_2 ++ (lw_privs_3 ++ (lw_privs_4 ++ (lw_privs_5 ++ (lw_privs_6 ++ (lw_privs_7))))))
def lw_tbl : List Cond := k2_sels lw_privs ++ tables_1
theorem lw_privs_ok : ∀ q ∈ lw_privs, lw_okq q := by
  show ∀ q ∈ lw_privs_1 ++ (lw_privs_2 ++ (lw_privs_3 ++ (lw_privs_4 ++ (lw_privs_5 ++ (lw_privs_6 ++ (lw_privs_7)))))), lw_okq q
  exact List.forall_mem_append.mpr ⟨lw_r1, List.forall_mem_append.mpr ⟨lw_r2, List.forall_mem_append.mpr ⟨lw_r3, List.forall_mem_append.mpr ⟨lw_r4, List.forall_mem_append.mpr ⟨lw_r5, List.forall_mem_append.mpr ⟨lw_r6, lw_r7⟩⟩⟩⟩⟩⟩
/-- what the tables say of new T[n][m]: the array class over an array's (the printed row va_mna uses the name; no text of the kit has it) -/
def va_AOA (ty : FieldType) (U : State) : Prop := (Cond.arrayOver (.array ty)).before #[] U = true
theorem va_AOA.use {ty : FieldType} {A : Array Value} {U : State} (h : va_AOA ty U) : (Cond.arrayOver (.array ty)).before A U = true := h
/-! ===== BEGIN words of one list among another's, by their places ===== -/
theorem goodIn_r {big : List Cond} (ws : List Cond) (ps : List Nat) (hp : ws = ps.filterMap (fun i => big[i]?)) (h : ws.all goodWord = true) : GoodIn big ws := by
  intro w hw
  have h1 := List.all_eq_true.mp h w hw
  rw [hp] at hw
  obtain ⟨i, -, hi⟩ := List.mem_filterMap.mp hw
  have hm : w ∈ big := by first | exact List.mem_of_getElem? hi | exact List.getElem?_mem hi
  exact ⟨hm, good_of_word h1⟩
theorem goodIn_app {big a b : List Cond} (ha : GoodIn big a) (hb : GoodIn big b) : GoodIn big (a ++ b) := fun w h => (List.mem_append.mp h).elim (ha w) (hb w)
theorem goodIn_ca {big a b : List Cond} {c : Cond} (ha : GoodIn big (c :: a)) (hb : GoodIn big b) : GoodIn big (c :: (a ++ b)) := fun w h => (List.mem_cons.mp h).elim (fun e => ha w (List.mem_cons.mpr (Or.inl e))) (fun h => (List.mem_append.mp h).elim (fun h => ha w (List.mem_cons.mpr (Or.inr h))) (hb w))
theorem goodIn_sub {big ws : List Cond} (hm : ∀ w ∈ ws, w ∈ big) (h : ws.all goodWord = true) : GoodIn big ws := fun w hw => ⟨hm w hw, good_of_word (List.all_eq_true.mp h w hw)⟩
/-! ===== END ===== -/

/-! ===== BEGIN new T[n][m]: the outer array a place, the inner ones among the pooled ===== -/
/-- f, but v at every address of l -/
def vr_up {α : Type} (f : Nat → α) (l : List Nat) (v : α) : Nat → α := fun a => if a ∈ l then v else f a
theorem vr_up_in {α : Type} {f : Nat → α} {l : List Nat} {v : α} {a : Nat} (h : a ∈ l) : vr_up f l v a = v := if_pos h
theorem vr_up_ne {α : Type} {f : Nat → α} {l : List Nat} {v : α} {a : Nat} (h : a ∉ l) : vr_up f l v a = f a := if_neg h
theorem vr_rows {L l : List Nat} {f : Nat → va_E} {e : va_E} (h : ∀ a, a ∈ l → a ∉ L) : va_pl L f ++ l.map (fun a => (a, e)) = va_pl (L ++ l) (vr_up f l e) := by
  unfold va_pl
  rw [List.map_append]
  congr 1
  · apply List.map_congr_left
    intro a ha
    rw [vr_up_ne (fun q => h a q ha)]
  · apply List.map_congr_left
    intro a ha
    rw [vr_up_in ha]
theorem vr_lay {X rows : va_W} {x : Nat × va_E} {pl : va_W} {D : va_G} {cl : List vw_C} {H : Heap} (hP : va_P D cl (((X ++ pl) ++ [x]) ++ rows) H) : va_P D cl ((X ++ [x]) ++ (pl ++ rows)) H := by
  rw [List.append_assoc (X ++ pl)] at hP
  have h := va_P.swap hP
  rw [← List.append_assoc X] at h
  have h2 := va_P.swap h
  rw [List.append_assoc (X ++ [x])] at h2
  exact h2
theorem vr_layD {X rows : va_W} {x : Nat × va_E} {pl : va_W} {A : Nat → Prop} (hD : va_D A (((X ++ pl) ++ [x]) ++ rows)) : va_D A ((X ++ [x]) ++ (pl ++ rows)) := by
  rw [List.append_assoc (X ++ pl)] at hD
  have h := va_D.swap hD
  rw [← List.append_assoc X] at h
  have h2 := va_D.swap h
  rw [List.append_assoc (X ++ [x])] at h2
  exact h2
theorem vr_outer (c : ClassId) (N h0 : Nat) : ∀ i : Nat, Jvm.Free.Multi.outerC c N h0 i = arrV c N (fun j => va_rf (if j < i then some (h0 + 1 + j) else none))
  | 0 => by
    show ({ cls := c, slots := Array.replicate N .null, vm := .none } : Cell) = _
    rw [arrV_new]
    refine congrArg (arrV c N) (funext fun j => ?_)
    simp [va_rf]
  | i + 1 => by
    show (Jvm.Free.Multi.outerC c N h0 i).setSlot i (.ref (h0 + 1 + i)) = _
    rw [vr_outer c N h0 i, arrV_store]
    refine congrArg (arrV c N) (funext fun j => ?_)
    by_cases e : j = i
    · subst e
      simp [updV, va_rf]
    · by_cases h : j < i
      · simp [updV, e, h, Nat.lt_succ_of_lt h]
      · simp [updV, e, h, show ¬ j < i + 1 by omega]
section VGM
variable {p : Program} {l : Launch} {e : Env} {R : Room} {s : State} {m : MethodId} {args : Array Value} {below : List Frame} {meth : Method} {c : Code} {H : Heap} {locs : List Loc} {cells slots : Nat} {Q : State → Prop}
variable {cc : ByteArray} {pc : Nat} {ls : Array Slot} {rest : List Value} {D : va_G} {cl : List vw_C} {A : Nat → Prop} {a : Nat} {tys : List (ClassId × FieldType)} {ws : va_W} {H0 : Heap}
theorem va_mna {X : va_W} {L : List Nat} {f : Nat → va_E} {cc : ByteArray} (hexec : p.tables.exec = Jvm.exec) (hb : c.code = cc) {own : String} {index : Nat} {ty : FieldType} {cy : ClassId} (hown : s.vm.findClass own = some m.cls) (hclink : (Cond.classLink own index ("[" ++ (FieldType.array ty).toString)).before args s = true) (hover : va_AOA ty s) (harr : (Cond.arrayClass ty).before args s = true) (hcy : s.vm.findClass (FieldType.array ty).toString = some cy)
    (hK : va_K D cl tys s) (hP : va_P D cl (X ++ va_pl L f) H) (hD : va_D A (X ++ va_pl L f)) (hS : va_S A H0 H locs) (hA : ∀ q, H0.size ≤ q → A q) {n k : Int32} {N' K' : Nat} {z : vp_A} (hn : ¬ n < 0) (hk : ¬ k < 0) (hN : n.toNatClampNeg = N') (hM : k.toNatClampNeg = K')
    (hb1 : N' * 4 ≤ 536870912) (hb2 : K' * componentBytes ty ≤ 536870912) (hb3 : K' ≤ 536870912) (hdf : fits ty (defaultValue ty) = true) (hdd : (defaultValue ty).isDefault = true) (hcells : cells + (1 + N') ≤ R.cells) (hslots : slots + (N' + N' * K') ≤ R.slots) (hz : ∀ c : ClassId, Jvm.Free.Multi.innerC c K' (defaultValue ty) = vp_cell c z) (hdg : decode cc pc = .ok (.multianewarray index 2, 4))
    (kk : ∀ (q : Nat) (r : Nat → Nat) (cA : ClassId) (H1 : Heap), (∀ i j : Nat, i < N' → j < N' → r i = r j → i = j) → (∀ i : Nat, i < N' → r i ∉ L) → va_K D cl (tys ++ [(cA, .array ty)]) s →
      va_P D cl ((X ++ [(q, .inl (cA, N', .inr (.inr (.inr (.inr (fun i => if i < N' then some (r i) else none))))))]) ++ va_pl (L ++ (List.range N').map r) (vr_up f ((List.range N').map r) (.inl (cy, z)))) H1 → va_D A ((X ++ [(q, .inl (cA, N', .inr (.inr (.inr (.inr (fun i => if i < N' then some (r i) else none))))))]) ++ va_pl (L ++ (List.range N').map r) (vr_up f ((List.range N').map r) (.inl (cy, z)))) → va_S A H0 H1 locs →
      W p l e R s m args below meth c H1 locs (cells + 1 + N') (slots + N' + N' * K') Q (F0 m (pc + 4) ls (.ref q :: rest))) : W p l e R s m args below meth c H locs cells slots Q (F0 m pc ls (.int k :: .int n :: rest)) := by
  subst hN
  subst hM
  intro T hT Xs
  obtain ⟨vm₁, cA, comp, -, fA, fC, hO, -, X', step⟩ := Xs.multianewarray2F hexec hown hclink (va_AOA.use hover) harr (g := F0 m pc ls (.int k :: .int n :: rest)) rfl (by rw [hb]; exact hdg) rfl hn hk hb1 hb2 hb3 hdf hdd hcells hslots
  have ec : some cy = some comp := hcy.symm.trans fC
  cases ec
  generalize hF : Jvm.Free.Multi.fill (T.setVm vm₁) cA cy n.toNatClampNeg k.toNatClampNeg (defaultValue ty) n.toNatClampNeg = F at X' step
  have hTh : (T.setVm vm₁).heap = H := hT
  obtain ⟨f1, f2, -, -⟩ := Jvm.Free.Multi.fill_facts (T.setVm vm₁) cA cy n.toNatClampNeg k.toNatClampNeg (defaultValue ty) n.toNatClampNeg
  rw [hF, hTh] at f1 f2
  have hold : ∀ x : Nat, x < H.size → F.heap[x]? = H[x]? := fun x hx => by
    have := Jvm.Free.Multi.fill_old (T.setVm vm₁) cA cy n.toNatClampNeg k.toNatClampNeg (defaultValue ty) (a := x) (by rw [hTh]; exact hx) n.toNatClampNeg
    rw [hF, hTh] at this
    exact this
  have hrow : ∀ j : Nat, j < n.toNatClampNeg → F.heap[H.size + 1 + j]? = some (vp_cell cy z) := fun j hj => by
    have := Jvm.Free.Multi.fill_inner (T.setVm vm₁) cA cy n.toNatClampNeg k.toNatClampNeg (defaultValue ty) n.toNatClampNeg j hj
    rw [hF, hTh, hz] at this
    exact this
  have hout : Jvm.Free.Multi.outerC cA n.toNatClampNeg H.size n.toNatClampNeg = vp_cell cA (n.toNatClampNeg, .inr (.inr (.inr (.inr (fun i => if i < n.toNatClampNeg then some (H.size + 1 + i) else none))))) := by
    rw [vp_cell_q]
    exact vr_outer cA n.toNatClampNeg H.size n.toNatClampNeg
  rw [hout] at f2
  have hlt : ∀ a, a ∈ L → a < H.size := fun a ha => by
    obtain ⟨k9, hk9⟩ := va_pl_get (X := X) (f := f) ha
    exact (hP k9 _ hk9).lt
  have hnl : ∀ i : Nat, i < n.toNatClampNeg → H.size + 1 + i ∉ L := fun i _ h => by
    have := hlt _ h
    omega
  have hnm : ∀ a, a ∈ (List.range n.toNatClampNeg).map (fun i => H.size + 1 + i) → a ∉ L := fun a ha h => by
    obtain ⟨i, -, rfl⟩ := List.mem_map.mp ha
    have := hlt _ h
    omega
  have hP0 : va_P D cl (X ++ va_pl L f) F.heap := hP.kept (fun k9 x hx => hold x.1 ((hP k9 x hx).lt))
  have hP1 : va_P D cl ((X ++ va_pl L f) ++ [(H.size, .inl (cA, n.toNatClampNeg, .inr (.inr (.inr (.inr (fun i => if i < n.toNatClampNeg then some (H.size + 1 + i) else none))))))]) F.heap := hP0.app (fun k9 x hx => by
    have h0 : k9 < 1 := (List.getElem?_eq_some_iff.mp hx).1
    rw [show k9 = 0 by omega] at hx
    cases hx
    exact f2)
  have hP2 : va_P D cl (((X ++ va_pl L f) ++ [(H.size, .inl (cA, n.toNatClampNeg, .inr (.inr (.inr (.inr (fun i => if i < n.toNatClampNeg then some (H.size + 1 + i) else none))))))]) ++ ((List.range n.toNatClampNeg).map (fun i => H.size + 1 + i)).map (fun a => (a, .inl (cy, z)))) F.heap := hP1.app (fun k9 x hx => by
    obtain ⟨a, ha, rfl⟩ := List.mem_map.mp (List.mem_of_getElem? hx)
    obtain ⟨i, hi, rfl⟩ := List.mem_map.mp ha
    exact hrow i (List.mem_range.mp hi))
  have hD2 : va_D A (((X ++ va_pl L f) ++ [(H.size, .inl (cA, n.toNatClampNeg, .inr (.inr (.inr (.inr (fun i => if i < n.toNatClampNeg then some (H.size + 1 + i) else none))))))]) ++ ((List.range n.toNatClampNeg).map (fun i => H.size + 1 + i)).map (fun a => (a, .inl (cy, z)))) := by
    have hD1 := hD.push (e := .inl (cA, n.toNatClampNeg, .inr (.inr (.inr (.inr (fun i => if i < n.toNatClampNeg then some (H.size + 1 + i) else none)))))) hP rfl (hA _ hS.1)
    generalize hW1 : (X ++ va_pl L f) ++ [(H.size, .inl (cA, n.toNatClampNeg, .inr (.inr (.inr (.inr (fun i => if i < n.toNatClampNeg then some (H.size + 1 + i) else none))))))] = W1 at hD1 hP1 ⊢
    have hle : ∀ (k9 : Nat) (x : Nat × va_E), W1[k9]? = some x → x.1 ≤ H.size := fun k9 x hx => by
      rw [← hW1] at hx
      by_cases hl : k9 < (X ++ va_pl L f).length
      · rw [List.getElem?_append_left hl] at hx
        exact Nat.le_of_lt ((hP k9 x hx).lt)
      · rw [List.getElem?_append_right (by omega)] at hx
        have h0 : k9 - (X ++ va_pl L f).length < 1 := (List.getElem?_eq_some_iff.mp hx).1
        rw [show k9 - (X ++ va_pl L f).length = 0 by omega] at hx
        cases hx
        exact Nat.le_refl _
    have hr : ∀ (k9 : Nat) (x : Nat × va_E), (((List.range n.toNatClampNeg).map (fun i => H.size + 1 + i)).map (fun a => ((a, .inl (cy, z)) : Nat × va_E)))[k9]? = some x → x.1 = H.size + 1 + k9 := fun k9 x hx => by
      rw [List.getElem?_map, List.getElem?_map] at hx
      by_cases h9 : k9 < n.toNatClampNeg
      · rw [List.getElem?_range h9] at hx
        cases hx
        rfl
      · have hn0 : (List.range n.toNatClampNeg)[k9]? = none := List.getElem?_eq_none (by rw [List.length_range]; omega)
        rw [hn0] at hx
        cases hx
    refine ⟨fun i j x y hi hj hxy => ?_, fun k9 x hx => ?_⟩
    · by_cases h1 : i < W1.length <;> by_cases h2 : j < W1.length
      · rw [List.getElem?_append_left h1] at hi
        rw [List.getElem?_append_left h2] at hj
        exact hD1.1 i j x y hi hj hxy
      · rw [List.getElem?_append_left h1] at hi
        rw [List.getElem?_append_right (by omega)] at hj
        have := hle _ _ hi
        have := hr _ _ hj
        omega
      · rw [List.getElem?_append_right (by omega)] at hi
        rw [List.getElem?_append_left h2] at hj
        have := hle _ _ hj
        have := hr _ _ hi
        omega
      · rw [List.getElem?_append_right (by omega)] at hi hj
        have := hr _ _ hi
        have := hr _ _ hj
        omega
    · by_cases h1 : k9 < W1.length
      · rw [List.getElem?_append_left h1] at hx
        exact hD1.2 k9 x hx
      · rw [List.getElem?_append_right (by omega)] at hx
        have := hr _ _ hx
        exact hA _ (by have := hS.1; omega)
  have hAr : ArrOfT s cA (.array ty) := fun N9 z9 => by
    obtain ⟨-, k9, hk9, cm9, hkk9⟩ := (hO 0 0 0).1
    exact ⟨(fun q hq => by cases hq), k9, hk9, cm9, hkk9⟩
  have hK2 : va_K D cl (tys ++ [(cA, .array ty)]) s := ⟨hK.1, fun k9 x hx => by
    by_cases hl : k9 < tys.length
    · rw [List.getElem?_append_left hl] at hx
      exact hK.2 k9 x hx
    · rw [List.getElem?_append_right (by omega)] at hx
      have h0 : k9 - tys.length < 1 := (List.getElem?_eq_some_iff.mp hx).1
      rw [show k9 - tys.length = 0 by omega] at hx
      cases hx
      exact ⟨hAr, fA⟩⟩
  obtain ⟨t, a1, b1⟩ := kk H.size (fun i => H.size + 1 + i) cA F.heap (fun i j _ _ h => by have h9 : H.size + 1 + i = H.size + 1 + j := h; omega) hnl hK2 (by rw [← vr_rows hnm]; exact vr_lay hP2) (by rw [← vr_rows hnm]; exact vr_layD hD2) ⟨by rw [f1]; have := hS.1; omega, fun x h1 h2 => (hold x (Nat.lt_of_lt_of_le h1 hS.1)).trans (hS.2.1 x h1 h2), hS.2.2⟩ F rfl X'
  refine ⟨t, step t ?_, b1⟩
  have e : T.heap.size = H.size := by rw [hT]
  rw [e]
  exact a1
end VGM
/-! ===== END ===== -/

/-! ===== BEGIN printed: names, fields, word lists, decode rows ===== -/
def RX0 : String := "DrumWords$Drum"
def TX0 : u_T := fun k => match k with
  | 0 => ("DrumWords$Drum", "start", "LDrumWords$Machine;", true)
  | 1 => ("DrumWords$Drum", "now", "LDrumWords$Machine;", true)
  | 2 => ("DrumWords$Drum", "deeds", "I", false)
  | 3 => ("DrumWords$Drum", "what", "[I", true)
  | 4 => ("DrumWords$Drum", "first", "[I", true)
  | _ => ("DrumWords$Drum", "second", "[I", true)
def tyX0 : Nat → FieldType := fun k => match k with
  | 0 => .object "DrumWords$Machine"
  | 1 => .object "DrumWords$Machine"
  | 2 => .int
  | 3 => .array .int
  | 4 => .array .int
  | _ => .array .int
abbrev wsX00 : List Cond := u_ws RX0 TX0 6
theorem nmX0 : ∀ a, a < 6 → ∀ b, b < 6 → a ≠ b → (TX0 a).2.1 ≠ (TX0 b).2.1 := by decide +kernel
theorem tyX0_ok : ∀ k, k < 6 → parseFieldDescriptor (TX0 k).2.2.1 = some (tyX0 k) := by decide +kernel
abbrev cX0_init : ByteArray := prog_2_method_1_code
def yX0_init : MethodName := ⟨RX0, "<init>", "()V"⟩
abbrev cX0_isMissing : ByteArray := prog_2_method_2_code
def yX0_isMissing : MethodName := ⟨RX0, "isMissing", "()Z"⟩
abbrev cX0_drop : ByteArray := prog_2_method_3_code
def yX0_drop : MethodName := ⟨RX0, "drop", "()V"⟩
abbrev cX0_begin : ByteArray := prog_2_method_4_code
def yX0_begin : MethodName := ⟨RX0, "begin", "(LDrumWords$Machine;)V"⟩
abbrev cX0_become : ByteArray := prog_2_method_5_code
def yX0_become : MethodName := ⟨RX0, "become", "(LDrumWords$Drum;)V"⟩
abbrev cX0_doDeed : ByteArray := prog_2_method_6_code
def yX0_doDeed : MethodName := ⟨RX0, "doDeed", "(III)I"⟩
abbrev cX0_perform : ByteArray := prog_2_method_7_code
def yX0_perform : MethodName := ⟨RX0, "perform", "(I)I"⟩
abbrev cX0_goBackTo : ByteArray := prog_2_method_8_code
def yX0_goBackTo : MethodName := ⟨RX0, "goBackTo", "(I)V"⟩
def RX1 : String := "DrumWords$Machine"
def TX1 : u_T := fun k => match k with
  | 0 => ("DrumWords$Machine", "words", "I", false)
  | 1 => ("DrumWords$Machine", "places", "I", false)
  | 2 => ("DrumWords$Machine", "beat", "I", false)
  | 3 => ("DrumWords$Machine", "sum", "I", false)
  | 4 => ("DrumWords$Machine", "due", "I", false)
  | 5 => ("DrumWords$Machine", "steps", "I", false)
  | 6 => ("DrumWords$Machine", "kindOf", "[I", true)
  | 7 => ("DrumWords$Machine", "spots", "[I", true)
  | 8 => ("DrumWords$Machine", "values", "[I", true)
  | 9 => ("DrumWords$Machine", "with", "[I", true)
  | 10 => ("DrumWords$Machine", "next", "[I", true)
  | _ => ("DrumWords$Machine", "done", "[I", true)
def tyX1 : Nat → FieldType := fun k => match k with
  | 0 => .int
  | 1 => .int
  | 2 => .int
  | 3 => .int
  | 4 => .int
  | 5 => .int
  | 6 => .array .int
  | 7 => .array .int
  | 8 => .array .int
  | 9 => .array .int
  | 10 => .array .int
  | _ => .array .int
abbrev wsX10 : List Cond := u_ws RX1 TX1 12
theorem nmX1 : ∀ a, a < 12 → ∀ b, b < 12 → a ≠ b → (TX1 a).2.1 ≠ (TX1 b).2.1 := by decide +kernel
theorem tyX1_ok : ∀ k, k < 12 → parseFieldDescriptor (TX1 k).2.2.1 = some (tyX1 k) := by decide +kernel
abbrev cX1_init : ByteArray := prog_3_method_1_code
def yX1_init : MethodName := ⟨RX1, "<init>", "()V"⟩
abbrev cX1_become : ByteArray := prog_3_method_2_code
def yX1_become : MethodName := ⟨RX1, "become", "(LDrumWords$Machine;)V"⟩
abbrev cX1_has : ByteArray := prog_3_method_3_code
def yX1_has : MethodName := ⟨RX1, "has", "(I)Z"⟩
abbrev cX1_isFree : ByteArray := prog_3_method_4_code
def yX1_isFree : MethodName := ⟨RX1, "isFree", "(I)Z"⟩
abbrev cX1_mayLie : ByteArray := prog_3_method_5_code
def yX1_mayLie : MethodName := ⟨RX1, "mayLie", "(II)Z"⟩
abbrev cX1_isOf : ByteArray := prog_3_method_6_code
def yX1_isOf : MethodName := ⟨RX1, "isOf", "(II)Z"⟩
abbrev cX1_adds : ByteArray := prog_3_method_7_code
def yX1_adds : MethodName := ⟨RX1, "adds", "()I"⟩
abbrev cX1_tellWord : ByteArray := prog_3_method_8_code
def yX1_tellWord : MethodName := ⟨RX1, "tellWord", "(II)I"⟩
abbrev cX1_markOf : ByteArray := prog_3_method_9_code
def yX1_markOf : MethodName := ⟨RX1, "markOf", "(II)I"⟩
abbrev cX1_workOf : ByteArray := prog_3_method_10_code
def yX1_workOf : MethodName := ⟨RX1, "workOf", "(I)I"⟩
abbrev cX1_dueBehind : ByteArray := prog_3_method_11_code
def yX1_dueBehind : MethodName := ⟨RX1, "dueBehind", "(I)I"⟩
abbrev cX1_act : ByteArray := prog_3_method_12_code
def yX1_act : MethodName := ⟨RX1, "act", "(I)V"⟩
abbrev cX1_readWord : ByteArray := prog_3_method_13_code
def yX1_readWord : MethodName := ⟨RX1, "readWord", "(I)V"⟩
abbrev cX1_doStep : ByteArray := prog_3_method_14_code
def yX1_doStep : MethodName := ⟨RX1, "doStep", "()I"⟩
abbrev cX1_moveTo : ByteArray := prog_3_method_15_code
def yX1_moveTo : MethodName := ⟨RX1, "moveTo", "(II)I"⟩
abbrev cX1_changeRound : ByteArray := prog_3_method_16_code
def yX1_changeRound : MethodName := ⟨RX1, "changeRound", "(II)I"⟩
abbrev cX1_tellAnew : ByteArray := prog_3_method_17_code
def yX1_tellAnew : MethodName := ⟨RX1, "tellAnew", "(II)I"⟩
def RX2 : String := "DrumWords$Placing"
def TX2 : u_T := fun k => match k with
  | 0 => ("DrumWords$Placing", "trace", "LDrumWords$Trace;", true)
  | 1 => ("DrumWords$Placing", "spots", "[I", true)
  | 2 => ("DrumWords$Placing", "filled", "[I", true)
  | 3 => ("DrumWords$Placing", "shortest", "[I", true)
  | 4 => ("DrumWords$Placing", "shortestWait", "I", false)
  | 5 => ("DrumWords$Placing", "words", "I", false)
  | _ => ("DrumWords$Placing", "places", "I", false)
def tyX2 : Nat → FieldType := fun k => match k with
  | 0 => .object "DrumWords$Trace"
  | 1 => .array .int
  | 2 => .array .int
  | 3 => .array .int
  | 4 => .int
  | 5 => .int
  | _ => .int
abbrev wsX20 : List Cond := u_ws RX2 TX2 7
theorem nmX2 : ∀ a, a < 7 → ∀ b, b < 7 → a ≠ b → (TX2 a).2.1 ≠ (TX2 b).2.1 := by decide +kernel
theorem tyX2_ok : ∀ k, k < 7 → parseFieldDescriptor (TX2 k).2.2.1 = some (tyX2 k) := by decide +kernel
abbrev cX2_init : ByteArray := prog_4_method_1_code
def yX2_init : MethodName := ⟨RX2, "<init>", "(LDrumWords$Trace;)V"⟩
abbrev cX2_begin : ByteArray := prog_4_method_2_code
def yX2_begin : MethodName := ⟨RX2, "begin", "(LDrumWords$Machine;)V"⟩
abbrev cX2_takeOffAllButFirst : ByteArray := prog_4_method_3_code
def yX2_takeOffAllButFirst : MethodName := ⟨RX2, "takeOffAllButFirst", "()V"⟩
abbrev cX2_fillRest : ByteArray := prog_4_method_4_code
def yX2_fillRest : MethodName := ⟨RX2, "fillRest", "([I)V"⟩
abbrev cX2_layByFirstUse : ByteArray := prog_4_method_5_code
def yX2_layByFirstUse : MethodName := ⟨RX2, "layByFirstUse", "()V"⟩
abbrev cX2_firstFreeFrom : ByteArray := prog_4_method_6_code
def yX2_firstFreeFrom : MethodName := ⟨RX2, "firstFreeFrom", "(I)I"⟩
abbrev cX2_findShortest : ByteArray := prog_4_method_7_code
def yX2_findShortest : MethodName := ⟨RX2, "findShortest", "()V"⟩
abbrev cX2_layOn : ByteArray := prog_4_method_8_code
def yX2_layOn : MethodName := ⟨RX2, "layOn", "(LDrumWords$Placing;IIII)V"⟩
abbrev cX2_settle : ByteArray := prog_4_method_9_code
def yX2_settle : MethodName := ⟨RX2, "settle", "(I)V"⟩
abbrev cX2_isAhead : ByteArray := prog_4_method_10_code
def yX2_isAhead : MethodName := ⟨RX2, "isAhead", "([I[I)Z"⟩
abbrev cX2_play : ByteArray := prog_4_method_11_code
def yX2_play : MethodName := ⟨RX2, "play", "(LDrumWords$Placing;IZII)I"⟩
def RX3 : String := "DrumWords$Reader"
def TX3 : u_T := fun k => match k with
  | 0 => ("DrumWords$Reader", "draft", "LDrumWords$Machine;", true)
  | 1 => ("DrumWords$Reader", "signs", "[B", false)
  | 2 => ("DrumWords$Reader", "size", "I", false)
  | _ => ("DrumWords$Reader", "here", "I", false)
def tyX3 : Nat → FieldType := fun k => match k with
  | 0 => .object "DrumWords$Machine"
  | 1 => .array .byte
  | 2 => .int
  | _ => .int
abbrev wsX30 : List Cond := u_ws RX3 TX3 4
theorem nmX3 : ∀ a, a < 4 → ∀ b, b < 4 → a ≠ b → (TX3 a).2.1 ≠ (TX3 b).2.1 := by decide +kernel
theorem tyX3_ok : ∀ k, k < 4 → parseFieldDescriptor (TX3 k).2.2.1 = some (tyX3 k) := by decide +kernel
abbrev cX3_init : ByteArray := prog_5_method_1_code
def yX3_init : MethodName := ⟨RX3, "<init>", "()V"⟩
abbrev cX3_faultOf : ByteArray := prog_5_method_2_code
def yX3_faultOf : MethodName := ⟨RX3, "faultOf", "([BI)I"⟩
abbrev cX3_skipBlanks : ByteArray := prog_5_method_3_code
def yX3_skipBlanks : MethodName := ⟨RX3, "skipBlanks", "()V"⟩
abbrev cX3_readHead : ByteArray := prog_5_method_4_code
def yX3_readHead : MethodName := ⟨RX3, "readHead", "()Z"⟩
abbrev cX3_readWord : ByteArray := prog_5_method_5_code
def yX3_readWord : MethodName := ⟨RX3, "readWord", "(I)Z"⟩
abbrev cX3_readLetter : ByteArray := prog_5_method_6_code
def yX3_readLetter : MethodName := ⟨RX3, "readLetter", "()I"⟩
abbrev cX3_readPlace : ByteArray := prog_5_method_7_code
def yX3_readPlace : MethodName := ⟨RX3, "readPlace", "(I)Z"⟩
abbrev cX3_readFigure : ByteArray := prog_5_method_8_code
def yX3_readFigure : MethodName := ⟨RX3, "readFigure", "(II)I"⟩
abbrev cX3_tellsOnlyWords : ByteArray := prog_5_method_9_code
def yX3_tellsOnlyWords : MethodName := ⟨RX3, "tellsOnlyWords", "()Z"⟩
def RX4 : String := "DrumWords$Trace"
def TX4 : u_T := fun k => match k with
  | 0 => ("DrumWords$Trace", "read", "[I", true)
  | 1 => ("DrumWords$Trace", "workBehind", "[I", true)
  | 2 => ("DrumWords$Trace", "readsBy", "[I", true)
  | 3 => ("DrumWords$Trace", "reads", "I", false)
  | 4 => ("DrumWords$Trace", "steps", "I", false)
  | 5 => ("DrumWords$Trace", "beat", "I", false)
  | _ => ("DrumWords$Trace", "places", "I", false)
def tyX4 : Nat → FieldType := fun k => match k with
  | 0 => .array .int
  | 1 => .array .int
  | 2 => .array .int
  | 3 => .int
  | 4 => .int
  | 5 => .int
  | _ => .int
abbrev wsX40 : List Cond := u_ws RX4 TX4 7
theorem nmX4 : ∀ a, a < 7 → ∀ b, b < 7 → a ≠ b → (TX4 a).2.1 ≠ (TX4 b).2.1 := by decide +kernel
theorem tyX4_ok : ∀ k, k < 7 → parseFieldDescriptor (TX4 k).2.2.1 = some (tyX4 k) := by decide +kernel
abbrev cX4_init : ByteArray := prog_6_method_1_code
def yX4_init : MethodName := ⟨RX4, "<init>", "()V"⟩
abbrev cX4_follow : ByteArray := prog_6_method_2_code
def yX4_follow : MethodName := ⟨RX4, "follow", "(LDrumWords$Machine;I)V"⟩
abbrev cX4_addRead : ByteArray := prog_6_method_3_code
def yX4_addRead : MethodName := ⟨RX4, "addRead", "(I)V"⟩
abbrev cX4_busyBeats : ByteArray := prog_6_method_4_code
def yX4_busyBeats : MethodName := ⟨RX4, "busyBeats", "()I"⟩
abbrev cX4_beatBehind : ByteArray := prog_6_method_5_code
def yX4_beatBehind : MethodName := ⟨RX4, "beatBehind", "([III)I"⟩
abbrev cX4_beatsOf : ByteArray := prog_6_method_6_code
def yX4_beatsOf : MethodName := ⟨RX4, "beatsOf", "([II)I"⟩
abbrev cX4_fits : ByteArray := prog_6_method_7_code
def yX4_fits : MethodName := ⟨RX4, "fits", "([I[II)Z"⟩
def RX5 : String := "DrumWords"
def TX5 : u_T := fun k => match k with
  | 0 => ("DrumWords", "rows", "[[I", true)
  | 1 => ("DrumWords", "rowSizes", "[I", true)
  | 2 => ("DrumWords", "texts", "[[B", true)
  | 3 => ("DrumWords", "textSizes", "[I", true)
  | 4 => ("DrumWords", "drum", "LDrumWords$Drum;", true)
  | 5 => ("DrumWords", "kept", "[LDrumWords$Drum;", true)
  | 6 => ("DrumWords", "aside", "LDrumWords$Machine;", true)
  | 7 => ("DrumWords", "reader", "LDrumWords$Reader;", true)
  | 8 => ("DrumWords", "trace", "LDrumWords$Trace;", true)
  | 9 => ("DrumWords", "placing", "LDrumWords$Placing;", true)
  | 10 => ("DrumWords", "clocks", "[I", true)
  | 11 => ("DrumWords", "missWays", "[J", true)
  | 12 => ("DrumWords", "findingCounts", "[I", true)
  | 13 => ("DrumWords", "latestFinding", "I", false)
  | 14 => ("DrumWords", "told", "I", false)
  | 15 => ("DrumWords", "upperTold", "J", false)
  | _ => ("DrumWords", "lowerTold", "J", false)
def tyX5 : Nat → FieldType := fun k => match k with
  | 0 => .array (.array .int)
  | 1 => .array .int
  | 2 => .array (.array .byte)
  | 3 => .array .int
  | 4 => .object "DrumWords$Drum"
  | 5 => .array (.object "DrumWords$Drum")
  | 6 => .object "DrumWords$Machine"
  | 7 => .object "DrumWords$Reader"
  | 8 => .object "DrumWords$Trace"
  | 9 => .object "DrumWords$Placing"
  | 10 => .array .int
  | 11 => .array .long
  | 12 => .array .int
  | 13 => .int
  | 14 => .int
  | 15 => .long
  | _ => .long
abbrev wsX50 : List Cond := u_ws RX5 TX5 17
theorem nmX5 : ∀ a, a < 17 → ∀ b, b < 17 → a ≠ b → (TX5 a).2.1 ≠ (TX5 b).2.1 := by decide +kernel
theorem tyX5_ok : ∀ k, k < 17 → parseFieldDescriptor (TX5 k).2.2.1 = some (tyX5 k) := by decide +kernel
abbrev cX5_init : ByteArray := prog_1_method_1_code
def yX5_init : MethodName := ⟨RX5, "<init>", "()V"⟩
abbrev cX5_row : ByteArray := prog_1_method_2_code
def yX5_row : MethodName := ⟨RX5, "row", "(II)I"⟩
abbrev cX5_lay : ByteArray := prog_1_method_3_code
def yX5_lay : MethodName := ⟨RX5, "lay", "(III)I"⟩
abbrev cX5_at : ByteArray := prog_1_method_4_code
def yX5_at : MethodName := ⟨RX5, "at", "(II)I"⟩
abbrev cX5_tear : ByteArray := prog_1_method_5_code
def yX5_tear : MethodName := ⟨RX5, "tear", "(I)I"⟩
abbrev cX5_copy : ByteArray := prog_1_method_6_code
def yX5_copy : MethodName := ⟨RX5, "copy", "(IIIII)I"⟩
abbrev cX5_mean : ByteArray := prog_1_method_7_code
def yX5_mean : MethodName := ⟨RX5, "mean", "(I)I"⟩
abbrev cX5_text : ByteArray := prog_1_method_8_code
def yX5_text : MethodName := ⟨RX5, "text", "(II)I"⟩
abbrev cX5_put : ByteArray := prog_1_method_9_code
def yX5_put : MethodName := ⟨RX5, "put", "(III)I"⟩
abbrev cX5_fault : ByteArray := prog_1_method_10_code
def yX5_fault : MethodName := ⟨RX5, "fault", "(I)I"⟩
abbrev cX5_drum : ByteArray := prog_1_method_11_code
def yX5_drum : MethodName := ⟨RX5, "drum", "(I)I"⟩
abbrev cX5_word : ByteArray := prog_1_method_12_code
def yX5_word : MethodName := ⟨RX5, "word", "(II)I"⟩
abbrev cX5_mark : ByteArray := prog_1_method_13_code
def yX5_mark : MethodName := ⟨RX5, "mark", "(II)I"⟩
abbrev cX5_waits : ByteArray := prog_1_method_14_code
def yX5_waits : MethodName := ⟨RX5, "waits", "(II)I"⟩
abbrev cX5_step : ByteArray := prog_1_method_15_code
def yX5_step : MethodName := ⟨RX5, "step", "()I"⟩
abbrev cX5_move : ByteArray := prog_1_method_16_code
def yX5_move : MethodName := ⟨RX5, "move", "(II)I"⟩
abbrev cX5_swap : ByteArray := prog_1_method_17_code
def yX5_swap : MethodName := ⟨RX5, "swap", "(II)I"⟩
abbrev cX5_value : ByteArray := prog_1_method_18_code
def yX5_value : MethodName := ⟨RX5, "value", "(II)I"⟩
abbrev cX5_undo : ByteArray := prog_1_method_19_code
def yX5_undo : MethodName := ⟨RX5, "undo", "(I)I"⟩
abbrev cX5_keep : ByteArray := prog_1_method_20_code
def yX5_keep : MethodName := ⟨RX5, "keep", "(I)I"⟩
abbrev cX5_on : ByteArray := prog_1_method_21_code
def yX5_on : MethodName := ⟨RX5, "on", "(I)I"⟩
abbrev cX5_takes : ByteArray := prog_1_method_22_code
def yX5_takes : MethodName := ⟨RX5, "takes", "(I)I"⟩
abbrev cX5_idle : ByteArray := prog_1_method_23_code
def yX5_idle : MethodName := ⟨RX5, "idle", "(I)I"⟩
abbrev cX5_stops : ByteArray := prog_1_method_24_code
def yX5_stops : MethodName := ⟨RX5, "stops", "()I"⟩
abbrev cX5_when : ByteArray := prog_1_method_25_code
def yX5_when : MethodName := ⟨RX5, "when", "(II)I"⟩
abbrev cX5_place : ByteArray := prog_1_method_26_code
def yX5_place : MethodName := ⟨RX5, "place", "(II)I"⟩
abbrev cX5_best : ByteArray := prog_1_method_27_code
def yX5_best : MethodName := ⟨RX5, "best", "(I)I"⟩
abbrev cX5_least : ByteArray := prog_1_method_28_code
def yX5_least : MethodName := ⟨RX5, "least", "(II)I"⟩
abbrev cX5_clerk : ByteArray := prog_1_method_29_code
def yX5_clerk : MethodName := ⟨RX5, "clerk", "(II)I"⟩
abbrev cX5_lies : ByteArray := prog_1_method_30_code
def yX5_lies : MethodName := ⟨RX5, "lies", "(II)I"⟩
abbrev cX5_kinds : ByteArray := prog_1_method_31_code
def yX5_kinds : MethodName := ⟨RX5, "kinds", "(II)I"⟩
abbrev cX5_watch : ByteArray := prog_1_method_32_code
def yX5_watch : MethodName := ⟨RX5, "watch", "(I)I"⟩
abbrev cX5_duel : ByteArray := prog_1_method_33_code
def yX5_duel : MethodName := ⟨RX5, "duel", "(I)I"⟩
abbrev cX5_odds : ByteArray := prog_1_method_34_code
def yX5_odds : MethodName := ⟨RX5, "odds", "(III)I"⟩
abbrev cX5_mid : ByteArray := prog_1_method_35_code
def yX5_mid : MethodName := ⟨RX5, "mid", "(II)I"⟩
abbrev cX5_lots : ByteArray := prog_1_method_36_code
def yX5_lots : MethodName := ⟨RX5, "lots", "(II)I"⟩
abbrev cX5_asked : ByteArray := prog_1_method_37_code
def yX5_asked : MethodName := ⟨RX5, "asked", "()I"⟩
abbrev cX5_upper : ByteArray := prog_1_method_38_code
def yX5_upper : MethodName := ⟨RX5, "upper", "()J"⟩
abbrev cX5_lower : ByteArray := prog_1_method_39_code
def yX5_lower : MethodName := ⟨RX5, "lower", "()J"⟩
abbrev cX5_count : ByteArray := prog_1_method_40_code
def yX5_count : MethodName := ⟨RX5, "count", "(I)I"⟩
abbrev cX5_finding : ByteArray := prog_1_method_41_code
def yX5_finding : MethodName := ⟨RX5, "finding", "()I"⟩
abbrev cX5_findings : ByteArray := prog_1_method_42_code
def yX5_findings : MethodName := ⟨RX5, "findings", "(I)I"⟩
abbrev cX5_digest : ByteArray := prog_1_method_43_code
def yX5_digest : MethodName := ⟨RX5, "digest", "()J"⟩
abbrev cX5_isWithin : ByteArray := prog_1_method_44_code
def yX5_isWithin : MethodName := ⟨RX5, "isWithin", "(III)Z"⟩
abbrev cX5_isRow : ByteArray := prog_1_method_45_code
def yX5_isRow : MethodName := ⟨RX5, "isRow", "(I)Z"⟩
abbrev cX5_isText : ByteArray := prog_1_method_46_code
def yX5_isText : MethodName := ⟨RX5, "isText", "(I)Z"⟩
abbrev cX5_waitFor : ByteArray := prog_1_method_47_code
def yX5_waitFor : MethodName := ⟨RX5, "waitFor", "(III)I"⟩
abbrev cX5_lyingAt : ByteArray := prog_1_method_48_code
def yX5_lyingAt : MethodName := ⟨RX5, "lyingAt", "([III)I"⟩
abbrev cX5_exchange : ByteArray := prog_1_method_49_code
def yX5_exchange : MethodName := ⟨RX5, "exchange", "([III)V"⟩
abbrev cX5_hasNoWords : ByteArray := prog_1_method_50_code
def yX5_hasNoWords : MethodName := ⟨RX5, "hasNoWords", "()Z"⟩
abbrev cX5_refuse : ByteArray := prog_1_method_51_code
def yX5_refuse : MethodName := ⟨RX5, "refuse", "(I)I"⟩
abbrev cX5_refusedPlace : ByteArray := prog_1_method_52_code
def yX5_refusedPlace : MethodName := ⟨RX5, "refusedPlace", "(II)I"⟩
abbrev cX5_rowHolds : ByteArray := prog_1_method_53_code
def yX5_rowHolds : MethodName := ⟨RX5, "rowHolds", "(III)Z"⟩
abbrev cX5_refusedSteps : ByteArray := prog_1_method_54_code
def yX5_refusedSteps : MethodName := ⟨RX5, "refusedSteps", "(II)I"⟩
abbrev cX5_refusedChances : ByteArray := prog_1_method_55_code
def yX5_refusedChances : MethodName := ⟨RX5, "refusedChances", "(II)I"⟩
abbrev cX5_refusedTimes : ByteArray := prog_1_method_56_code
def yX5_refusedTimes : MethodName := ⟨RX5, "refusedTimes", "(II)I"⟩
abbrev cX5_layPlaces : ByteArray := prog_1_method_57_code
def yX5_layPlaces : MethodName := ⟨RX5, "layPlaces", "(I[I)V"⟩
abbrev cX5_followSteps : ByteArray := prog_1_method_58_code
def yX5_followSteps : MethodName := ⟨RX5, "followSteps", "(I)V"⟩
abbrev cX5_tellShare : ByteArray := prog_1_method_59_code
def yX5_tellShare : MethodName := ⟨RX5, "tellShare", "(JJ)V"⟩
abbrev cX5_beginClocks : ByteArray := prog_1_method_60_code
def yX5_beginClocks : MethodName := ⟨RX5, "beginClocks", "(I)V"⟩
abbrev cX5_turnClocks : ByteArray := prog_1_method_61_code
def yX5_turnClocks : MethodName := ⟨RX5, "turnClocks", "(II)V"⟩
abbrev cX5_greatestPart : ByteArray := prog_1_method_62_code
def yX5_greatestPart : MethodName := ⟨RX5, "greatestPart", "()I"⟩
abbrev cX5_spreadMiss : ByteArray := prog_1_method_63_code
def yX5_spreadMiss : MethodName := ⟨RX5, "spreadMiss", "(I)V"⟩
abbrev cX5_doLot : ByteArray := prog_1_method_64_code
def yX5_doLot : MethodName := ⟨RX5, "doLot", "(J)V"⟩
abbrev cX5_thereOf : ByteArray := prog_1_method_65_code
def yX5_thereOf : MethodName := ⟨RX5, "thereOf", "([I)I"⟩
abbrev cX5_keptDrums : ByteArray := prog_1_method_66_code
def yX5_keptDrums : MethodName := ⟨RX5, "keptDrums", "()I"⟩
def RX6 : String := "DrumWordsModel"
def TX6 : u_T := fun k => match k with
  | 0 => ("DrumWordsModel", "row", "[I", true)
  | 1 => ("DrumWordsModel", "places", "I", false)
  | 2 => ("DrumWordsModel", "words", "I", false)
  | 3 => ("DrumWordsModel", "kinds", "[I", true)
  | 4 => ("DrumWordsModel", "with", "[I", true)
  | 5 => ("DrumWordsModel", "next", "[I", true)
  | 6 => ("DrumWordsModel", "sizes", "[I", true)
  | 7 => ("DrumWordsModel", "items", "[I", true)
  | 8 => ("DrumWordsModel", "lengths", "[I", true)
  | 9 => ("DrumWordsModel", "bytes", "[I", true)
  | 10 => ("DrumWordsModel", "asked", "I", false)
  | 11 => ("DrumWordsModel", "upper", "J", false)
  | 12 => ("DrumWordsModel", "lower", "J", false)
  | 13 => ("DrumWordsModel", "finding", "I", false)
  | 14 => ("DrumWordsModel", "findings", "[I", true)
  | 15 => ("DrumWordsModel", "from", "I", false)
  | 16 => ("DrumWordsModel", "place", "I", false)
  | 17 => ("DrumWordsModel", "end", "I", false)
  | 18 => ("DrumWordsModel", "readPlaces", "I", false)
  | 19 => ("DrumWordsModel", "readWords", "[I", true)
  | 20 => ("DrumWordsModel", "readMany", "I", false)
  | 21 => ("DrumWordsModel", "waited", "I", false)
  | 22 => ("DrumWordsModel", "readings", "I", false)
  | 23 => ("DrumWordsModel", "isLaid", "Z", false)
  | 24 => ("DrumWordsModel", "line", "[I", true)
  | 25 => ("DrumWordsModel", "bestLine", "[I", true)
  | 26 => ("DrumWordsModel", "pairs", "[I", true)
  | _ => ("DrumWordsModel", "bests", "[I", true)
def tyX6 : Nat → FieldType := fun k => match k with
  | 0 => .array .int
  | 1 => .int
  | 2 => .int
  | 3 => .array .int
  | 4 => .array .int
  | 5 => .array .int
  | 6 => .array .int
  | 7 => .array .int
  | 8 => .array .int
  | 9 => .array .int
  | 10 => .int
  | 11 => .long
  | 12 => .long
  | 13 => .int
  | 14 => .array .int
  | 15 => .int
  | 16 => .int
  | 17 => .int
  | 18 => .int
  | 19 => .array .int
  | 20 => .int
  | 21 => .int
  | 22 => .int
  | 23 => .boolean
  | 24 => .array .int
  | 25 => .array .int
  | 26 => .array .int
  | _ => .array .int
abbrev wsX60 : List Cond := u_ws RX6 TX6 28
theorem nmX6 : ∀ a, a < 28 → ∀ b, b < 28 → a ≠ b → (TX6 a).2.1 ≠ (TX6 b).2.1 := by decide +kernel
theorem tyX6_ok : ∀ k, k < 28 → parseFieldDescriptor (TX6 k).2.2.1 = some (tyX6 k) := by decide +kernel
abbrev cX6_init : ByteArray := prog_8_method_1_code
def yX6_init : MethodName := ⟨RX6, "<init>", "()V"⟩
abbrev cX6_in : ByteArray := prog_8_method_2_code
def yX6_in : MethodName := ⟨RX6, "in", "(JJJ)Z"⟩
abbrev cX6_has : ByteArray := prog_8_method_3_code
def yX6_has : MethodName := ⟨RX6, "has", "(II)Z"⟩
abbrev cX6_find : ByteArray := prog_8_method_4_code
def yX6_find : MethodName := ⟨RX6, "find", "(I)I"⟩
abbrev cX6_tell : ByteArray := prog_8_method_5_code
def yX6_tell : MethodName := ⟨RX6, "tell", "(I)I"⟩
abbrev cX6_isRow : ByteArray := prog_8_method_6_code
def yX6_isRow : MethodName := ⟨RX6, "isRow", "(I)Z"⟩
abbrev cX6_isText : ByteArray := prog_8_method_7_code
def yX6_isText : MethodName := ⟨RX6, "isText", "(I)Z"⟩
abbrev cX6_row : ByteArray := prog_8_method_8_code
def yX6_row : MethodName := ⟨RX6, "row", "(II)I"⟩
abbrev cX6_makeRow : ByteArray := prog_8_method_9_code
def yX6_makeRow : MethodName := ⟨RX6, "makeRow", "(II)V"⟩
abbrev cX6_refused : ByteArray := prog_8_method_10_code
def yX6_refused : MethodName := ⟨RX6, "refused", "(II)I"⟩
abbrev cX6_lay : ByteArray := prog_8_method_11_code
def yX6_lay : MethodName := ⟨RX6, "lay", "(III)I"⟩
abbrev cX6_at : ByteArray := prog_8_method_12_code
def yX6_at : MethodName := ⟨RX6, "at", "(II)I"⟩
abbrev cX6_tear : ByteArray := prog_8_method_13_code
def yX6_tear : MethodName := ⟨RX6, "tear", "(I)I"⟩
abbrev cX6_isSpan : ByteArray := prog_8_method_14_code
def yX6_isSpan : MethodName := ⟨RX6, "isSpan", "(III)Z"⟩
abbrev cX6_copy : ByteArray := prog_8_method_15_code
def yX6_copy : MethodName := ⟨RX6, "copy", "(IIIII)I"⟩
abbrev cX6_mean : ByteArray := prog_8_method_16_code
def yX6_mean : MethodName := ⟨RX6, "mean", "(I)I"⟩
abbrev cX6_text : ByteArray := prog_8_method_17_code
def yX6_text : MethodName := ⟨RX6, "text", "(II)I"⟩
abbrev cX6_put : ByteArray := prog_8_method_18_code
def yX6_put : MethodName := ⟨RX6, "put", "(III)I"⟩
abbrev cX6_here : ByteArray := prog_8_method_19_code
def yX6_here : MethodName := ⟨RX6, "here", "()I"⟩
abbrev cX6_skip : ByteArray := prog_8_method_20_code
def yX6_skip : MethodName := ⟨RX6, "skip", "()V"⟩
abbrev cX6_figure : ByteArray := prog_8_method_21_code
def yX6_figure : MethodName := ⟨RX6, "figure", "(II)I"⟩
abbrev cX6_readsPlaces : ByteArray := prog_8_method_22_code
def yX6_readsPlaces : MethodName := ⟨RX6, "readsPlaces", "()Z"⟩
abbrev cX6_kindOfLetter : ByteArray := prog_8_method_23_code
def yX6_kindOfLetter : MethodName := ⟨RX6, "kindOfLetter", "(I)I"⟩
abbrev cX6_isTaken : ByteArray := prog_8_method_24_code
def yX6_isTaken : MethodName := ⟨RX6, "isTaken", "(I)Z"⟩
abbrev cX6_readsWord : ByteArray := prog_8_method_25_code
def yX6_readsWord : MethodName := ⟨RX6, "readsWord", "()Z"⟩
abbrev cX6_areAllThere : ByteArray := prog_8_method_26_code
def yX6_areAllThere : MethodName := ⟨RX6, "areAllThere", "()Z"⟩
abbrev cX6_faultOf : ByteArray := prog_8_method_27_code
def yX6_faultOf : MethodName := ⟨RX6, "faultOf", "(I)I"⟩
abbrev cX6_fault : ByteArray := prog_8_method_28_code
def yX6_fault : MethodName := ⟨RX6, "fault", "(I)I"⟩
abbrev cX6_drum : ByteArray := prog_8_method_29_code
def yX6_drum : MethodName := ⟨RX6, "drum", "(I)I"⟩
abbrev cX6_isWord : ByteArray := prog_8_method_30_code
def yX6_isWord : MethodName := ⟨RX6, "isWord", "(I)Z"⟩
abbrev cX6_waitsFor : ByteArray := prog_8_method_31_code
def yX6_waitsFor : MethodName := ⟨RX6, "waitsFor", "(II)I"⟩
abbrev cX6_layWord : ByteArray := prog_8_method_32_code
def yX6_layWord : MethodName := ⟨RX6, "layWord", "(II)V"⟩
abbrev cX6_isFree : ByteArray := prog_8_method_33_code
def yX6_isFree : MethodName := ⟨RX6, "isFree", "(II)Z"⟩
abbrev cX6_reads : ByteArray := prog_8_method_34_code
def yX6_reads : MethodName := ⟨RX6, "reads", "(II)V"⟩
abbrev cX6_worksBy : ByteArray := prog_8_method_35_code
def yX6_worksBy : MethodName := ⟨RX6, "worksBy", "(II)I"⟩
abbrev cX6_goes : ByteArray := prog_8_method_36_code
def yX6_goes : MethodName := ⟨RX6, "goes", "(I)V"⟩
abbrev cX6_toldOf : ByteArray := prog_8_method_37_code
def yX6_toldOf : MethodName := ⟨RX6, "toldOf", "(II)I"⟩
abbrev cX6_word : ByteArray := prog_8_method_38_code
def yX6_word : MethodName := ⟨RX6, "word", "(II)I"⟩
abbrev cX6_isOf : ByteArray := prog_8_method_39_code
def yX6_isOf : MethodName := ⟨RX6, "isOf", "(II)Z"⟩
abbrev cX6_mark : ByteArray := prog_8_method_40_code
def yX6_mark : MethodName := ⟨RX6, "mark", "(II)I"⟩
abbrev cX6_waits : ByteArray := prog_8_method_41_code
def yX6_waits : MethodName := ⟨RX6, "waits", "(II)I"⟩
abbrev cX6_keepPast : ByteArray := prog_8_method_42_code
def yX6_keepPast : MethodName := ⟨RX6, "keepPast", "()V"⟩
abbrev cX6_step : ByteArray := prog_8_method_43_code
def yX6_step : MethodName := ⟨RX6, "step", "()I"⟩
abbrev cX6_move : ByteArray := prog_8_method_44_code
def yX6_move : MethodName := ⟨RX6, "move", "(II)I"⟩
abbrev cX6_swaps : ByteArray := prog_8_method_45_code
def yX6_swaps : MethodName := ⟨RX6, "swaps", "(III)V"⟩
abbrev cX6_swap : ByteArray := prog_8_method_46_code
def yX6_swap : MethodName := ⟨RX6, "swap", "(II)I"⟩
abbrev cX6_value : ByteArray := prog_8_method_47_code
def yX6_value : MethodName := ⟨RX6, "value", "(II)I"⟩
abbrev cX6_undo : ByteArray := prog_8_method_48_code
def yX6_undo : MethodName := ⟨RX6, "undo", "(I)I"⟩
abbrev cX6_copyDrum : ByteArray := prog_8_method_49_code
def yX6_copyDrum : MethodName := ⟨RX6, "copyDrum", "(II)V"⟩
abbrev cX6_keep : ByteArray := prog_8_method_50_code
def yX6_keep : MethodName := ⟨RX6, "keep", "(I)I"⟩
abbrev cX6_on : ByteArray := prog_8_method_51_code
def yX6_on : MethodName := ⟨RX6, "on", "(I)I"⟩
abbrev cX6_layTried : ByteArray := prog_8_method_52_code
def yX6_layTried : MethodName := ⟨RX6, "layTried", "()V"⟩
abbrev cX6_beatsTried : ByteArray := prog_8_method_53_code
def yX6_beatsTried : MethodName := ⟨RX6, "beatsTried", "(I)I"⟩
abbrev cX6_noSteps : ByteArray := prog_8_method_54_code
def yX6_noSteps : MethodName := ⟨RX6, "noSteps", "(II)I"⟩
abbrev cX6_takes : ByteArray := prog_8_method_55_code
def yX6_takes : MethodName := ⟨RX6, "takes", "(I)I"⟩
abbrev cX6_tellParts : ByteArray := prog_8_method_56_code
def yX6_tellParts : MethodName := ⟨RX6, "tellParts", "(JJ)V"⟩
abbrev cX6_idle : ByteArray := prog_8_method_57_code
def yX6_idle : MethodName := ⟨RX6, "idle", "(I)I"⟩
abbrev cX6_stops : ByteArray := prog_8_method_58_code
def yX6_stops : MethodName := ⟨RX6, "stops", "()I"⟩
abbrev cX6_when : ByteArray := prog_8_method_59_code
def yX6_when : MethodName := ⟨RX6, "when", "(II)I"⟩
abbrev cX6_beatsAt : ByteArray := prog_8_method_60_code
def yX6_beatsAt : MethodName := ⟨RX6, "beatsAt", "(III)I"⟩
abbrev cX6_mayLie : ByteArray := prog_8_method_61_code
def yX6_mayLie : MethodName := ⟨RX6, "mayLie", "(II)Z"⟩
abbrev cX6_place : ByteArray := prog_8_method_62_code
def yX6_place : MethodName := ⟨RX6, "place", "(II)I"⟩
abbrev cX6_best : ByteArray := prog_8_method_63_code
def yX6_best : MethodName := ⟨RX6, "best", "(I)I"⟩
abbrev cX6_areUnlike : ByteArray := prog_8_method_64_code
def yX6_areUnlike : MethodName := ⟨RX6, "areUnlike", "()Z"⟩
abbrev cX6_nextLine : ByteArray := prog_8_method_65_code
def yX6_nextLine : MethodName := ⟨RX6, "nextLine", "()Z"⟩
abbrev cX6_beatsByLine : ByteArray := prog_8_method_66_code
def yX6_beatsByLine : MethodName := ⟨RX6, "beatsByLine", "(I)I"⟩
abbrev cX6_noPlacing : ByteArray := prog_8_method_67_code
def yX6_noPlacing : MethodName := ⟨RX6, "noPlacing", "(II)I"⟩
abbrev cX6_least : ByteArray := prog_8_method_68_code
def yX6_least : MethodName := ⟨RX6, "least", "(II)I"⟩
abbrev cX6_clerk : ByteArray := prog_8_method_69_code
def yX6_clerk : MethodName := ⟨RX6, "clerk", "(II)I"⟩
abbrev cX6_noBeats : ByteArray := prog_8_method_70_code
def yX6_noBeats : MethodName := ⟨RX6, "noBeats", "(I)I"⟩
abbrev cX6_isSo : ByteArray := prog_8_method_71_code
def yX6_isSo : MethodName := ⟨RX6, "isSo", "(I)Z"⟩
abbrev cX6_lies : ByteArray := prog_8_method_72_code
def yX6_lies : MethodName := ⟨RX6, "lies", "(II)I"⟩
abbrev cX6_kinds : ByteArray := prog_8_method_73_code
def yX6_kinds : MethodName := ⟨RX6, "kinds", "(II)I"⟩
abbrev cX6_greatestPart : ByteArray := prog_8_method_74_code
def yX6_greatestPart : MethodName := ⟨RX6, "greatestPart", "(II)I"⟩
abbrev cX6_watch : ByteArray := prog_8_method_75_code
def yX6_watch : MethodName := ⟨RX6, "watch", "(I)I"⟩
abbrev cX6_swapsPair : ByteArray := prog_8_method_76_code
def yX6_swapsPair : MethodName := ⟨RX6, "swapsPair", "(I)V"⟩
abbrev cX6_eightSteps : ByteArray := prog_8_method_77_code
def yX6_eightSteps : MethodName := ⟨RX6, "eightSteps", "()I"⟩
abbrev cX6_isPair : ByteArray := prog_8_method_78_code
def yX6_isPair : MethodName := ⟨RX6, "isPair", "(I)Z"⟩
abbrev cX6_better : ByteArray := prog_8_method_79_code
def yX6_better : MethodName := ⟨RX6, "better", "(III)I"⟩
abbrev cX6_beginTurn : ByteArray := prog_8_method_80_code
def yX6_beginTurn : MethodName := ⟨RX6, "beginTurn", "(I)V"⟩
abbrev cX6_duel : ByteArray := prog_8_method_81_code
def yX6_duel : MethodName := ⟨RX6, "duel", "(I)I"⟩
abbrev cX6_waysOf : ByteArray := prog_8_method_82_code
def yX6_waysOf : MethodName := ⟨RX6, "waysOf", "(III)J"⟩
abbrev cX6_tellMisses : ByteArray := prog_8_method_83_code
def yX6_tellMisses : MethodName := ⟨RX6, "tellMisses", "(IIIZ)I"⟩
abbrev cX6_odds : ByteArray := prog_8_method_84_code
def yX6_odds : MethodName := ⟨RX6, "odds", "(III)I"⟩
abbrev cX6_mid : ByteArray := prog_8_method_85_code
def yX6_mid : MethodName := ⟨RX6, "mid", "(II)I"⟩
abbrev cX6_lots : ByteArray := prog_8_method_86_code
def yX6_lots : MethodName := ⟨RX6, "lots", "(II)I"⟩
abbrev cX6_asked : ByteArray := prog_8_method_87_code
def yX6_asked : MethodName := ⟨RX6, "asked", "()I"⟩
abbrev cX6_upper : ByteArray := prog_8_method_88_code
def yX6_upper : MethodName := ⟨RX6, "upper", "()J"⟩
abbrev cX6_lower : ByteArray := prog_8_method_89_code
def yX6_lower : MethodName := ⟨RX6, "lower", "()J"⟩
abbrev cX6_those : ByteArray := prog_8_method_90_code
def yX6_those : MethodName := ⟨RX6, "those", "(I)I"⟩
abbrev cX6_thereOf : ByteArray := prog_8_method_91_code
def yX6_thereOf : MethodName := ⟨RX6, "thereOf", "(I)I"⟩
abbrev cX6_countOf : ByteArray := prog_8_method_92_code
def yX6_countOf : MethodName := ⟨RX6, "countOf", "(I)I"⟩
abbrev cX6_count : ByteArray := prog_8_method_93_code
def yX6_count : MethodName := ⟨RX6, "count", "(I)I"⟩
abbrev cX6_finding : ByteArray := prog_8_method_94_code
def yX6_finding : MethodName := ⟨RX6, "finding", "()I"⟩
abbrev cX6_findings : ByteArray := prog_8_method_95_code
def yX6_findings : MethodName := ⟨RX6, "findings", "(I)I"⟩
abbrev cX6_digest : ByteArray := prog_8_method_96_code
def yX6_digest : MethodName := ⟨RX6, "digest", "()J"⟩
def RJ9 : String := "java/lang/Math"
def TJ9 : u_T := fun k => match k with
  | _ => ("", "", "", false)
def tyJ9 : Nat → FieldType := fun k => match k with
  | _ => .int
abbrev wsJ90 : List Cond := u_ws RJ9 TJ9 0
theorem nmJ9 : ∀ a, a < 0 → ∀ b, b < 0 → a ≠ b → (TJ9 a).2.1 ≠ (TJ9 b).2.1 := by decide +kernel
theorem tyJ9_ok : ∀ k, k < 0 → parseFieldDescriptor (TJ9 k).2.2.1 = some (tyJ9 k) := by decide +kernel
abbrev cJ9_floorMod_7cf53 : ByteArray := prog_9_method_50_code
def yJ9_floorMod_7cf53 : MethodName := ⟨RJ9, "floorMod", "(II)I"⟩
abbrev cJ9_max_7cf53 : ByteArray := prog_9_method_65_code
def yJ9_max_7cf53 : MethodName := ⟨RJ9, "max", "(II)I"⟩
abbrev cJ9_min_7cf53 : ByteArray := prog_9_method_69_code
def yJ9_min_7cf53 : MethodName := ⟨RJ9, "min", "(II)I"⟩
def RJ10 : String := "java/lang/System"
def TJ10 : u_T := fun k => match k with
  | _ => ("", "", "", false)
def tyJ10 : Nat → FieldType := fun k => match k with
  | _ => .int
abbrev wsJ100 : List Cond := u_ws RJ10 TJ10 0
theorem nmJ10 : ∀ a, a < 0 → ∀ b, b < 0 → a ≠ b → (TJ10 a).2.1 ≠ (TJ10 b).2.1 := by decide +kernel
theorem tyJ10_ok : ∀ k, k < 0 → parseFieldDescriptor (TJ10 k).2.2.1 = some (tyJ10 k) := by decide +kernel
def RJ7 : String := "java/util/Arrays"
def TJ7 : u_T := fun k => match k with
  | _ => ("", "", "", false)
def tyJ7 : Nat → FieldType := fun k => match k with
  | _ => .int
abbrev wsJ70 : List Cond := u_ws RJ7 TJ7 0
theorem nmJ7 : ∀ a, a < 0 → ∀ b, b < 0 → a ≠ b → (TJ7 a).2.1 ≠ (TJ7 b).2.1 := by decide +kernel
theorem tyJ7_ok : ∀ k, k < 0 → parseFieldDescriptor (TJ7 k).2.2.1 = some (tyJ7 k) := by decide +kernel
abbrev cJ7_fill_d0a16 : ByteArray := prog_11_method_101_code
def yJ7_fill_d0a16 : MethodName := ⟨RJ7, "fill", "([JJ)V"⟩
abbrev cJ7_fill_53178 : ByteArray := prog_11_method_103_code
def yJ7_fill_53178 : MethodName := ⟨RJ7, "fill", "([II)V"⟩
abbrev cJ7_fill_031fb : ByteArray := prog_11_method_109_code
def yJ7_fill_031fb : MethodName := ⟨RJ7, "fill", "([BB)V"⟩
def RL : String := "DrumWordsLaw"
abbrev cL_law : ByteArray := code
def yL_law : MethodName := ⟨RL, "law", "([I)Z"⟩
abbrev vwCl : List vw_C := [(RX0, TX0, 6), (RX1, TX1, 12), (RX2, TX2, 7), (RX3, TX3, 4), (RX4, TX4, 7), (RX5, TX5, 17), (RX6, TX6, 28)]
end
section
/-- the kinds of the fields of each class: 0 int, 1 long, 2 reference, 3 boolean. Written by gen.py -/
def dz_FT : List (List Nat) := [[2, 2, 0, 2, 2, 2], [0, 0, 0, 0, 0, 0, 2, 2, 2, 2, 2, 2], [2, 2, 2, 2, 0, 0, 0], [2, 2, 0, 0], [2, 2, 2, 0, 0, 0, 0], [2, 2, 2, 2, 2, 2, 2, 2, 2, 2, 2, 2, 2, 0, 0, 1, 1], [2, 0, 0, 2, 2, 2, 2, 2, 2, 2, 0, 1, 1, 0, 2, 0, 0, 0, 0, 2, 0, 0, 0, 3, 2, 2, 2, 2]]
def dz_ft (ci k : Nat) : Nat := (dz_FT.getD ci []).getD k 2
def dz_nf (ci : Nat) : Nat := (dz_FT.getD ci []).length
end
section
/-! A SMALL MACHINE of whole numbers: what a method of the claim does, said over numbered cells. Its rows are tied to the real machine once (parts 05 ..); methods are then walked here. -/
/-- a value: an int, a long, a cell of the world, an array that was there before -/
abbrev dz_V : Type := Int ⊕ (Int ⊕ (Nat ⊕ Nat))
abbrev dz_i (x : Int) : dz_V := Sum.inl x
abbrev dz_l (x : Int) : dz_V := Sum.inr (Sum.inl x)
abbrev dz_r (q : Nat) : dz_V := Sum.inr (Sum.inr (Sum.inl q))
abbrev dz_o (o : Nat) : dz_V := Sum.inr (Sum.inr (Sum.inr o))
abbrev dz_L : Type := List (Option dz_V)
/-- shapes of the cells (an object of a class, an array of a kind and length), references (0 null, q + 1 cell q), numbers -/
abbrev dz_G : Type := List (Nat ⊕ (Nat × Nat)) × (Nat → Nat → Nat) × (Nat → Nat → Int)
abbrev dz_I : Type := Instr × Int × Nat × Nat × Nat
/-- a method: code, locals, new cells, new slots, kind of answer (0 none, 1 int, 2 boolean, 3 long) -/
abbrev dz_P : Type := List (Nat × dz_I) × Nat × Nat × Nat × Nat
abbrev dz_Q : Type := Option dz_V → dz_G → Prop
abbrev dz_R : Type := Nat → dz_L → List dz_V → Nat → Nat → dz_G → Prop
abbrev dz_C : Type := Nat → List dz_V → dz_G → dz_Q → Prop
def dz_w (x : Int) : Int := (x + 2147483648) % 4294967296 - 2147483648
def dz_W (x : Int) : Int := (x + 9223372036854775808) % 18446744073709551616 - 9223372036854775808
def dz_b (x : Int) : Int := (x + 128) % 256 - 128
def dz_up {α : Type} (f : Nat → Nat → α) (q k : Nat) (v : α) : Nat → Nat → α := fun q' k' => if q' = q ∧ k' = k then v else f q' k'
def dz_fetch : List (Nat × dz_I) → Nat → dz_I
  | [], _ => (.nop, 0, 0, 0, 0)
  | x :: K, pc => bif Nat.beq x.1 pc then x.2 else dz_fetch K pc
def dz_cat : dz_V → Nat
  | .inr (.inl _) => 2
  | _ => 1
def dz_cats : List dz_V → Nat
  | [] => 0
  | v :: st => dz_cat v + dz_cats st
def dz_ldi (L : dz_L) (k : Nat) (f : Int → Prop) : Prop := match L[k]? with
  | some (some (.inl x)) => f x
  | _ => False
def dz_ldl (L : dz_L) (k : Nat) (f : Int → Prop) : Prop := match L[k]? with
  | some (some (.inr (.inl x))) => f x
  | _ => False
def dz_lda (L : dz_L) (k : Nat) (f : Nat ⊕ Nat → Prop) : Prop := match L[k]? with
  | some (some (.inr (.inr x))) => f x
  | _ => False
def dz_clr (L : dz_L) : Nat → dz_L
  | 0 => L
  | k + 1 => match L[k]? with
    | some (some (.inr (.inl _))) => L.set k none
    | _ => L
def dz_st1 (L : dz_L) (k : Nat) (v : dz_V) (f : dz_L → Prop) : Prop := match L[k]? with
  | some _ => f ((dz_clr L k).set k (some v))
  | none => False
def dz_st2 (L : dz_L) (k : Nat) (v : dz_V) (f : dz_L → Prop) : Prop := match L[k + 1]? with
  | some _ => f (((dz_clr L k).set k (some v)).set (k + 1) none)
  | none => False
def dz_ui (st : List dz_V) (f : Int → List dz_V → Prop) : Prop := match st with
  | .inl x :: st => f x st
  | _ => False
def dz_ul (st : List dz_V) (f : Int → List dz_V → Prop) : Prop := match st with
  | .inr (.inl x) :: st => f x st
  | _ => False
def dz_ua (st : List dz_V) (f : Nat ⊕ Nat → List dz_V → Prop) : Prop := match st with
  | .inr (.inr x) :: st => f x st
  | _ => False
def dz_uq (st : List dz_V) (f : Nat → List dz_V → Prop) : Prop := match st with
  | .inr (.inr (.inl q)) :: st => f q st
  | _ => False
def dz_bi (st : List dz_V) (f : Int → Int → List dz_V → Prop) : Prop := match st with
  | .inl y :: .inl x :: st => f x y st
  | _ => False
def dz_bl (st : List dz_V) (f : Int → Int → List dz_V → Prop) : Prop := match st with
  | .inr (.inl y) :: .inr (.inl x) :: st => f x y st
  | _ => False
def dz_and (x y : Int) : Int := (Int32.ofInt x &&& Int32.ofInt y).toInt
def dz_or (x y : Int) : Int := (Int32.ofInt x ||| Int32.ofInt y).toInt
def dz_shl (x y : Int) : Int := (Int32.ofInt x <<< (Int32.ofInt y &&& 31)).toInt
def dz_shr (x y : Int) : Int := (Int32.ofInt x >>> (Int32.ofInt y &&& 31)).toInt
def dz_lcmp (x y : Int) : Int := if y < x then 1 else if x = y then 0 else -1
def dz_gf (g : dz_G) (t q k : Nat) (f : dz_V → Prop) : Prop := match t with
  | 0 => f (dz_i (g.2.2 q k))
  | 1 => f (dz_l (g.2.2 q k))
  | 2 => match g.2.1 q k with
    | 0 => False
    | r + 1 => f (dz_r r)
  | _ => f (dz_i (g.2.2 q k))
def dz_pf (g : dz_G) (t q k : Nat) (v : dz_V) (f : dz_G → Prop) : Prop := match t, v with
  | 0, .inl x => f (g.1, g.2.1, dz_up g.2.2 q k x)
  | 1, .inr (.inl x) => f (g.1, g.2.1, dz_up g.2.2 q k x)
  | 2, .inr (.inr (.inl r)) => f (g.1, dz_up g.2.1 q k (r + 1), g.2.2)
  | 3, .inl x => (x = 0 ∨ x = 1) ∧ f (g.1, g.2.1, dz_up g.2.2 q k x)
  | _, _ => False
/-- a place of an array of kind t -/
def dz_el (g : dz_G) (t q : Nat) (i : Int) (f : Nat → Prop) : Prop := ∃ n : Nat, g.1[q]? = some (.inr (t, n)) ∧ 0 ≤ i ∧ i < n ∧ f i.toNat
def dz_cmp (cd : ClassFile.Cond) (x y : Int) : Prop := match cd with
  | .eq => x = y
  | .ne => ¬ x = y
  | .lt => x < y
  | .ge => y ≤ x
  | .gt => y < x
  | .le => x ≤ y
def dz_tgt (pc : Nat) (off : Int) : Nat := ((pc : Int) + off).toNat
def dz_at : ArrayType → Nat
  | .int => 0
  | .long => 1
  | .byte => 2
  | _ => 9
/-- a new cell: its references, its numbers are 0 -/
def dz_new (g : dz_G) (x : Nat ⊕ (Nat × Nat)) : dz_G := (g.1 ++ [x], (fun q k => if q = g.1.length then 0 else g.2.1 q k), fun q k => if q = g.1.length then 0 else g.2.2 q k)
/-- new T[n][m] -/
def dz_mna (g : dz_G) (t u n m : Nat) : dz_G := (g.1 ++ (.inr (t, n) :: List.replicate n (.inr (u, m))), (fun q k => if g.1.length ≤ q then (if q = g.1.length ∧ k < n then g.1.length + 1 + k + 1 else 0) else g.2.1 q k), fun q k => if g.1.length ≤ q then 0 else g.2.2 q k)
def dz_cpy (M : Nat → Nat → Int) (q0 q1 sp dp n : Nat) : Nat → Nat → Int := fun q k => if q = q1 ∧ dp ≤ k ∧ k < dp + n then M q0 (sp + (k - dp)) else M q k
def dz_copy (g : dz_G) (st : List dz_V) (f : dz_G → List dz_V → Prop) : Prop := match st with
  | .inl n :: .inl dp :: .inr (.inr (.inl q1)) :: .inl sp :: .inr (.inr (.inl q0)) :: st => ∃ n0 n1 : Nat, g.1[q0]? = some (.inr (0, n0)) ∧ g.1[q1]? = some (.inr (0, n1)) ∧ 0 ≤ n ∧ 0 ≤ dp ∧ 0 ≤ sp ∧ sp + n ≤ n0 ∧ dp + n ≤ n1 ∧ dz_cats st ≤ 8 ∧ f (g.1, g.2.1, dz_cpy g.2.2 q0 q1 sp.toNat dp.toNat n.toNat) st
  | _ => False
def dz_dup2 (st : List dz_V) (f : List dz_V → Prop) : Prop := match st with
  | .inr (.inl x) :: st => f (.inr (.inl x) :: .inr (.inl x) :: st)
  | y :: x :: st => dz_cat y = 1 ∧ dz_cat x = 1 ∧ f (y :: x :: y :: x :: st)
  | _ => False
def dz_ret (rt : Nat) (st : List dz_V) (f : Option dz_V → Prop) : Prop := match rt, st with
  | 0, [] => f none
  | 1, [.inl x] => f (some (.inl x))
  | 2, [.inl x] => (x = 0 ∨ x = 1) ∧ f (some (.inl x))
  | 3, [.inr (.inl x)] => f (some (.inr (.inl x)))
  | _, _ => False
/-- the words of a method that a call needs: code, locals, cells, slots, kind of answer -/
def dz_op (cal : dz_C) (pp : Nat → dz_P) (xo : Nat → List Int) (P : dz_P) (Q : dz_Q) (R : dz_R) (pc : Nat) (L : dz_L) (st : List dz_V) (c s : Nat) (g : dz_G) (i : Instr) (v : Int) (a b : Nat) : Prop :=
  match i with
  | .aload_n k => dz_lda L k.val fun x => R (pc + 1) L (.inr (.inr x) :: st) c s g
  | .aload k => dz_lda L k fun x => R (pc + 2) L (.inr (.inr x) :: st) c s g
  | .iload_n k => dz_ldi L k.val fun x => R (pc + 1) L (.inl x :: st) c s g
  | .iload k => dz_ldi L k fun x => R (pc + 2) L (.inl x :: st) c s g
  | .lload_n k => dz_ldl L k.val fun x => R (pc + 1) L (.inr (.inl x) :: st) c s g
  | .lload k => dz_ldl L k fun x => R (pc + 2) L (.inr (.inl x) :: st) c s g
  | .istore_n k => dz_ui st fun x st => dz_st1 L k.val (.inl x) fun L => R (pc + 1) L st c s g
  | .istore k => dz_ui st fun x st => dz_st1 L k (.inl x) fun L => R (pc + 2) L st c s g
  | .lstore_n k => dz_ul st fun x st => dz_st2 L k.val (.inr (.inl x)) fun L => R (pc + 1) L st c s g
  | .lstore k => dz_ul st fun x st => dz_st2 L k (.inr (.inl x)) fun L => R (pc + 2) L st c s g
  | .astore_n k => dz_ua st fun x st => dz_st1 L k.val (.inr (.inr x)) fun L => R (pc + 1) L st c s g
  | .iconst n => R (pc + 1) L (.inl n :: st) c s g
  | .bipush n => R (pc + 2) L (.inl n :: st) c s g
  | .sipush n => R (pc + 3) L (.inl n :: st) c s g
  | .lconst n => R (pc + 1) L (.inr (.inl (n.val : Int)) :: st) c s g
  | .ldc _ => R (pc + 2) L (.inl v :: st) c s g
  | .ldc_w _ => R (pc + 3) L (.inl v :: st) c s g
  | .ldc2_w _ => R (pc + 3) L (.inr (.inl v) :: st) c s g
  | .iadd => dz_bi st fun x y st => R (pc + 1) L (.inl (dz_w (x + y)) :: st) c s g
  | .isub => dz_bi st fun x y st => R (pc + 1) L (.inl (dz_w (x - y)) :: st) c s g
  | .imul => dz_bi st fun x y st => R (pc + 1) L (.inl (dz_w (x * y)) :: st) c s g
  | .idiv => dz_bi st fun x y st => y ≠ 0 ∧ R (pc + 1) L (.inl (dz_w (Int.tdiv x y)) :: st) c s g
  | .irem => dz_bi st fun x y st => y ≠ 0 ∧ R (pc + 1) L (.inl (Int.tmod x y) :: st) c s g
  | .iand => dz_bi st fun x y st => R (pc + 1) L (.inl (dz_and x y) :: st) c s g
  | .ior => dz_bi st fun x y st => R (pc + 1) L (.inl (dz_or x y) :: st) c s g
  | .ishl => dz_bi st fun x y st => R (pc + 1) L (.inl (dz_shl x y) :: st) c s g
  | .ishr => dz_bi st fun x y st => R (pc + 1) L (.inl (dz_shr x y) :: st) c s g
  | .ladd => dz_bl st fun x y st => R (pc + 1) L (.inr (.inl (dz_W (x + y))) :: st) c s g
  | .lmul => dz_bl st fun x y st => R (pc + 1) L (.inr (.inl (dz_W (x * y))) :: st) c s g
  | .ldiv => dz_bl st fun x y st => y ≠ 0 ∧ R (pc + 1) L (.inr (.inl (dz_W (Int.tdiv x y))) :: st) c s g
  | .lrem => dz_bl st fun x y st => y ≠ 0 ∧ R (pc + 1) L (.inr (.inl (Int.tmod x y)) :: st) c s g
  | .lcmp => dz_bl st fun x y st => R (pc + 1) L (.inl (dz_lcmp x y) :: st) c s g
  | .i2l => dz_ui st fun x st => R (pc + 1) L (.inr (.inl x) :: st) c s g
  | .l2i => dz_ul st fun x st => R (pc + 1) L (.inl (dz_w x) :: st) c s g
  | .i2b => dz_ui st fun x st => R (pc + 1) L (.inl (dz_b x) :: st) c s g
  | .dup => match st with
    | x :: st => dz_cat x = 1 ∧ R (pc + 1) L (x :: x :: st) c s g
    | [] => False
  | .dup2 => dz_dup2 st fun st => R (pc + 1) L st c s g
  | .pop => match st with
    | x :: st => dz_cat x = 1 ∧ R (pc + 1) L st c s g
    | [] => False
  | .iinc k n => dz_ldi L k fun x => dz_st1 L k (.inl (dz_w (x + n))) fun L => R (pc + 3) L st c s g
  | .getfield _ => dz_uq st fun q st => g.1[q]? = some (.inl a) ∧ dz_gf g (dz_ft a b) q b fun x => R (pc + 3) L (x :: st) c s g
  | .putfield _ => match st with
    | x :: .inr (.inr (.inl q)) :: st => g.1[q]? = some (.inl a) ∧ dz_pf g (dz_ft a b) q b x fun g => R (pc + 3) L st c s g
    | _ => False
  | .getstatic _ => R (pc + 3) L (.inr (.inr (.inr a)) :: st) c s g
  | .iaload => dz_ui st fun i st => match st with
    | .inr (.inr (.inl q)) :: st => dz_el g 0 q i fun k => R (pc + 1) L (.inl (g.2.2 q k) :: st) c s g
    | .inr (.inr (.inr o)) :: st => 0 ≤ i ∧ i < (xo o).length ∧ R (pc + 1) L (.inl ((xo o).getD i.toNat 0) :: st) c s g
    | _ => False
  | .baload => dz_ui st fun i st => dz_uq st fun q st => dz_el g 2 q i fun k => R (pc + 1) L (.inl (g.2.2 q k) :: st) c s g
  | .laload => dz_ui st fun i st => dz_uq st fun q st => dz_el g 1 q i fun k => R (pc + 1) L (.inr (.inl (g.2.2 q k)) :: st) c s g
  | .aaload => dz_ui st fun i st => dz_uq st fun q st => ∃ t, (t = 3 ∨ t = 4 ∨ t = 5) ∧ dz_el g t q i fun k => match g.2.1 q k with
    | 0 => False
    | r + 1 => R (pc + 1) L (.inr (.inr (.inl r)) :: st) c s g
  | .iastore => dz_ui st fun x st => dz_ui st fun i st => dz_uq st fun q st => dz_el g 0 q i fun k => R (pc + 1) L st c s (g.1, g.2.1, dz_up g.2.2 q k x)
  | .bastore => dz_ui st fun x st => dz_ui st fun i st => dz_uq st fun q st => dz_el g 2 q i fun k => R (pc + 1) L st c s (g.1, g.2.1, dz_up g.2.2 q k (dz_b x))
  | .lastore => dz_ul st fun x st => dz_ui st fun i st => dz_uq st fun q st => dz_el g 1 q i fun k => R (pc + 1) L st c s (g.1, g.2.1, dz_up g.2.2 q k x)
  | .aastore => dz_uq st fun r st => dz_ui st fun i st => dz_uq st fun q st => g.1[r]? = some (.inl 0) ∧ dz_el g 3 q i fun k => R (pc + 1) L st c s (g.1, dz_up g.2.1 q k (r + 1), g.2.2)
  | .arraylength => match st with
    | .inr (.inr (.inl q)) :: st => ∃ t n : Nat, g.1[q]? = some (.inr (t, n)) ∧ R (pc + 1) L (.inl (n : Int) :: st) c s g
    | .inr (.inr (.inr o)) :: st => R (pc + 1) L (.inl ((xo o).length : Int) :: st) c s g
    | _ => False
  | .new _ => c + 1 ≤ P.2.2.1 ∧ s + b ≤ P.2.2.2.1 ∧ R (pc + 3) L (.inr (.inr (.inl g.1.length)) :: st) (c + 1) (s + b) (dz_new g (.inl a))
  | .newarray t => dz_ui st fun n st => dz_at t < 3 ∧ 0 ≤ n ∧ n ≤ 60000 ∧ c + 1 ≤ P.2.2.1 ∧ s + n.toNat ≤ P.2.2.2.1 ∧ R (pc + 2) L (.inr (.inr (.inl g.1.length)) :: st) (c + 1) (s + n.toNat) (dz_new g (.inr (dz_at t, n.toNat)))
  | .anewarray _ => dz_ui st fun n st => 0 ≤ n ∧ n ≤ 60000 ∧ c + 1 ≤ P.2.2.1 ∧ s + n.toNat ≤ P.2.2.2.1 ∧ R (pc + 3) L (.inr (.inr (.inl g.1.length)) :: st) (c + 1) (s + n.toNat) (dz_new g (.inr (3, n.toNat)))
  | .multianewarray _ _ => dz_bi st fun n m st => 0 ≤ n ∧ n ≤ 60000 ∧ 0 ≤ m ∧ m ≤ 60000 ∧ c + (1 + n.toNat) ≤ P.2.2.1 ∧ s + (n.toNat + n.toNat * m.toNat) ≤ P.2.2.2.1 ∧ R (pc + 4) L (.inr (.inr (.inl g.1.length)) :: st) (c + 1 + n.toNat) (s + n.toNat + n.toNat * m.toNat) (dz_mna g a b n.toNat m.toNat)
  | .goto o => R (dz_tgt pc o) L st c s g
  | .if_icmp cd o => dz_bi st fun x y st => (dz_cmp cd x y → R (dz_tgt pc o) L st c s g) ∧ (¬ dz_cmp cd x y → R (pc + 3) L st c s g)
  | .ifCond cd o => dz_ui st fun x st => (dz_cmp cd x 0 → R (dz_tgt pc o) L st c s g) ∧ (¬ dz_cmp cd x 0 → R (pc + 3) L st c s g)
  | .tableswitch d lo hi os => dz_ui st fun x st => (x < lo ∨ hi < x → R (dz_tgt pc d) L st c s g) ∧ (lo ≤ x → x ≤ hi → ∃ o, os[(x - lo).toNat]? = some o ∧ R (dz_tgt pc o) L st c s g)
  | .ireturn => dz_ret P.2.2.2.2 st fun r => Q r g
  | .lreturn => dz_ret P.2.2.2.2 st fun r => Q r g
  | .return_ => dz_ret P.2.2.2.2 st fun r => Q r g
  | .invokestatic _ => match v with
    | 1 => dz_copy g st fun g st => R (pc + 3) L st c s g
    | _ => b ≤ st.length ∧ dz_cats (st.drop b) ≤ 8 ∧ c + (pp a).2.2.1 ≤ P.2.2.1 ∧ s + (pp a).2.2.2.1 ≤ P.2.2.2.1 ∧ cal a (st.take b).reverse g fun r g => R (pc + 3) L (r.toList ++ st.drop b) (c + (pp a).2.2.1) (s + (pp a).2.2.2.1) g
  | .invokevirtual _ => b < st.length ∧ dz_cats (st.drop (b + 1)) ≤ 8 ∧ c + (pp a).2.2.1 ≤ P.2.2.1 ∧ s + (pp a).2.2.2.1 ≤ P.2.2.2.1 ∧ (∃ q, st[b]? = some (.inr (.inr (.inl q))) ∧ ∃ ci, g.1[q]? = some (.inl ci)) ∧ cal a (st.take (b + 1)).reverse g fun r g => R (pc + 3) L (r.toList ++ st.drop (b + 1)) (c + (pp a).2.2.1) (s + (pp a).2.2.2.1) g
  | .invokespecial _ => match v with
    | 1 => dz_uq st fun _ st => dz_cats st ≤ 8 ∧ R (pc + 3) L st c s g
    | _ => b < st.length ∧ dz_cats (st.drop (b + 1)) ≤ 8 ∧ c + (pp a).2.2.1 ≤ P.2.2.1 ∧ s + (pp a).2.2.2.1 ≤ P.2.2.2.1 ∧ (∃ q, st[b]? = some (.inr (.inr (.inl q)))) ∧ cal a (st.take (b + 1)).reverse g fun r g => R (pc + 3) L (r.toList ++ st.drop (b + 1)) (c + (pp a).2.2.1) (s + (pp a).2.2.2.1) g
  | _ => False
def dz_step (cal : dz_C) (pp : Nat → dz_P) (xo : Nat → List Int) (P : dz_P) (Q : dz_Q) (R : dz_R) (pc : Nat) (L : dz_L) (st : List dz_V) (c s : Nat) (g : dz_G) : Prop :=
  match dz_fetch P.1 pc with
  | (i, v, a, b, _) => dz_op cal pp xo P Q R pc L st c s g i v a b
/-- the least predicate that the steps close -/
def dz_X (cal : dz_C) (pp : Nat → dz_P) (xo : Nat → List Int) (P : dz_P) (Q : dz_Q) : dz_R := fun pc L st c s g =>
  ∀ R : dz_R, (∀ pc L st c s g, dz_step cal pp xo P Q R pc L st c s g → R pc L st c s g) → R pc L st c s g
def dz_sl : List dz_V → dz_L
  | [] => []
  | .inr (.inl x) :: vs => some (.inr (.inl x)) :: none :: dz_sl vs
  | v :: vs => some v :: dz_sl vs
def dz_ent (n : Nat) (vs : List dz_V) : dz_L := dz_sl vs ++ List.replicate (n - (dz_sl vs).length) none
/-- a call of method j that goes d calls deep at most -/
def dz_E (pp : Nat → dz_P) (xo : Nat → List Int) : Nat → dz_C
  | 0 => fun _ _ _ _ => False
  | d + 1 => fun j vs g Q => (dz_sl vs).length ≤ (pp j).2.1 ∧ dz_X (dz_E pp xo d) pp xo (pp j) Q 0 (dz_ent (pp j).2.1 vs) [] 0 0 g
end
