section
-- ===== PART A: goes FIRST, ahead of the names: the tables' words, and 'selects' of the private methods out of them =====
/-- a private method of a class that the tables say can be made, by its rows of tables_1 -/
def lw_okq (q : MethodName × Nat) : Prop := (q.1.cls ≠ "java/lang/invoke/MethodHandle" ∧ q.1.cls ≠ "java/lang/invoke/VarHandle") ∧ Cond.instantiable q.1.cls q.2 ∈ tables_1 ∧ Cond.privateMethod q.1 ∈ tables_1 ∧ Cond.instanceMethod q.1 ∈ tables_1
theorem lw_p0 : lw_okq (⟨"FigureLeave$House", "begin", "()V"⟩, 6) := ⟨⟨by decide +kernel, by decide +kernel⟩, List.mem_of_getElem? (i := 29) (by decide +kernel), List.mem_of_getElem? (i := 319) (by decide +kernel), List.mem_of_getElem? (i := 320) (by decide +kernel)⟩
theorem lw_p1 : lw_okq (⟨"FigureLeave$Shift", "begin", "()V"⟩, 2) := ⟨⟨by decide +kernel, by decide +kernel⟩, List.mem_of_getElem? (i := 35) (by decide +kernel), List.mem_of_getElem? (i := 323) (by decide +kernel), List.mem_of_getElem? (i := 324) (by decide +kernel)⟩
theorem lw_p2 : lw_okq (⟨"FigureLeave$Bills", "begin", "()V"⟩, 5) := ⟨⟨by decide +kernel, by decide +kernel⟩, List.mem_of_getElem? (i := 58) (by decide +kernel), List.mem_of_getElem? (i := 328) (by decide +kernel), List.mem_of_getElem? (i := 329) (by decide +kernel)⟩
theorem lw_p3 : lw_okq (⟨"FigureLeave$Clues", "dropTraces", "()I"⟩, 8) := ⟨⟨by decide +kernel, by decide +kernel⟩, List.mem_of_getElem? (i := 95) (by decide +kernel), List.mem_of_getElem? (i := 332) (by decide +kernel), List.mem_of_getElem? (i := 333) (by decide +kernel)⟩
theorem lw_p4 : lw_okq (⟨"FigureLeave$Clues", "dropNotes", "()I"⟩, 8) := ⟨⟨by decide +kernel, by decide +kernel⟩, List.mem_of_getElem? (i := 95) (by decide +kernel), List.mem_of_getElem? (i := 336) (by decide +kernel), List.mem_of_getElem? (i := 337) (by decide +kernel)⟩
theorem lw_p5 : lw_okq (⟨"FigureLeave", "bad", "()I"⟩, 12) := ⟨⟨by decide +kernel, by decide +kernel⟩, List.mem_of_getElem? (i := 21) (by decide +kernel), List.mem_of_getElem? (i := 350) (by decide +kernel), List.mem_of_getElem? (i := 351) (by decide +kernel)⟩
theorem lw_p6 : lw_okq (⟨"FigureLeave$House", "tellFigure", "(III)V"⟩, 6) := ⟨⟨by decide +kernel, by decide +kernel⟩, List.mem_of_getElem? (i := 29) (by decide +kernel), List.mem_of_getElem? (i := 354) (by decide +kernel), List.mem_of_getElem? (i := 355) (by decide +kernel)⟩
theorem lw_p7 : lw_okq (⟨"FigureLeave", "full", "()I"⟩, 12) := ⟨⟨by decide +kernel, by decide +kernel⟩, List.mem_of_getElem? (i := 21) (by decide +kernel), List.mem_of_getElem? (i := 366) (by decide +kernel), List.mem_of_getElem? (i := 367) (by decide +kernel)⟩
theorem lw_p8 : lw_okq (⟨"FigureLeave$House", "tellBill", "(II)V"⟩, 6) := ⟨⟨by decide +kernel, by decide +kernel⟩, List.mem_of_getElem? (i := 29) (by decide +kernel), List.mem_of_getElem? (i := 370) (by decide +kernel), List.mem_of_getElem? (i := 371) (by decide +kernel)⟩
theorem lw_p9 : lw_okq (⟨"FigureLeave$Bills", "add", "(II)V"⟩, 5) := ⟨⟨by decide +kernel, by decide +kernel⟩, List.mem_of_getElem? (i := 58) (by decide +kernel), List.mem_of_getElem? (i := 374) (by decide +kernel), List.mem_of_getElem? (i := 375) (by decide +kernel)⟩
theorem lw_p10 : lw_okq (⟨"FigureLeave$Text", "readInto", "(LFigureLeave$House;)I"⟩, 7) := ⟨⟨by decide +kernel, by decide +kernel⟩, List.mem_of_getElem? (i := 243) (by decide +kernel), List.mem_of_getElem? (i := 390) (by decide +kernel), List.mem_of_getElem? (i := 391) (by decide +kernel)⟩
theorem lw_p11 : lw_okq (⟨"FigureLeave$Text", "nextToken", "()V"⟩, 7) := ⟨⟨by decide +kernel, by decide +kernel⟩, List.mem_of_getElem? (i := 243) (by decide +kernel), List.mem_of_getElem? (i := 395) (by decide +kernel), List.mem_of_getElem? (i := 396) (by decide +kernel)⟩
theorem lw_p12 : lw_okq (⟨"FigureLeave$Text", "sortAt", "(I)I"⟩, 7) := ⟨⟨by decide +kernel, by decide +kernel⟩, List.mem_of_getElem? (i := 243) (by decide +kernel), List.mem_of_getElem? (i := 399) (by decide +kernel), List.mem_of_getElem? (i := 400) (by decide +kernel)⟩
theorem lw_p13 : lw_okq (⟨"FigureLeave$Text", "weighNumber", "()V"⟩, 7) := ⟨⟨by decide +kernel, by decide +kernel⟩, List.mem_of_getElem? (i := 243) (by decide +kernel), List.mem_of_getElem? (i := 403) (by decide +kernel), List.mem_of_getElem? (i := 404) (by decide +kernel)⟩
theorem lw_p14 : lw_okq (⟨"FigureLeave$Text", "readItem", "(LFigureLeave$House;Z)Z"⟩, 7) := ⟨⟨by decide +kernel, by decide +kernel⟩, List.mem_of_getElem? (i := 243) (by decide +kernel), List.mem_of_getElem? (i := 407) (by decide +kernel), List.mem_of_getElem? (i := 408) (by decide +kernel)⟩
theorem lw_p15 : lw_okq (⟨"FigureLeave$Text", "isWord", "(Ljava/lang/String;)Z"⟩, 7) := ⟨⟨by decide +kernel, by decide +kernel⟩, List.mem_of_getElem? (i := 243) (by decide +kernel), List.mem_of_getElem? (i := 412) (by decide +kernel), List.mem_of_getElem? (i := 413) (by decide +kernel)⟩
def lw_privs_1 : List (MethodName × Nat) := [(⟨"FigureLeave$House", "begin", "()V"⟩, 6), (⟨"FigureLeave$Shift", "begin", "()V"⟩, 2), (⟨"FigureLeave$Bills", "begin", "()V"⟩, 5), (⟨"FigureLeave$Clues", "dropTraces", "()I"⟩, 8), (⟨"FigureLeave$Clues", "dropNotes", "()I"⟩, 8), (⟨"FigureLeave", "bad", "()I"⟩, 12), (⟨"FigureLeave$House", "tellFigure", "(III)V"⟩, 6), (⟨"FigureLeave", "full", "()I"⟩, 12), (⟨"FigureLeave$House", "tellBill", "(II)V"⟩, 6), (⟨"FigureLeave$Bills", "add", "(II)V"⟩, 5), (⟨"FigureLeave$Text", "readInto", "(LFigureLeave$House;)I"⟩, 7), (⟨"FigureLeave$Text", "nextToken", "()V"⟩, 7), (⟨"FigureLeave$Text", "sortAt", "(I)I"⟩, 7), (⟨"FigureLeave$Text", "weighNumber", "()V"⟩, 7), (⟨"FigureLeave$Text", "readItem", "(LFigureLeave$House;Z)Z"⟩, 7), (⟨"FigureLeave$Text", "isWord", "(Ljava/lang/String;)Z"⟩, 7)]
theorem lw_r1 : ∀ q ∈ lw_privs_1, lw_okq q := List.forall_mem_cons.mpr ⟨lw_p0, List.forall_mem_cons.mpr ⟨lw_p1, List.forall_mem_cons.mpr ⟨lw_p2, List.forall_mem_cons.mpr ⟨lw_p3, List.forall_mem_cons.mpr ⟨lw_p4, List.forall_mem_cons.mpr ⟨lw_p5, List.forall_mem_cons.mpr ⟨lw_p6, List.forall_mem_cons.mpr ⟨lw_p7, List.forall_mem_cons.mpr ⟨lw_p8, List.forall_mem_cons.mpr ⟨lw_p9, List.forall_mem_cons.mpr ⟨lw_p10, List.forall_mem_cons.mpr ⟨lw_p11, List.forall_mem_cons.mpr ⟨lw_p12, List.forall_mem_cons.mpr ⟨lw_p13, List.forall_mem_cons.mpr ⟨lw_p14, List.forall_mem_cons.mpr ⟨lw_p15, fun _ h => absurd h List.not_mem_nil⟩⟩⟩⟩⟩⟩⟩⟩⟩⟩⟩⟩⟩⟩⟩⟩
theorem lw_p16 : lw_okq (⟨"FigureLeave$Text", "readFigure", "(LFigureLeave$House;)Z"⟩, 7) := ⟨⟨by decide +kernel, by decide +kernel⟩, List.mem_of_getElem? (i := 243) (by decide +kernel), List.mem_of_getElem? (i := 465) (by decide +kernel), List.mem_of_getElem? (i := 466) (by decide +kernel)⟩
theorem lw_p17 : lw_okq (⟨"FigureLeave$Text", "nextIsNumber", "(II)Z"⟩, 7) := ⟨⟨by decide +kernel, by decide +kernel⟩, List.mem_of_getElem? (i := 243) (by decide +kernel), List.mem_of_getElem? (i := 469) (by decide +kernel), List.mem_of_getElem? (i := 470) (by decide +kernel)⟩
theorem lw_p18 : lw_okq (⟨"FigureLeave$Text", "readBill", "(LFigureLeave$House;)Z"⟩, 7) := ⟨⟨by decide +kernel, by decide +kernel⟩, List.mem_of_getElem? (i := 243) (by decide +kernel), List.mem_of_getElem? (i := 476) (by decide +kernel), List.mem_of_getElem? (i := 477) (by decide +kernel)⟩
theorem lw_p19 : lw_okq (⟨"FigureLeave$Text", "readWrite", "(LFigureLeave$House;)Z"⟩, 7) := ⟨⟨by decide +kernel, by decide +kernel⟩, List.mem_of_getElem? (i := 243) (by decide +kernel), List.mem_of_getElem? (i := 482) (by decide +kernel), List.mem_of_getElem? (i := 483) (by decide +kernel)⟩
theorem lw_p20 : lw_okq (⟨"FigureLeave$Line", "tell", "(II)V"⟩, 2) := ⟨⟨by decide +kernel, by decide +kernel⟩, List.mem_of_getElem? (i := 190) (by decide +kernel), List.mem_of_getElem? (i := 486) (by decide +kernel), List.mem_of_getElem? (i := 487) (by decide +kernel)⟩
theorem lw_p21 : lw_okq (⟨"FigureLeave$Line", "addNumber", "(I)V"⟩, 2) := ⟨⟨by decide +kernel, by decide +kernel⟩, List.mem_of_getElem? (i := 190) (by decide +kernel), List.mem_of_getElem? (i := 490) (by decide +kernel), List.mem_of_getElem? (i := 491) (by decide +kernel)⟩
theorem lw_p22 : lw_okq (⟨"FigureLeave$House", "puts", "(LFigureLeave$Shift;LFigureLeave$Line;)Z"⟩, 6) := ⟨⟨by decide +kernel, by decide +kernel⟩, List.mem_of_getElem? (i := 29) (by decide +kernel), List.mem_of_getElem? (i := 497) (by decide +kernel), List.mem_of_getElem? (i := 498) (by decide +kernel)⟩
theorem lw_p23 : lw_okq (⟨"FigureLeave$House", "wearBy", "(LFigureLeave$Shift;LFigureLeave$Line;I)V"⟩, 6) := ⟨⟨by decide +kernel, by decide +kernel⟩, List.mem_of_getElem? (i := 29) (by decide +kernel), List.mem_of_getElem? (i := 501) (by decide +kernel), List.mem_of_getElem? (i := 502) (by decide +kernel)⟩
theorem lw_p24 : lw_okq (⟨"FigureLeave$House", "bears", "(LFigureLeave$Shift;LFigureLeave$Line;)Z"⟩, 6) := ⟨⟨by decide +kernel, by decide +kernel⟩, List.mem_of_getElem? (i := 29) (by decide +kernel), List.mem_of_getElem? (i := 508) (by decide +kernel), List.mem_of_getElem? (i := 509) (by decide +kernel)⟩
theorem lw_p25 : lw_okq (⟨"FigureLeave$Text", "readNight", "(LFigureLeave$House;)Z"⟩, 7) := ⟨⟨by decide +kernel, by decide +kernel⟩, List.mem_of_getElem? (i := 243) (by decide +kernel), List.mem_of_getElem? (i := 513) (by decide +kernel), List.mem_of_getElem? (i := 514) (by decide +kernel)⟩
theorem lw_p26 : lw_okq (⟨"FigureLeave$House", "sleep", "(I)V"⟩, 6) := ⟨⟨by decide +kernel, by decide +kernel⟩, List.mem_of_getElem? (i := 29) (by decide +kernel), List.mem_of_getElem? (i := 517) (by decide +kernel), List.mem_of_getElem? (i := 518) (by decide +kernel)⟩
theorem lw_p27 : lw_okq (⟨"FigureLeave$House", "rests", "(LFigureLeave$Shift;)V"⟩, 6) := ⟨⟨by decide +kernel, by decide +kernel⟩, List.mem_of_getElem? (i := 29) (by decide +kernel), List.mem_of_getElem? (i := 521) (by decide +kernel), List.mem_of_getElem? (i := 522) (by decide +kernel)⟩
theorem lw_p28 : lw_okq (⟨"FigureLeave$Text", "nextIsStop", "()Z"⟩, 7) := ⟨⟨by decide +kernel, by decide +kernel⟩, List.mem_of_getElem? (i := 243) (by decide +kernel), List.mem_of_getElem? (i := 535) (by decide +kernel), List.mem_of_getElem? (i := 536) (by decide +kernel)⟩
theorem lw_p29 : lw_okq (⟨"FigureLeave$House", "become", "(LFigureLeave$House;)V"⟩, 6) := ⟨⟨by decide +kernel, by decide +kernel⟩, List.mem_of_getElem? (i := 29) (by decide +kernel), List.mem_of_getElem? (i := 539) (by decide +kernel), List.mem_of_getElem? (i := 540) (by decide +kernel)⟩
theorem lw_p30 : lw_okq (⟨"FigureLeave$Shift", "become", "(LFigureLeave$Shift;)V"⟩, 2) := ⟨⟨by decide +kernel, by decide +kernel⟩, List.mem_of_getElem? (i := 35) (by decide +kernel), List.mem_of_getElem? (i := 546) (by decide +kernel), List.mem_of_getElem? (i := 547) (by decide +kernel)⟩
theorem lw_p31 : lw_okq (⟨"FigureLeave$Bills", "become", "(LFigureLeave$Bills;)V"⟩, 5) := ⟨⟨by decide +kernel, by decide +kernel⟩, List.mem_of_getElem? (i := 58) (by decide +kernel), List.mem_of_getElem? (i := 551) (by decide +kernel), List.mem_of_getElem? (i := 552) (by decide +kernel)⟩
def lw_privs_2 : List (MethodName × Nat) := [(⟨"FigureLeave$Text", "readFigure", "(LFigureLeave$House;)Z"⟩, 7), (⟨"FigureLeave$Text", "nextIsNumber", "(II)Z"⟩, 7), (⟨"FigureLeave$Text", "readBill", "(LFigureLeave$House;)Z"⟩, 7), (⟨"FigureLeave$Text", "readWrite", "(LFigureLeave$House;)Z"⟩, 7), (⟨"FigureLeave$Line", "tell", "(II)V"⟩, 2), (⟨"FigureLeave$Line", "addNumber", "(I)V"⟩, 2), (⟨"FigureLeave$House", "puts", "(LFigureLeave$Shift;LFigureLeave$Line;)Z"⟩, 6), (⟨"FigureLeave$House", "wearBy", "(LFigureLeave$Shift;LFigureLeave$Line;I)V"⟩, 6), (⟨"FigureLeave$House", "bears", "(LFigureLeave$Shift;LFigureLeave$Line;)Z"⟩, 6), (⟨"FigureLeave$Text", "readNight", "(LFigureLeave$House;)Z"⟩, 7), (⟨"FigureLeave$House", "sleep", "(I)V"⟩, 6), (⟨"FigureLeave$House", "rests", "(LFigureLeave$Shift;)V"⟩, 6), (⟨"FigureLeave$Text", "nextIsStop", "()Z"⟩, 7), (⟨"FigureLeave$House", "become", "(LFigureLeave$House;)V"⟩, 6), (⟨"FigureLeave$Shift", "become", "(LFigureLeave$Shift;)V"⟩, 2), (⟨"FigureLeave$Bills", "become", "(LFigureLeave$Bills;)V"⟩, 5)]
theorem lw_r2 : ∀ q ∈ lw_privs_2, lw_okq q := List.forall_mem_cons.mpr ⟨lw_p16, List.forall_mem_cons.mpr ⟨lw_p17, List.forall_mem_cons.mpr ⟨lw_p18, List.forall_mem_cons.mpr ⟨lw_p19, List.forall_mem_cons.mpr ⟨lw_p20, List.forall_mem_cons.mpr ⟨lw_p21, List.forall_mem_cons.mpr ⟨lw_p22, List.forall_mem_cons.mpr ⟨lw_p23, List.forall_mem_cons.mpr ⟨lw_p24, List.forall_mem_cons.mpr ⟨lw_p25, List.forall_mem_cons.mpr ⟨lw_p26, List.forall_mem_cons.mpr ⟨lw_p27, List.forall_mem_cons.mpr ⟨lw_p28, List.forall_mem_cons.mpr ⟨lw_p29, List.forall_mem_cons.mpr ⟨lw_p30, List.forall_mem_cons.mpr ⟨lw_p31, fun _ h => absurd h List.not_mem_nil⟩⟩⟩⟩⟩⟩⟩⟩⟩⟩⟩⟩⟩⟩⟩⟩
theorem lw_p32 : lw_okq (⟨"FigureLeave$Clues", "become", "(LFigureLeave$Clues;)V"⟩, 8) := ⟨⟨by decide +kernel, by decide +kernel⟩, List.mem_of_getElem? (i := 95) (by decide +kernel), List.mem_of_getElem? (i := 556) (by decide +kernel), List.mem_of_getElem? (i := 557) (by decide +kernel)⟩
theorem lw_p33 : lw_okq (⟨"FigureLeave$Past", "become", "(LFigureLeave$Past;)V"⟩, 2) := ⟨⟨by decide +kernel, by decide +kernel⟩, List.mem_of_getElem? (i := 131) (by decide +kernel), List.mem_of_getElem? (i := 561) (by decide +kernel), List.mem_of_getElem? (i := 562) (by decide +kernel)⟩
theorem lw_p34 : lw_okq (⟨"FigureLeave$House", "takes", "(LFigureLeave$Shift;LFigureLeave$Line;)Z"⟩, 6) := ⟨⟨by decide +kernel, by decide +kernel⟩, List.mem_of_getElem? (i := 29) (by decide +kernel), List.mem_of_getElem? (i := 572) (by decide +kernel), List.mem_of_getElem? (i := 573) (by decide +kernel)⟩
theorem lw_p35 : lw_okq (⟨"FigureLeave", "no", "()I"⟩, 12) := ⟨⟨by decide +kernel, by decide +kernel⟩, List.mem_of_getElem? (i := 21) (by decide +kernel), List.mem_of_getElem? (i := 576) (by decide +kernel), List.mem_of_getElem? (i := 577) (by decide +kernel)⟩
theorem lw_p36 : lw_okq (⟨"FigureLeave$House", "remember", "()V"⟩, 6) := ⟨⟨by decide +kernel, by decide +kernel⟩, List.mem_of_getElem? (i := 29) (by decide +kernel), List.mem_of_getElem? (i := 580) (by decide +kernel), List.mem_of_getElem? (i := 581) (by decide +kernel)⟩
theorem lw_p37 : lw_okq (⟨"FigureLeave$Past", "push", "(LFigureLeave$Shift;LFigureLeave$Bills;)V"⟩, 2) := ⟨⟨by decide +kernel, by decide +kernel⟩, List.mem_of_getElem? (i := 131) (by decide +kernel), List.mem_of_getElem? (i := 584) (by decide +kernel), List.mem_of_getElem? (i := 585) (by decide +kernel)⟩
theorem lw_p38 : lw_okq (⟨"FigureLeave$House", "costOf", "(LFigureLeave$Line;)I"⟩, 6) := ⟨⟨by decide +kernel, by decide +kernel⟩, List.mem_of_getElem? (i := 29) (by decide +kernel), List.mem_of_getElem? (i := 589) (by decide +kernel), List.mem_of_getElem? (i := 590) (by decide +kernel)⟩
theorem lw_p39 : lw_okq (⟨"FigureLeave$Bills", "holds", "(I)Z"⟩, 5) := ⟨⟨by decide +kernel, by decide +kernel⟩, List.mem_of_getElem? (i := 58) (by decide +kernel), List.mem_of_getElem? (i := 597) (by decide +kernel), List.mem_of_getElem? (i := 598) (by decide +kernel)⟩
theorem lw_p40 : lw_okq (⟨"FigureLeave$Bills", "isPaid", "(I)Z"⟩, 5) := ⟨⟨by decide +kernel, by decide +kernel⟩, List.mem_of_getElem? (i := 58) (by decide +kernel), List.mem_of_getElem? (i := 601) (by decide +kernel), List.mem_of_getElem? (i := 602) (by decide +kernel)⟩
theorem lw_p41 : lw_okq (⟨"FigureLeave$Bills", "settle", "(I)V"⟩, 5) := ⟨⟨by decide +kernel, by decide +kernel⟩, List.mem_of_getElem? (i := 58) (by decide +kernel), List.mem_of_getElem? (i := 605) (by decide +kernel), List.mem_of_getElem? (i := 606) (by decide +kernel)⟩
theorem lw_p42 : lw_okq (⟨"FigureLeave$House", "goBack", "()V"⟩, 6) := ⟨⟨by decide +kernel, by decide +kernel⟩, List.mem_of_getElem? (i := 29) (by decide +kernel), List.mem_of_getElem? (i := 619) (by decide +kernel), List.mem_of_getElem? (i := 620) (by decide +kernel)⟩
theorem lw_p43 : lw_okq (⟨"FigureLeave$Past", "pop", "(LFigureLeave$Shift;LFigureLeave$Bills;)V"⟩, 2) := ⟨⟨by decide +kernel, by decide +kernel⟩, List.mem_of_getElem? (i := 131) (by decide +kernel), List.mem_of_getElem? (i := 623) (by decide +kernel), List.mem_of_getElem? (i := 624) (by decide +kernel)⟩
theorem lw_p44 : lw_okq (⟨"FigureLeave$House", "leftOf", "(I)I"⟩, 6) := ⟨⟨by decide +kernel, by decide +kernel⟩, List.mem_of_getElem? (i := 29) (by decide +kernel), List.mem_of_getElem? (i := 631) (by decide +kernel), List.mem_of_getElem? (i := 632) (by decide +kernel)⟩
theorem lw_p45 : lw_okq (⟨"FigureLeave$Clerk", "cheapest", "(LFigureLeave$House;I)I"⟩, 6) := ⟨⟨by decide +kernel, by decide +kernel⟩, List.mem_of_getElem? (i := 184) (by decide +kernel), List.mem_of_getElem? (i := 660) (by decide +kernel), List.mem_of_getElem? (i := 661) (by decide +kernel)⟩
theorem lw_p46 : lw_okq (⟨"FigureLeave$Clerk", "firstWithout", "(LFigureLeave$House;)I"⟩, 6) := ⟨⟨by decide +kernel, by decide +kernel⟩, List.mem_of_getElem? (i := 184) (by decide +kernel), List.mem_of_getElem? (i := 671) (by decide +kernel), List.mem_of_getElem? (i := 672) (by decide +kernel)⟩
theorem lw_p47 : lw_okq (⟨"FigureLeave$Clerk", "byAny", "(LFigureLeave$House;I)Z"⟩, 6) := ⟨⟨by decide +kernel, by decide +kernel⟩, List.mem_of_getElem? (i := 184) (by decide +kernel), List.mem_of_getElem? (i := 675) (by decide +kernel), List.mem_of_getElem? (i := 676) (by decide +kernel)⟩
def lw_privs_3 : List (MethodName × Nat) := [(⟨"FigureLeave$Clues", "become", "(LFigureLeave$Clues;)V"⟩, 8), (⟨"FigureLeave$Past", "become", "(LFigureLeave$Past;)V"⟩, 2), (⟨"FigureLeave$House", "takes", "(LFigureLeave$Shift;LFigureLeave$Line;)Z"⟩, 6), (⟨"FigureLeave", "no", "()I"⟩, 12), (⟨"FigureLeave$House", "remember", "()V"⟩, 6), (⟨"FigureLeave$Past", "push", "(LFigureLeave$Shift;LFigureLeave$Bills;)V"⟩, 2), (⟨"FigureLeave$House", "costOf", "(LFigureLeave$Line;)I"⟩, 6), (⟨"FigureLeave$Bills", "holds", "(I)Z"⟩, 5), (⟨"FigureLeave$Bills", "isPaid", "(I)Z"⟩, 5), (⟨"FigureLeave$Bills", "settle", "(I)V"⟩, 5), (⟨"FigureLeave$House", "goBack", "()V"⟩, 6), (⟨"FigureLeave$Past", "pop", "(LFigureLeave$Shift;LFigureLeave$Bills;)V"⟩, 2), (⟨"FigureLeave$House", "leftOf", "(I)I"⟩, 6), (⟨"FigureLeave$Clerk", "cheapest", "(LFigureLeave$House;I)I"⟩, 6), (⟨"FigureLeave$Clerk", "firstWithout", "(LFigureLeave$House;)I"⟩, 6), (⟨"FigureLeave$Clerk", "byAny", "(LFigureLeave$House;I)Z"⟩, 6)]
theorem lw_r3 : ∀ q ∈ lw_privs_3, lw_okq q := List.forall_mem_cons.mpr ⟨lw_p32, List.forall_mem_cons.mpr ⟨lw_p33, List.forall_mem_cons.mpr ⟨lw_p34, List.forall_mem_cons.mpr ⟨lw_p35, List.forall_mem_cons.mpr ⟨lw_p36, List.forall_mem_cons.mpr ⟨lw_p37, List.forall_mem_cons.mpr ⟨lw_p38, List.forall_mem_cons.mpr ⟨lw_p39, List.forall_mem_cons.mpr ⟨lw_p40, List.forall_mem_cons.mpr ⟨lw_p41, List.forall_mem_cons.mpr ⟨lw_p42, List.forall_mem_cons.mpr ⟨lw_p43, List.forall_mem_cons.mpr ⟨lw_p44, List.forall_mem_cons.mpr ⟨lw_p45, List.forall_mem_cons.mpr ⟨lw_p46, List.forall_mem_cons.mpr ⟨lw_p47, fun _ h => absurd h List.not_mem_nil⟩⟩⟩⟩⟩⟩⟩⟩⟩⟩⟩⟩⟩⟩⟩⟩
theorem lw_p48 : lw_okq (⟨"FigureLeave$Clerk", "countOn", "(LFigureLeave$House;)I"⟩, 6) := ⟨⟨by decide +kernel, by decide +kernel⟩, List.mem_of_getElem? (i := 184) (by decide +kernel), List.mem_of_getElem? (i := 683) (by decide +kernel), List.mem_of_getElem? (i := 684) (by decide +kernel)⟩
theorem lw_p49 : lw_okq (⟨"FigureLeave$Clerk", "nightsTill", "(LFigureLeave$House;II)I"⟩, 6) := ⟨⟨by decide +kernel, by decide +kernel⟩, List.mem_of_getElem? (i := 184) (by decide +kernel), List.mem_of_getElem? (i := 693) (by decide +kernel), List.mem_of_getElem? (i := 694) (by decide +kernel)⟩
theorem lw_p50 : lw_okq (⟨"FigureLeave$Clerk", "dearestBills", "(LFigureLeave$House;)I"⟩, 6) := ⟨⟨by decide +kernel, by decide +kernel⟩, List.mem_of_getElem? (i := 184) (by decide +kernel), List.mem_of_getElem? (i := 702) (by decide +kernel), List.mem_of_getElem? (i := 703) (by decide +kernel)⟩
theorem lw_p51 : lw_okq (⟨"FigureLeave$Bills", "worthOf", "(I)I"⟩, 5) := ⟨⟨by decide +kernel, by decide +kernel⟩, List.mem_of_getElem? (i := 58) (by decide +kernel), List.mem_of_getElem? (i := 706) (by decide +kernel), List.mem_of_getElem? (i := 707) (by decide +kernel)⟩
theorem lw_p52 : lw_okq (⟨"FigureLeave$Clerk", "goTogether", "(LFigureLeave$House;I)Z"⟩, 6) := ⟨⟨by decide +kernel, by decide +kernel⟩, List.mem_of_getElem? (i := 184) (by decide +kernel), List.mem_of_getElem? (i := 710) (by decide +kernel), List.mem_of_getElem? (i := 711) (by decide +kernel)⟩
theorem lw_p53 : lw_okq (⟨"FigureLeave$Clerk", "planDays", "(LFigureLeave$House;)I"⟩, 6) := ⟨⟨by decide +kernel, by decide +kernel⟩, List.mem_of_getElem? (i := 184) (by decide +kernel), List.mem_of_getElem? (i := 719) (by decide +kernel), List.mem_of_getElem? (i := 720) (by decide +kernel)⟩
theorem lw_p54 : lw_okq (⟨"FigureLeave$Clerk", "planWithin", "(LFigureLeave$House;I)Z"⟩, 6) := ⟨⟨by decide +kernel, by decide +kernel⟩, List.mem_of_getElem? (i := 184) (by decide +kernel), List.mem_of_getElem? (i := 724) (by decide +kernel), List.mem_of_getElem? (i := 725) (by decide +kernel)⟩
theorem lw_p55 : lw_okq (⟨"FigureLeave$Clerk", "holdsSoFar", "(LFigureLeave$House;II)Z"⟩, 6) := ⟨⟨by decide +kernel, by decide +kernel⟩, List.mem_of_getElem? (i := 184) (by decide +kernel), List.mem_of_getElem? (i := 729) (by decide +kernel), List.mem_of_getElem? (i := 730) (by decide +kernel)⟩
theorem lw_p56 : lw_okq (⟨"FigureLeave$Clerk", "plannedDay", "(I)I"⟩, 6) := ⟨⟨by decide +kernel, by decide +kernel⟩, List.mem_of_getElem? (i := 184) (by decide +kernel), List.mem_of_getElem? (i := 733) (by decide +kernel), List.mem_of_getElem? (i := 734) (by decide +kernel)⟩
theorem lw_p57 : lw_okq (⟨"FigureLeave$Clerk", "mostWanted", "(LFigureLeave$House;)I"⟩, 6) := ⟨⟨by decide +kernel, by decide +kernel⟩, List.mem_of_getElem? (i := 184) (by decide +kernel), List.mem_of_getElem? (i := 741) (by decide +kernel), List.mem_of_getElem? (i := 742) (by decide +kernel)⟩
theorem lw_p58 : lw_okq (⟨"FigureLeave$Clerk", "numbersWith", "(LFigureLeave$House;I)I"⟩, 6) := ⟨⟨by decide +kernel, by decide +kernel⟩, List.mem_of_getElem? (i := 184) (by decide +kernel), List.mem_of_getElem? (i := 745) (by decide +kernel), List.mem_of_getElem? (i := 746) (by decide +kernel)⟩
theorem lw_p59 : lw_okq (⟨"FigureLeave$Clues", "addTrace", "(II)V"⟩, 8) := ⟨⟨by decide +kernel, by decide +kernel⟩, List.mem_of_getElem? (i := 95) (by decide +kernel), List.mem_of_getElem? (i := 755) (by decide +kernel), List.mem_of_getElem? (i := 756) (by decide +kernel)⟩
theorem lw_p60 : lw_okq (⟨"FigureLeave$Sleuth", "howManyLines", "(LFigureLeave$House;)I"⟩, 1) := ⟨⟨by decide +kernel, by decide +kernel⟩, List.mem_of_getElem? (i := 231) (by decide +kernel), List.mem_of_getElem? (i := 763) (by decide +kernel), List.mem_of_getElem? (i := 764) (by decide +kernel)⟩
theorem lw_p61 : lw_okq (⟨"FigureLeave$Sleuth", "fitsTraces", "(LFigureLeave$House;I)Z"⟩, 1) := ⟨⟨by decide +kernel, by decide +kernel⟩, List.mem_of_getElem? (i := 231) (by decide +kernel), List.mem_of_getElem? (i := 767) (by decide +kernel), List.mem_of_getElem? (i := 768) (by decide +kernel)⟩
theorem lw_p62 : lw_okq (⟨"FigureLeave$Sleuth", "moreWorn", "(LFigureLeave$House;I)I"⟩, 1) := ⟨⟨by decide +kernel, by decide +kernel⟩, List.mem_of_getElem? (i := 231) (by decide +kernel), List.mem_of_getElem? (i := 772) (by decide +kernel), List.mem_of_getElem? (i := 773) (by decide +kernel)⟩
theorem lw_p63 : lw_okq (⟨"FigureLeave$Sleuth", "lineAt", "(LFigureLeave$House;I)I"⟩, 1) := ⟨⟨by decide +kernel, by decide +kernel⟩, List.mem_of_getElem? (i := 231) (by decide +kernel), List.mem_of_getElem? (i := 777) (by decide +kernel), List.mem_of_getElem? (i := 778) (by decide +kernel)⟩
def lw_privs_4 : List (MethodName × Nat) := [(⟨"FigureLeave$Clerk", "countOn", "(LFigureLeave$House;)I"⟩, 6), (⟨"FigureLeave$Clerk", "nightsTill", "(LFigureLeave$House;II)I"⟩, 6), (⟨"FigureLeave$Clerk", "dearestBills", "(LFigureLeave$House;)I"⟩, 6), (⟨"FigureLeave$Bills", "worthOf", "(I)I"⟩, 5), (⟨"FigureLeave$Clerk", "goTogether", "(LFigureLeave$House;I)Z"⟩, 6), (⟨"FigureLeave$Clerk", "planDays", "(LFigureLeave$House;)I"⟩, 6), (⟨"FigureLeave$Clerk", "planWithin", "(LFigureLeave$House;I)Z"⟩, 6), (⟨"FigureLeave$Clerk", "holdsSoFar", "(LFigureLeave$House;II)Z"⟩, 6), (⟨"FigureLeave$Clerk", "plannedDay", "(I)I"⟩, 6), (⟨"FigureLeave$Clerk", "mostWanted", "(LFigureLeave$House;)I"⟩, 6), (⟨"FigureLeave$Clerk", "numbersWith", "(LFigureLeave$House;I)I"⟩, 6), (⟨"FigureLeave$Clues", "addTrace", "(II)V"⟩, 8), (⟨"FigureLeave$Sleuth", "howManyLines", "(LFigureLeave$House;)I"⟩, 1), (⟨"FigureLeave$Sleuth", "fitsTraces", "(LFigureLeave$House;I)Z"⟩, 1), (⟨"FigureLeave$Sleuth", "moreWorn", "(LFigureLeave$House;I)I"⟩, 1), (⟨"FigureLeave$Sleuth", "lineAt", "(LFigureLeave$House;I)I"⟩, 1)]
theorem lw_r4 : ∀ q ∈ lw_privs_4, lw_okq q := List.forall_mem_cons.mpr ⟨lw_p48, List.forall_mem_cons.mpr ⟨lw_p49, List.forall_mem_cons.mpr ⟨lw_p50, List.forall_mem_cons.mpr ⟨lw_p51, List.forall_mem_cons.mpr ⟨lw_p52, List.forall_mem_cons.mpr ⟨lw_p53, List.forall_mem_cons.mpr ⟨lw_p54, List.forall_mem_cons.mpr ⟨lw_p55, List.forall_mem_cons.mpr ⟨lw_p56, List.forall_mem_cons.mpr ⟨lw_p57, List.forall_mem_cons.mpr ⟨lw_p58, List.forall_mem_cons.mpr ⟨lw_p59, List.forall_mem_cons.mpr ⟨lw_p60, List.forall_mem_cons.mpr ⟨lw_p61, List.forall_mem_cons.mpr ⟨lw_p62, List.forall_mem_cons.mpr ⟨lw_p63, fun _ h => absurd h List.not_mem_nil⟩⟩⟩⟩⟩⟩⟩⟩⟩⟩⟩⟩⟩⟩⟩⟩
theorem lw_p64 : lw_okq (⟨"FigureLeave$Clues", "addNote", "(IIII)V"⟩, 8) := ⟨⟨by decide +kernel, by decide +kernel⟩, List.mem_of_getElem? (i := 95) (by decide +kernel), List.mem_of_getElem? (i := 785) (by decide +kernel), List.mem_of_getElem? (i := 786) (by decide +kernel)⟩
theorem lw_p65 : lw_okq (⟨"FigureLeave$Clues", "kindsOf", "(I)I"⟩, 8) := ⟨⟨by decide +kernel, by decide +kernel⟩, List.mem_of_getElem? (i := 95) (by decide +kernel), List.mem_of_getElem? (i := 799) (by decide +kernel), List.mem_of_getElem? (i := 800) (by decide +kernel)⟩
theorem lw_p66 : lw_okq (⟨"FigureLeave$Clues", "mayBe", "(II)Z"⟩, 8) := ⟨⟨by decide +kernel, by decide +kernel⟩, List.mem_of_getElem? (i := 95) (by decide +kernel), List.mem_of_getElem? (i := 803) (by decide +kernel), List.mem_of_getElem? (i := 804) (by decide +kernel)⟩
theorem lw_p67 : lw_okq (⟨"FigureLeave$Sleuth", "nextLook", "(I)I"⟩, 1) := ⟨⟨by decide +kernel, by decide +kernel⟩, List.mem_of_getElem? (i := 231) (by decide +kernel), List.mem_of_getElem? (i := 812) (by decide +kernel), List.mem_of_getElem? (i := 813) (by decide +kernel)⟩
theorem lw_p68 : lw_okq (⟨"FigureLeave$Sleuth", "mostAlike", "(III)I"⟩, 1) := ⟨⟨by decide +kernel, by decide +kernel⟩, List.mem_of_getElem? (i := 231) (by decide +kernel), List.mem_of_getElem? (i := 816) (by decide +kernel), List.mem_of_getElem? (i := 817) (by decide +kernel)⟩
theorem lw_p69 : lw_okq (⟨"FigureLeave$Clerk", "restingPairs", "(LFigureLeave$House;II)I"⟩, 6) := ⟨⟨by decide +kernel, by decide +kernel⟩, List.mem_of_getElem? (i := 184) (by decide +kernel), List.mem_of_getElem? (i := 825) (by decide +kernel), List.mem_of_getElem? (i := 826) (by decide +kernel)⟩
theorem lw_p70 : lw_okq (⟨"FigureLeave$Clerk", "gain", "(LFigureLeave$House;IIII)I"⟩, 6) := ⟨⟨by decide +kernel, by decide +kernel⟩, List.mem_of_getElem? (i := 184) (by decide +kernel), List.mem_of_getElem? (i := 829) (by decide +kernel), List.mem_of_getElem? (i := 830) (by decide +kernel)⟩
theorem lw_p71 : lw_okq (⟨"FigureLeave$Clerk", "luckyWays", "(LFigureLeave$House;LFigureLeave$Line;I)I"⟩, 6) := ⟨⟨by decide +kernel, by decide +kernel⟩, List.mem_of_getElem? (i := 184) (by decide +kernel), List.mem_of_getElem? (i := 837) (by decide +kernel), List.mem_of_getElem? (i := 838) (by decide +kernel)⟩
theorem lw_p72 : lw_okq (⟨"FigureLeave$Clerk", "bearsFree", "(LFigureLeave$House;LFigureLeave$Line;I)Z"⟩, 6) := ⟨⟨by decide +kernel, by decide +kernel⟩, List.mem_of_getElem? (i := 184) (by decide +kernel), List.mem_of_getElem? (i := 841) (by decide +kernel), List.mem_of_getElem? (i := 842) (by decide +kernel)⟩
theorem lw_p73 : lw_okq (⟨"FigureLeave$Clerk", "waysOf", "(III)I"⟩, 6) := ⟨⟨by decide +kernel, by decide +kernel⟩, List.mem_of_getElem? (i := 184) (by decide +kernel), List.mem_of_getElem? (i := 847) (by decide +kernel), List.mem_of_getElem? (i := 848) (by decide +kernel)⟩
theorem lw_p74 : lw_okq (⟨"FigureLeave", "setFraction", "(II)V"⟩, 12) := ⟨⟨by decide +kernel, by decide +kernel⟩, List.mem_of_getElem? (i := 21) (by decide +kernel), List.mem_of_getElem? (i := 851) (by decide +kernel), List.mem_of_getElem? (i := 852) (by decide +kernel)⟩
theorem lw_p75 : lw_okq (⟨"FigureLeave$Clerk", "writtenBySeed", "(LFigureLeave$House;II)I"⟩, 6) := ⟨⟨by decide +kernel, by decide +kernel⟩, List.mem_of_getElem? (i := 184) (by decide +kernel), List.mem_of_getElem? (i := 860) (by decide +kernel), List.mem_of_getElem? (i := 861) (by decide +kernel)⟩
theorem lw_p76 : lw_okq (⟨"FigureLeave", "howMany", "(I)I"⟩, 12) := ⟨⟨by decide +kernel, by decide +kernel⟩, List.mem_of_getElem? (i := 21) (by decide +kernel), List.mem_of_getElem? (i := 889) (by decide +kernel), List.mem_of_getElem? (i := 890) (by decide +kernel)⟩
theorem lw_p77 : lw_okq (⟨"FigureLeave$Shift", "wornTogether", "()I"⟩, 2) := ⟨⟨by decide +kernel, by decide +kernel⟩, List.mem_of_getElem? (i := 35) (by decide +kernel), List.mem_of_getElem? (i := 893) (by decide +kernel), List.mem_of_getElem? (i := 894) (by decide +kernel)⟩
theorem lw_p78 : lw_okq (⟨"FigureLeave$House", "mixInto", "(J)J"⟩, 6) := ⟨⟨by decide +kernel, by decide +kernel⟩, List.mem_of_getElem? (i := 29) (by decide +kernel), List.mem_of_getElem? (i := 903) (by decide +kernel), List.mem_of_getElem? (i := 904) (by decide +kernel)⟩
theorem lw_p79 : lw_okq (⟨"FigureLeave$Clues", "mixInto", "(J)J"⟩, 8) := ⟨⟨by decide +kernel, by decide +kernel⟩, List.mem_of_getElem? (i := 95) (by decide +kernel), List.mem_of_getElem? (i := 908) (by decide +kernel), List.mem_of_getElem? (i := 909) (by decide +kernel)⟩
def lw_privs_5 : List (MethodName × Nat) := [(⟨"FigureLeave$Clues", "addNote", "(IIII)V"⟩, 8), (⟨"FigureLeave$Clues", "kindsOf", "(I)I"⟩, 8), (⟨"FigureLeave$Clues", "mayBe", "(II)Z"⟩, 8), (⟨"FigureLeave$Sleuth", "nextLook", "(I)I"⟩, 1), (⟨"FigureLeave$Sleuth", "mostAlike", "(III)I"⟩, 1), (⟨"FigureLeave$Clerk", "restingPairs", "(LFigureLeave$House;II)I"⟩, 6), (⟨"FigureLeave$Clerk", "gain", "(LFigureLeave$House;IIII)I"⟩, 6), (⟨"FigureLeave$Clerk", "luckyWays", "(LFigureLeave$House;LFigureLeave$Line;I)I"⟩, 6), (⟨"FigureLeave$Clerk", "bearsFree", "(LFigureLeave$House;LFigureLeave$Line;I)Z"⟩, 6), (⟨"FigureLeave$Clerk", "waysOf", "(III)I"⟩, 6), (⟨"FigureLeave", "setFraction", "(II)V"⟩, 12), (⟨"FigureLeave$Clerk", "writtenBySeed", "(LFigureLeave$House;II)I"⟩, 6), (⟨"FigureLeave", "howMany", "(I)I"⟩, 12), (⟨"FigureLeave$Shift", "wornTogether", "()I"⟩, 2), (⟨"FigureLeave$House", "mixInto", "(J)J"⟩, 6), (⟨"FigureLeave$Clues", "mixInto", "(J)J"⟩, 8)]
theorem lw_r5 : ∀ q ∈ lw_privs_5, lw_okq q := List.forall_mem_cons.mpr ⟨lw_p64, List.forall_mem_cons.mpr ⟨lw_p65, List.forall_mem_cons.mpr ⟨lw_p66, List.forall_mem_cons.mpr ⟨lw_p67, List.forall_mem_cons.mpr ⟨lw_p68, List.forall_mem_cons.mpr ⟨lw_p69, List.forall_mem_cons.mpr ⟨lw_p70, List.forall_mem_cons.mpr ⟨lw_p71, List.forall_mem_cons.mpr ⟨lw_p72, List.forall_mem_cons.mpr ⟨lw_p73, List.forall_mem_cons.mpr ⟨lw_p74, List.forall_mem_cons.mpr ⟨lw_p75, List.forall_mem_cons.mpr ⟨lw_p76, List.forall_mem_cons.mpr ⟨lw_p77, List.forall_mem_cons.mpr ⟨lw_p78, List.forall_mem_cons.mpr ⟨lw_p79, fun _ h => absurd h List.not_mem_nil⟩⟩⟩⟩⟩⟩⟩⟩⟩⟩⟩⟩⟩⟩⟩⟩
theorem lw_p80 : lw_okq (⟨"FigureLeaveModel", "refuses", "(I)I"⟩, 17) := ⟨⟨by decide +kernel, by decide +kernel⟩, List.mem_of_getElem? (i := 913) (by decide +kernel), List.mem_of_getElem? (i := 986) (by decide +kernel), List.mem_of_getElem? (i := 987) (by decide +kernel)⟩
theorem lw_p81 : lw_okq (⟨"FigureLeaveModel", "advances", "()V"⟩, 17) := ⟨⟨by decide +kernel, by decide +kernel⟩, List.mem_of_getElem? (i := 913) (by decide +kernel), List.mem_of_getElem? (i := 1009) (by decide +kernel), List.mem_of_getElem? (i := 1010) (by decide +kernel)⟩
theorem lw_p82 : lw_okq (⟨"FigureLeaveModel", "at", "(I)I"⟩, 17) := ⟨⟨by decide +kernel, by decide +kernel⟩, List.mem_of_getElem? (i := 913) (by decide +kernel), List.mem_of_getElem? (i := 1013) (by decide +kernel), List.mem_of_getElem? (i := 1014) (by decide +kernel)⟩
theorem lw_p83 : lw_okq (⟨"FigureLeaveModel", "word", "()I"⟩, 17) := ⟨⟨by decide +kernel, by decide +kernel⟩, List.mem_of_getElem? (i := 913) (by decide +kernel), List.mem_of_getElem? (i := 1020) (by decide +kernel), List.mem_of_getElem? (i := 1021) (by decide +kernel)⟩
theorem lw_p84 : lw_okq (⟨"FigureLeaveModel", "isWell", "()Z"⟩, 17) := ⟨⟨by decide +kernel, by decide +kernel⟩, List.mem_of_getElem? (i := 913) (by decide +kernel), List.mem_of_getElem? (i := 1024) (by decide +kernel), List.mem_of_getElem? (i := 1025) (by decide +kernel)⟩
theorem lw_p85 : lw_okq (⟨"FigureLeaveModel", "wordIs", "()I"⟩, 17) := ⟨⟨by decide +kernel, by decide +kernel⟩, List.mem_of_getElem? (i := 913) (by decide +kernel), List.mem_of_getElem? (i := 1028) (by decide +kernel), List.mem_of_getElem? (i := 1029) (by decide +kernel)⟩
theorem lw_p86 : lw_okq (⟨"FigureLeaveModel", "takes", "(Z)I"⟩, 17) := ⟨⟨by decide +kernel, by decide +kernel⟩, List.mem_of_getElem? (i := 913) (by decide +kernel), List.mem_of_getElem? (i := 1035) (by decide +kernel), List.mem_of_getElem? (i := 1036) (by decide +kernel)⟩
theorem lw_p87 : lw_okq (⟨"FigureLeaveModel", "reads", "(I)V"⟩, 17) := ⟨⟨by decide +kernel, by decide +kernel⟩, List.mem_of_getElem? (i := 913) (by decide +kernel), List.mem_of_getElem? (i := 1039) (by decide +kernel), List.mem_of_getElem? (i := 1040) (by decide +kernel)⟩
theorem lw_p88 : lw_okq (⟨"FigureLeaveModel", "number", "(II)I"⟩, 17) := ⟨⟨by decide +kernel, by decide +kernel⟩, List.mem_of_getElem? (i := 913) (by decide +kernel), List.mem_of_getElem? (i := 1043) (by decide +kernel), List.mem_of_getElem? (i := 1044) (by decide +kernel)⟩
theorem lw_p89 : lw_okq (⟨"FigureLeaveModel", "canOf", "([III)Z"⟩, 17) := ⟨⟨by decide +kernel, by decide +kernel⟩, List.mem_of_getElem? (i := 913) (by decide +kernel), List.mem_of_getElem? (i := 1047) (by decide +kernel), List.mem_of_getElem? (i := 1048) (by decide +kernel)⟩
theorem lw_p90 : lw_okq (⟨"FigureLeaveModel", "line", "(II)V"⟩, 17) := ⟨⟨by decide +kernel, by decide +kernel⟩, List.mem_of_getElem? (i := 913) (by decide +kernel), List.mem_of_getElem? (i := 1051) (by decide +kernel), List.mem_of_getElem? (i := 1052) (by decide +kernel)⟩
theorem lw_p91 : lw_okq (⟨"FigureLeaveModel", "adds", "(I)V"⟩, 17) := ⟨⟨by decide +kernel, by decide +kernel⟩, List.mem_of_getElem? (i := 913) (by decide +kernel), List.mem_of_getElem? (i := 1055) (by decide +kernel), List.mem_of_getElem? (i := 1056) (by decide +kernel)⟩
theorem lw_p92 : lw_okq (⟨"FigureLeaveModel", "wearsBy", "([III)I"⟩, 17) := ⟨⟨by decide +kernel, by decide +kernel⟩, List.mem_of_getElem? (i := 913) (by decide +kernel), List.mem_of_getElem? (i := 1059) (by decide +kernel), List.mem_of_getElem? (i := 1060) (by decide +kernel)⟩
theorem lw_p93 : lw_okq (⟨"FigureLeaveModel", "writes", "([III)V"⟩, 17) := ⟨⟨by decide +kernel, by decide +kernel⟩, List.mem_of_getElem? (i := 913) (by decide +kernel), List.mem_of_getElem? (i := 1066) (by decide +kernel), List.mem_of_getElem? (i := 1067) (by decide +kernel)⟩
theorem lw_p94 : lw_okq (⟨"FigureLeaveModel", "notes", "()V"⟩, 17) := ⟨⟨by decide +kernel, by decide +kernel⟩, List.mem_of_getElem? (i := 913) (by decide +kernel), List.mem_of_getElem? (i := 1083) (by decide +kernel), List.mem_of_getElem? (i := 1084) (by decide +kernel)⟩
theorem lw_p95 : lw_okq (⟨"FigureLeaveModel", "costOf", "(II)I"⟩, 17) := ⟨⟨by decide +kernel, by decide +kernel⟩, List.mem_of_getElem? (i := 913) (by decide +kernel), List.mem_of_getElem? (i := 1087) (by decide +kernel), List.mem_of_getElem? (i := 1088) (by decide +kernel)⟩
def lw_privs_6 : List (MethodName × Nat) := [(⟨"FigureLeaveModel", "refuses", "(I)I"⟩, 17), (⟨"FigureLeaveModel", "advances", "()V"⟩, 17), (⟨"FigureLeaveModel", "at", "(I)I"⟩, 17), (⟨"FigureLeaveModel", "word", "()I"⟩, 17), (⟨"FigureLeaveModel", "isWell", "()Z"⟩, 17), (⟨"FigureLeaveModel", "wordIs", "()I"⟩, 17), (⟨"FigureLeaveModel", "takes", "(Z)I"⟩, 17), (⟨"FigureLeaveModel", "reads", "(I)V"⟩, 17), (⟨"FigureLeaveModel", "number", "(II)I"⟩, 17), (⟨"FigureLeaveModel", "canOf", "([III)Z"⟩, 17), (⟨"FigureLeaveModel", "line", "(II)V"⟩, 17), (⟨"FigureLeaveModel", "adds", "(I)V"⟩, 17), (⟨"FigureLeaveModel", "wearsBy", "([III)I"⟩, 17), (⟨"FigureLeaveModel", "writes", "([III)V"⟩, 17), (⟨"FigureLeaveModel", "notes", "()V"⟩, 17), (⟨"FigureLeaveModel", "costOf", "(II)I"⟩, 17)]
theorem lw_r6 : ∀ q ∈ lw_privs_6, lw_okq q := List.forall_mem_cons.mpr ⟨lw_p80, List.forall_mem_cons.mpr ⟨lw_p81, List.forall_mem_cons.mpr ⟨lw_p82, List.forall_mem_cons.mpr ⟨lw_p83, List.forall_mem_cons.mpr ⟨lw_p84, List.forall_mem_cons.mpr ⟨lw_p85, List.forall_mem_cons.mpr ⟨lw_p86, List.forall_mem_cons.mpr ⟨lw_p87, List.forall_mem_cons.mpr ⟨lw_p88, List.forall_mem_cons.mpr ⟨lw_p89, List.forall_mem_cons.mpr ⟨lw_p90, List.forall_mem_cons.mpr ⟨lw_p91, List.forall_mem_cons.mpr ⟨lw_p92, List.forall_mem_cons.mpr ⟨lw_p93, List.forall_mem_cons.mpr ⟨lw_p94, List.forall_mem_cons.mpr ⟨lw_p95, fun _ h => absurd h List.not_mem_nil⟩⟩⟩⟩⟩⟩⟩⟩⟩⟩⟩⟩⟩⟩⟩⟩
theorem lw_p96 : lw_okq (⟨"FigureLeaveModel", "isBill", "(I)Z"⟩, 17) := ⟨⟨by decide +kernel, by decide +kernel⟩, List.mem_of_getElem? (i := 913) (by decide +kernel), List.mem_of_getElem? (i := 1095) (by decide +kernel), List.mem_of_getElem? (i := 1096) (by decide +kernel)⟩
theorem lw_p97 : lw_okq (⟨"FigureLeaveModel", "isPaid", "(I)Z"⟩, 17) := ⟨⟨by decide +kernel, by decide +kernel⟩, List.mem_of_getElem? (i := 913) (by decide +kernel), List.mem_of_getElem? (i := 1099) (by decide +kernel), List.mem_of_getElem? (i := 1100) (by decide +kernel)⟩
theorem lw_p98 : lw_okq (⟨"FigureLeaveModel", "leftOf", "(I)I"⟩, 17) := ⟨⟨by decide +kernel, by decide +kernel⟩, List.mem_of_getElem? (i := 913) (by decide +kernel), List.mem_of_getElem? (i := 1115) (by decide +kernel), List.mem_of_getElem? (i := 1116) (by decide +kernel)⟩
theorem lw_p99 : lw_okq (⟨"FigureLeaveModel", "bestOf", "(I)I"⟩, 17) := ⟨⟨by decide +kernel, by decide +kernel⟩, List.mem_of_getElem? (i := 913) (by decide +kernel), List.mem_of_getElem? (i := 1139) (by decide +kernel), List.mem_of_getElem? (i := 1140) (by decide +kernel)⟩
theorem lw_p100 : lw_okq (⟨"FigureLeaveModel", "wornNow", "()V"⟩, 17) := ⟨⟨by decide +kernel, by decide +kernel⟩, List.mem_of_getElem? (i := 913) (by decide +kernel), List.mem_of_getElem? (i := 1151) (by decide +kernel), List.mem_of_getElem? (i := 1152) (by decide +kernel)⟩
theorem lw_p101 : lw_okq (⟨"FigureLeaveModel", "asideBy", "(II)V"⟩, 17) := ⟨⟨by decide +kernel, by decide +kernel⟩, List.mem_of_getElem? (i := 913) (by decide +kernel), List.mem_of_getElem? (i := 1155) (by decide +kernel), List.mem_of_getElem? (i := 1156) (by decide +kernel)⟩
theorem lw_p102 : lw_okq (⟨"FigureLeaveModel", "isWithin", "(I)Z"⟩, 17) := ⟨⟨by decide +kernel, by decide +kernel⟩, List.mem_of_getElem? (i := 913) (by decide +kernel), List.mem_of_getElem? (i := 1159) (by decide +kernel), List.mem_of_getElem? (i := 1160) (by decide +kernel)⟩
theorem lw_p103 : lw_okq (⟨"FigureLeaveModel", "rests", "()V"⟩, 17) := ⟨⟨by decide +kernel, by decide +kernel⟩, List.mem_of_getElem? (i := 913) (by decide +kernel), List.mem_of_getElem? (i := 1167) (by decide +kernel), List.mem_of_getElem? (i := 1168) (by decide +kernel)⟩
theorem lw_p104 : lw_okq (⟨"FigureLeaveModel", "unpaid", "()I"⟩, 17) := ⟨⟨by decide +kernel, by decide +kernel⟩, List.mem_of_getElem? (i := 913) (by decide +kernel), List.mem_of_getElem? (i := 1175) (by decide +kernel), List.mem_of_getElem? (i := 1176) (by decide +kernel)⟩
theorem lw_p105 : lw_okq (⟨"FigureLeaveModel", "worthOf", "(I)I"⟩, 17) := ⟨⟨by decide +kernel, by decide +kernel⟩, List.mem_of_getElem? (i := 913) (by decide +kernel), List.mem_of_getElem? (i := 1179) (by decide +kernel), List.mem_of_getElem? (i := 1180) (by decide +kernel)⟩
theorem lw_p106 : lw_okq (⟨"FigureLeaveModel", "canAll", "(I)Z"⟩, 17) := ⟨⟨by decide +kernel, by decide +kernel⟩, List.mem_of_getElem? (i := 913) (by decide +kernel), List.mem_of_getElem? (i := 1183) (by decide +kernel), List.mem_of_getElem? (i := 1184) (by decide +kernel)⟩
theorem lw_p107 : lw_okq (⟨"FigureLeaveModel", "areWithin", "(I)Z"⟩, 17) := ⟨⟨by decide +kernel, by decide +kernel⟩, List.mem_of_getElem? (i := 913) (by decide +kernel), List.mem_of_getElem? (i := 1187) (by decide +kernel), List.mem_of_getElem? (i := 1188) (by decide +kernel)⟩
theorem lw_p108 : lw_okq (⟨"FigureLeaveModel", "refusesAs", "(I)I"⟩, 17) := ⟨⟨by decide +kernel, by decide +kernel⟩, List.mem_of_getElem? (i := 913) (by decide +kernel), List.mem_of_getElem? (i := 1195) (by decide +kernel), List.mem_of_getElem? (i := 1196) (by decide +kernel)⟩
theorem lw_p109 : lw_okq (⟨"FigureLeaveModel", "daysOf", "(I)I"⟩, 17) := ⟨⟨by decide +kernel, by decide +kernel⟩, List.mem_of_getElem? (i := 913) (by decide +kernel), List.mem_of_getElem? (i := 1202) (by decide +kernel), List.mem_of_getElem? (i := 1203) (by decide +kernel)⟩
theorem lw_p110 : lw_okq (⟨"FigureLeaveModel", "manyCan", "()I"⟩, 17) := ⟨⟨by decide +kernel, by decide +kernel⟩, List.mem_of_getElem? (i := 913) (by decide +kernel), List.mem_of_getElem? (i := 1210) (by decide +kernel), List.mem_of_getElem? (i := 1211) (by decide +kernel)⟩
theorem lw_p111 : lw_okq (⟨"FigureLeaveModel", "isTraced", "(II)Z"⟩, 17) := ⟨⟨by decide +kernel, by decide +kernel⟩, List.mem_of_getElem? (i := 913) (by decide +kernel), List.mem_of_getElem? (i := 1222) (by decide +kernel), List.mem_of_getElem? (i := 1223) (by decide +kernel)⟩
def lw_privs_7 : List (MethodName × Nat) := [(⟨"FigureLeaveModel", "isBill", "(I)Z"⟩, 17), (⟨"FigureLeaveModel", "isPaid", "(I)Z"⟩, 17), (⟨"FigureLeaveModel", "leftOf", "(I)I"⟩, 17), (⟨"FigureLeaveModel", "bestOf", "(I)I"⟩, 17), (⟨"FigureLeaveModel", "wornNow", "()V"⟩, 17), (⟨"FigureLeaveModel", "asideBy", "(II)V"⟩, 17), (⟨"FigureLeaveModel", "isWithin", "(I)Z"⟩, 17), (⟨"FigureLeaveModel", "rests", "()V"⟩, 17), (⟨"FigureLeaveModel", "unpaid", "()I"⟩, 17), (⟨"FigureLeaveModel", "worthOf", "(I)I"⟩, 17), (⟨"FigureLeaveModel", "canAll", "(I)Z"⟩, 17), (⟨"FigureLeaveModel", "areWithin", "(I)Z"⟩, 17), (⟨"FigureLeaveModel", "refusesAs", "(I)I"⟩, 17), (⟨"FigureLeaveModel", "daysOf", "(I)I"⟩, 17), (⟨"FigureLeaveModel", "manyCan", "()I"⟩, 17), (⟨"FigureLeaveModel", "isTraced", "(II)Z"⟩, 17)]
theorem lw_r7 : ∀ q ∈ lw_privs_7, lw_okq q := List.forall_mem_cons.mpr ⟨lw_p96, List.forall_mem_cons.mpr ⟨lw_p97, List.forall_mem_cons.mpr ⟨lw_p98, List.forall_mem_cons.mpr ⟨lw_p99, List.forall_mem_cons.mpr ⟨lw_p100, List.forall_mem_cons.mpr ⟨lw_p101, List.forall_mem_cons.mpr ⟨lw_p102, List.forall_mem_cons.mpr ⟨lw_p103, List.forall_mem_cons.mpr ⟨lw_p104, List.forall_mem_cons.mpr ⟨lw_p105, List.forall_mem_cons.mpr ⟨lw_p106, List.forall_mem_cons.mpr ⟨lw_p107, List.forall_mem_cons.mpr ⟨lw_p108, List.forall_mem_cons.mpr ⟨lw_p109, List.forall_mem_cons.mpr ⟨lw_p110, List.forall_mem_cons.mpr ⟨lw_p111, fun _ h => absurd h List.not_mem_nil⟩⟩⟩⟩⟩⟩⟩⟩⟩⟩⟩⟩⟩⟩⟩⟩
theorem lw_p112 : lw_okq (⟨"FigureLeaveModel", "wornBy", "(I)I"⟩, 17) := ⟨⟨by decide +kernel, by decide +kernel⟩, List.mem_of_getElem? (i := 913) (by decide +kernel), List.mem_of_getElem? (i := 1226) (by decide +kernel), List.mem_of_getElem? (i := 1227) (by decide +kernel)⟩
theorem lw_p113 : lw_okq (⟨"FigureLeaveModel", "kindsOf", "(I)I"⟩, 17) := ⟨⟨by decide +kernel, by decide +kernel⟩, List.mem_of_getElem? (i := 913) (by decide +kernel), List.mem_of_getElem? (i := 1242) (by decide +kernel), List.mem_of_getElem? (i := 1243) (by decide +kernel)⟩
theorem lw_p114 : lw_okq (⟨"FigureLeaveModel", "has", "(II)I"⟩, 17) := ⟨⟨by decide +kernel, by decide +kernel⟩, List.mem_of_getElem? (i := 913) (by decide +kernel), List.mem_of_getElem? (i := 1254) (by decide +kernel), List.mem_of_getElem? (i := 1255) (by decide +kernel)⟩
theorem lw_p115 : lw_okq (⟨"FigureLeaveModel", "canFree", "(III)Z"⟩, 17) := ⟨⟨by decide +kernel, by decide +kernel⟩, List.mem_of_getElem? (i := 913) (by decide +kernel), List.mem_of_getElem? (i := 1263) (by decide +kernel), List.mem_of_getElem? (i := 1264) (by decide +kernel)⟩
theorem lw_p116 : lw_okq (⟨"FigureLeaveModel", "takesBack", "(II)V"⟩, 17) := ⟨⟨by decide +kernel, by decide +kernel⟩, List.mem_of_getElem? (i := 913) (by decide +kernel), List.mem_of_getElem? (i := 1280) (by decide +kernel), List.mem_of_getElem? (i := 1281) (by decide +kernel)⟩
theorem lw_p117 : lw_okq (⟨"FigureLeaveModel", "counted", "(I)I"⟩, 17) := ⟨⟨by decide +kernel, by decide +kernel⟩, List.mem_of_getElem? (i := 913) (by decide +kernel), List.mem_of_getElem? (i := 1304) (by decide +kernel), List.mem_of_getElem? (i := 1305) (by decide +kernel)⟩
def lw_privs_8 : List (MethodName × Nat) := [(⟨"FigureLeaveModel", "wornBy", "(I)I"⟩, 17), (⟨"FigureLeaveModel", "kindsOf", "(I)I"⟩, 17), (⟨"FigureLeaveModel", "has", "(II)I"⟩, 17), (⟨"FigureLeaveModel", "canFree", "(III)Z"⟩, 17), (⟨"FigureLeaveModel", "takesBack", "(II)V"⟩, 17), (⟨"FigureLeaveModel", "counted", "(I)I"⟩, 17)]
theorem lw_r8 : ∀ q ∈ lw_privs_8, lw_okq q := List.forall_mem_cons.mpr ⟨lw_p112, List.forall_mem_cons.mpr ⟨lw_p113, List.forall_mem_cons.mpr ⟨lw_p114, List.forall_mem_cons.mpr ⟨lw_p115, List.forall_mem_cons.mpr ⟨lw_p116, List.forall_mem_cons.mpr ⟨lw_p117, fun _ h => absurd h List.not_mem_nil⟩⟩⟩⟩⟩⟩
def lw_privs : List (MethodName × Nat) := lw_privs_1 ++ (lw_privs_2 ++ (lw_privs_3 ++ (lw_privs_4 ++ (lw_privs_5 ++ (lw_privs_6 ++ (lw_privs_7 ++ (lw_privs_8)))))))
def lw_tbl : List Cond := k2_sels lw_privs ++ tables_1
theorem lw_privs_ok : ∀ q ∈ lw_privs, lw_okq q := by
  show ∀ q ∈ lw_privs_1 ++ (lw_privs_2 ++ (lw_privs_3 ++ (lw_privs_4 ++ (lw_privs_5 ++ (lw_privs_6 ++ (lw_privs_7 ++ (lw_privs_8))))))), lw_okq q
  exact List.forall_mem_append.mpr ⟨lw_r1, List.forall_mem_append.mpr ⟨lw_r2, List.forall_mem_append.mpr ⟨lw_r3, List.forall_mem_append.mpr ⟨lw_r4, List.forall_mem_append.mpr ⟨lw_r5, List.forall_mem_append.mpr ⟨lw_r6, List.forall_mem_append.mpr ⟨lw_r7, lw_r8⟩⟩⟩⟩⟩⟩⟩
-- ===== end of PART A; then your names; then what follows =====
def gw : List Cond := lw_tbl.filter goodWord
theorem gw_in {w : Cond} (h : w ∈ lw_tbl) (g : goodWord w = true) : w ∈ gw := List.mem_filter.mpr ⟨h, g⟩
theorem gw_at {w : Cond} (i : Nat) (h : lw_tbl[i]? = some w) (g : goodWord w = true) : w ∈ gw := gw_in (List.mem_of_getElem? h) g
theorem gw_good {w : Cond} (h : w ∈ gw) : (w.onTables && w.keeps) = true ∨ ∃ ty, w = .arrayClass ty := good_of_word (List.mem_filter.mp h).2
theorem gw_tbl {w : Cond} (h : w ∈ gw) : w ∈ lw_tbl := (List.mem_filter.mp h).1
end
section
def cT_F : u_T := fun k => match k with
  | 0 => ("FigureLeave", "now", "LFigureLeave$House;", true)
  | 1 => ("FigureLeave", "draft", "LFigureLeave$House;", true)
  | 2 => ("FigureLeave", "images", "[LFigureLeave$House;", true)
  | 3 => ("FigureLeave", "clerk", "LFigureLeave$Clerk;", true)
  | 4 => ("FigureLeave", "sleuth", "LFigureLeave$Sleuth;", true)
  | 5 => ("FigureLeave", "text", "LFigureLeave$Text;", true)
  | 6 => ("FigureLeave", "line", "LFigureLeave$Line;", true)
  | 7 => ("FigureLeave", "above", "I", false)
  | 8 => ("FigureLeave", "below", "I", false)
  | 9 => ("FigureLeave", "refusedBad", "I", false)
  | 10 => ("FigureLeave", "refusedNo", "I", false)
  | _ => ("FigureLeave", "refusedFull", "I", false)
def cy_F : Nat → FieldType := fun k => match k with
  | 0 => .object "FigureLeave$House"
  | 1 => .object "FigureLeave$House"
  | 2 => .array (.object "FigureLeave$House")
  | 3 => .object "FigureLeave$Clerk"
  | 4 => .object "FigureLeave$Sleuth"
  | 5 => .object "FigureLeave$Text"
  | 6 => .object "FigureLeave$Line"
  | 7 => .int
  | 8 => .int
  | 9 => .int
  | 10 => .int
  | _ => .int
theorem cn_F : ∀ a, a < 12 → ∀ b, b < 12 → a ≠ b → (cT_F a).2.1 ≠ (cT_F b).2.1 := by decide +kernel
theorem cp_F : ∀ k, k < 12 → parseFieldDescriptor (cT_F k).2.2.1 = some (cy_F k) := by decide +kernel
theorem cw_F : ∀ w ∈ u_ws "FigureLeave" cT_F 12, w ∈ gw := fun w hw => by
  have h : (u_ws "FigureLeave" cT_F 12).all (fun w => decide (w ∈ lw_tbl) && goodWord w) = true := by decide +kernel
  have h1 := List.all_eq_true.mp h w hw
  simp only [Bool.and_eq_true, decide_eq_true_eq] at h1
  exact gw_in h1.1 h1.2
def cT_H : u_T := fun k => match k with
  | 0 => ("FigureLeave$House", "kind", "[I", true)
  | 1 => ("FigureLeave$House", "strength", "[I", true)
  | 2 => ("FigureLeave$House", "shift", "LFigureLeave$Shift;", true)
  | 3 => ("FigureLeave$House", "bills", "LFigureLeave$Bills;", true)
  | 4 => ("FigureLeave$House", "clues", "LFigureLeave$Clues;", true)
  | _ => ("FigureLeave$House", "past", "LFigureLeave$Past;", true)
def cy_H : Nat → FieldType := fun k => match k with
  | 0 => .array .int
  | 1 => .array .int
  | 2 => .object "FigureLeave$Shift"
  | 3 => .object "FigureLeave$Bills"
  | 4 => .object "FigureLeave$Clues"
  | _ => .object "FigureLeave$Past"
theorem cn_H : ∀ a, a < 6 → ∀ b, b < 6 → a ≠ b → (cT_H a).2.1 ≠ (cT_H b).2.1 := by decide +kernel
theorem cp_H : ∀ k, k < 6 → parseFieldDescriptor (cT_H k).2.2.1 = some (cy_H k) := by decide +kernel
theorem cw_H : ∀ w ∈ u_ws "FigureLeave$House" cT_H 6, w ∈ gw := fun w hw => by
  have h : (u_ws "FigureLeave$House" cT_H 6).all (fun w => decide (w ∈ lw_tbl) && goodWord w) = true := by decide +kernel
  have h1 := List.all_eq_true.mp h w hw
  simp only [Bool.and_eq_true, decide_eq_true_eq] at h1
  exact gw_in h1.1 h1.2
def cT_S : u_T := fun k => match k with
  | 0 => ("FigureLeave$Shift", "worn", "[I", true)
  | _ => ("FigureLeave$Shift", "day", "I", false)
def cy_S : Nat → FieldType := fun k => match k with
  | 0 => .array .int
  | _ => .int
theorem cn_S : ∀ a, a < 2 → ∀ b, b < 2 → a ≠ b → (cT_S a).2.1 ≠ (cT_S b).2.1 := by decide +kernel
theorem cp_S : ∀ k, k < 2 → parseFieldDescriptor (cT_S k).2.2.1 = some (cy_S k) := by decide +kernel
theorem cw_S : ∀ w ∈ u_ws "FigureLeave$Shift" cT_S 2, w ∈ gw := fun w hw => by
  have h : (u_ws "FigureLeave$Shift" cT_S 2).all (fun w => decide (w ∈ lw_tbl) && goodWord w) = true := by decide +kernel
  have h1 := List.all_eq_true.mp h w hw
  simp only [Bool.and_eq_true, decide_eq_true_eq] at h1
  exact gw_in h1.1 h1.2
def cT_B : u_T := fun k => match k with
  | 0 => ("FigureLeave$Bills", "number", "[I", true)
  | 1 => ("FigureLeave$Bills", "worth", "[I", true)
  | 2 => ("FigureLeave$Bills", "size", "I", false)
  | 3 => ("FigureLeave$Bills", "paid", "I", false)
  | _ => ("FigureLeave$Bills", "earned", "I", false)
def cy_B : Nat → FieldType := fun k => match k with
  | 0 => .array .int
  | 1 => .array .int
  | 2 => .int
  | 3 => .int
  | _ => .int
theorem cn_B : ∀ a, a < 5 → ∀ b, b < 5 → a ≠ b → (cT_B a).2.1 ≠ (cT_B b).2.1 := by decide +kernel
theorem cp_B : ∀ k, k < 5 → parseFieldDescriptor (cT_B k).2.2.1 = some (cy_B k) := by decide +kernel
theorem cw_B : ∀ w ∈ u_ws "FigureLeave$Bills" cT_B 5, w ∈ gw := fun w hw => by
  have h : (u_ws "FigureLeave$Bills" cT_B 5).all (fun w => decide (w ∈ lw_tbl) && goodWord w) = true := by decide +kernel
  have h1 := List.all_eq_true.mp h w hw
  simp only [Bool.and_eq_true, decide_eq_true_eq] at h1
  exact gw_in h1.1 h1.2
def cT_C : u_T := fun k => match k with
  | 0 => ("FigureLeave$Clues", "traceFigure", "[I", true)
  | 1 => ("FigureLeave$Clues", "traceMore", "[I", true)
  | 2 => ("FigureLeave$Clues", "traces", "I", false)
  | 3 => ("FigureLeave$Clues", "noteFigure", "[I", true)
  | 4 => ("FigureLeave$Clues", "noteSign", "[I", true)
  | 5 => ("FigureLeave$Clues", "noteDay", "[I", true)
  | 6 => ("FigureLeave$Clues", "noteMore", "[I", true)
  | _ => ("FigureLeave$Clues", "notes", "I", false)
def cy_C : Nat → FieldType := fun k => match k with
  | 0 => .array .int
  | 1 => .array .int
  | 2 => .int
  | 3 => .array .int
  | 4 => .array .int
  | 5 => .array .int
  | 6 => .array .int
  | _ => .int
theorem cn_C : ∀ a, a < 8 → ∀ b, b < 8 → a ≠ b → (cT_C a).2.1 ≠ (cT_C b).2.1 := by decide +kernel
theorem cp_C : ∀ k, k < 8 → parseFieldDescriptor (cT_C k).2.2.1 = some (cy_C k) := by decide +kernel
theorem cw_C : ∀ w ∈ u_ws "FigureLeave$Clues" cT_C 8, w ∈ gw := fun w hw => by
  have h : (u_ws "FigureLeave$Clues" cT_C 8).all (fun w => decide (w ∈ lw_tbl) && goodWord w) = true := by decide +kernel
  have h1 := List.all_eq_true.mp h w hw
  simp only [Bool.and_eq_true, decide_eq_true_eq] at h1
  exact gw_in h1.1 h1.2
def cT_P : u_T := fun k => match k with
  | 0 => ("FigureLeave$Past", "rows", "[I", true)
  | _ => ("FigureLeave$Past", "size", "I", false)
def cy_P : Nat → FieldType := fun k => match k with
  | 0 => .array .int
  | _ => .int
theorem cn_P : ∀ a, a < 2 → ∀ b, b < 2 → a ≠ b → (cT_P a).2.1 ≠ (cT_P b).2.1 := by decide +kernel
theorem cp_P : ∀ k, k < 2 → parseFieldDescriptor (cT_P k).2.2.1 = some (cy_P k) := by decide +kernel
theorem cw_P : ∀ w ∈ u_ws "FigureLeave$Past" cT_P 2, w ∈ gw := fun w hw => by
  have h : (u_ws "FigureLeave$Past" cT_P 2).all (fun w => decide (w ∈ lw_tbl) && goodWord w) = true := by decide +kernel
  have h1 := List.all_eq_true.mp h w hw
  simp only [Bool.and_eq_true, decide_eq_true_eq] at h1
  exact gw_in h1.1 h1.2
def cT_L : u_T := fun k => match k with
  | 0 => ("FigureLeave$Line", "signs", "[I", true)
  | _ => ("FigureLeave$Line", "size", "I", false)
def cy_L : Nat → FieldType := fun k => match k with
  | 0 => .array .int
  | _ => .int
theorem cn_L : ∀ a, a < 2 → ∀ b, b < 2 → a ≠ b → (cT_L a).2.1 ≠ (cT_L b).2.1 := by decide +kernel
theorem cp_L : ∀ k, k < 2 → parseFieldDescriptor (cT_L k).2.2.1 = some (cy_L k) := by decide +kernel
theorem cw_L : ∀ w ∈ u_ws "FigureLeave$Line" cT_L 2, w ∈ gw := fun w hw => by
  have h : (u_ws "FigureLeave$Line" cT_L 2).all (fun w => decide (w ∈ lw_tbl) && goodWord w) = true := by decide +kernel
  have h1 := List.all_eq_true.mp h w hw
  simp only [Bool.and_eq_true, decide_eq_true_eq] at h1
  exact gw_in h1.1 h1.2
def cT_K : u_T := fun k => match k with
  | 0 => ("FigureLeave$Clerk", "line", "LFigureLeave$Line;", true)
  | 1 => ("FigureLeave$Clerk", "trial", "LFigureLeave$Shift;", true)
  | 2 => ("FigureLeave$Clerk", "openBills", "[I", true)
  | 3 => ("FigureLeave$Clerk", "chosenDay", "[I", true)
  | 4 => ("FigureLeave$Clerk", "opens", "I", false)
  | _ => ("FigureLeave$Clerk", "daysPlanned", "I", false)
def cy_K : Nat → FieldType := fun k => match k with
  | 0 => .object "FigureLeave$Line"
  | 1 => .object "FigureLeave$Shift"
  | 2 => .array .int
  | 3 => .array .int
  | 4 => .int
  | _ => .int
theorem cn_K : ∀ a, a < 6 → ∀ b, b < 6 → a ≠ b → (cT_K a).2.1 ≠ (cT_K b).2.1 := by decide +kernel
theorem cp_K : ∀ k, k < 6 → parseFieldDescriptor (cT_K k).2.2.1 = some (cy_K k) := by decide +kernel
theorem cw_K : ∀ w ∈ u_ws "FigureLeave$Clerk" cT_K 6, w ∈ gw := fun w hw => by
  have h : (u_ws "FigureLeave$Clerk" cT_K 6).all (fun w => decide (w ∈ lw_tbl) && goodWord w) = true := by decide +kernel
  have h1 := List.all_eq_true.mp h w hw
  simp only [Bool.and_eq_true, decide_eq_true_eq] at h1
  exact gw_in h1.1 h1.2
def cT_U : u_T := fun k => match k with
  | _ => ("FigureLeave$Sleuth", "line", "LFigureLeave$Line;", true)
def cy_U : Nat → FieldType := fun k => match k with
  | _ => .object "FigureLeave$Line"
theorem cn_U : ∀ a, a < 1 → ∀ b, b < 1 → a ≠ b → (cT_U a).2.1 ≠ (cT_U b).2.1 := by decide +kernel
theorem cp_U : ∀ k, k < 1 → parseFieldDescriptor (cT_U k).2.2.1 = some (cy_U k) := by decide +kernel
theorem cw_U : ∀ w ∈ u_ws "FigureLeave$Sleuth" cT_U 1, w ∈ gw := fun w hw => by
  have h : (u_ws "FigureLeave$Sleuth" cT_U 1).all (fun w => decide (w ∈ lw_tbl) && goodWord w) = true := by decide +kernel
  have h1 := List.all_eq_true.mp h w hw
  simp only [Bool.and_eq_true, decide_eq_true_eq] at h1
  exact gw_in h1.1 h1.2
def cT_T : u_T := fun k => match k with
  | 0 => ("FigureLeave$Text", "bytes", "[I", true)
  | 1 => ("FigureLeave$Text", "line", "LFigureLeave$Line;", true)
  | 2 => ("FigureLeave$Text", "size", "I", false)
  | 3 => ("FigureLeave$Text", "at", "I", false)
  | 4 => ("FigureLeave$Text", "place", "I", false)
  | 5 => ("FigureLeave$Text", "sort", "I", false)
  | _ => ("FigureLeave$Text", "value", "I", false)
def cy_T : Nat → FieldType := fun k => match k with
  | 0 => .array .int
  | 1 => .object "FigureLeave$Line"
  | 2 => .int
  | 3 => .int
  | 4 => .int
  | 5 => .int
  | _ => .int
theorem cn_T : ∀ a, a < 7 → ∀ b, b < 7 → a ≠ b → (cT_T a).2.1 ≠ (cT_T b).2.1 := by decide +kernel
theorem cp_T : ∀ k, k < 7 → parseFieldDescriptor (cT_T k).2.2.1 = some (cy_T k) := by decide +kernel
theorem cw_T : ∀ w ∈ u_ws "FigureLeave$Text" cT_T 7, w ∈ gw := fun w hw => by
  have h : (u_ws "FigureLeave$Text" cT_T 7).all (fun w => decide (w ∈ lw_tbl) && goodWord w) = true := by decide +kernel
  have h1 := List.all_eq_true.mp h w hw
  simp only [Bool.and_eq_true, decide_eq_true_eq] at h1
  exact gw_in h1.1 h1.2
def cT_M : u_T := fun k => match k with
  | 0 => ("FigureLeaveModel", "thrown", "I", false)
  | 1 => ("FigureLeaveModel", "now", "[I", true)
  | 2 => ("FigureLeaveModel", "draft", "[I", true)
  | 3 => ("FigureLeaveModel", "kept", "[I", true)
  | 4 => ("FigureLeaveModel", "isKept", "[Z", true)
  | 5 => ("FigureLeaveModel", "text", "[I", true)
  | 6 => ("FigureLeaveModel", "typed", "I", false)
  | 7 => ("FigureLeaveModel", "next", "I", false)
  | 8 => ("FigureLeaveModel", "place", "I", false)
  | 9 => ("FigureLeaveModel", "token", "I", false)
  | 10 => ("FigureLeaveModel", "fault", "I", false)
  | 11 => ("FigureLeaveModel", "refused", "[I", true)
  | 12 => ("FigureLeaveModel", "up", "J", false)
  | 13 => ("FigureLeaveModel", "low", "J", false)
  | 14 => ("FigureLeaveModel", "worn", "[I", true)
  | 15 => ("FigureLeaveModel", "signs", "[I", true)
  | _ => ("FigureLeaveModel", "many", "I", false)
def cy_M : Nat → FieldType := fun k => match k with
  | 0 => .int
  | 1 => .array .int
  | 2 => .array .int
  | 3 => .array .int
  | 4 => .array .boolean
  | 5 => .array .int
  | 6 => .int
  | 7 => .int
  | 8 => .int
  | 9 => .int
  | 10 => .int
  | 11 => .array .int
  | 12 => .long
  | 13 => .long
  | 14 => .array .int
  | 15 => .array .int
  | _ => .int
theorem cn_M : ∀ a, a < 17 → ∀ b, b < 17 → a ≠ b → (cT_M a).2.1 ≠ (cT_M b).2.1 := by decide +kernel
theorem cp_M : ∀ k, k < 17 → parseFieldDescriptor (cT_M k).2.2.1 = some (cy_M k) := by decide +kernel
theorem cw_M : ∀ w ∈ u_ws "FigureLeaveModel" cT_M 17, w ∈ gw := fun w hw => by
  have h : (u_ws "FigureLeaveModel" cT_M 17).all (fun w => decide (w ∈ lw_tbl) && goodWord w) = true := by decide +kernel
  have h1 := List.all_eq_true.mp h w hw
  simp only [Bool.and_eq_true, decide_eq_true_eq] at h1
  exact gw_in h1.1 h1.2
abbrev cls : List vw_C := [("FigureLeave", cT_F, 12), ("FigureLeave$House", cT_H, 6), ("FigureLeave$Shift", cT_S, 2), ("FigureLeave$Bills", cT_B, 5), ("FigureLeave$Clues", cT_C, 8), ("FigureLeave$Past", cT_P, 2), ("FigureLeave$Line", cT_L, 2), ("FigureLeave$Clerk", cT_K, 6), ("FigureLeave$Sleuth", cT_U, 1), ("FigureLeave$Text", cT_T, 7), ("FigureLeaveModel", cT_M, 17)]
theorem cl_facts : ∀ (ci : Nat) (C : String) (T : u_T) (N : Nat), cls[ci]? = some (C, T, N) → (∀ w ∈ u_ws C T N, w ∈ gw) ∧ (∃ ty0 : Nat → FieldType, ∀ k, k < N → parseFieldDescriptor (T k).2.2.1 = some (ty0 k)) ∧ (∀ a, a < N → ∀ b, b < N → a ≠ b → (T a).2.1 ≠ (T b).2.1) := by
  intro ci C T N h
  match ci, h with
  | 0, h => cases h; exact ⟨cw_F, ⟨cy_F, cp_F⟩, cn_F⟩
  | 1, h => cases h; exact ⟨cw_H, ⟨cy_H, cp_H⟩, cn_H⟩
  | 2, h => cases h; exact ⟨cw_S, ⟨cy_S, cp_S⟩, cn_S⟩
  | 3, h => cases h; exact ⟨cw_B, ⟨cy_B, cp_B⟩, cn_B⟩
  | 4, h => cases h; exact ⟨cw_C, ⟨cy_C, cp_C⟩, cn_C⟩
  | 5, h => cases h; exact ⟨cw_P, ⟨cy_P, cp_P⟩, cn_P⟩
  | 6, h => cases h; exact ⟨cw_L, ⟨cy_L, cp_L⟩, cn_L⟩
  | 7, h => cases h; exact ⟨cw_K, ⟨cy_K, cp_K⟩, cn_K⟩
  | 8, h => cases h; exact ⟨cw_U, ⟨cy_U, cp_U⟩, cn_U⟩
  | 9, h => cases h; exact ⟨cw_T, ⟨cy_T, cp_T⟩, cn_T⟩
  | 10, h => cases h; exact ⟨cw_M, ⟨cy_M, cp_M⟩, cn_M⟩
  | n + 11, h => simp [cls] at h
end
section
/-! THE LAYER: methods by a plain heap of places. A place is a number; 0 is the script, 1 .. 5 the five texts, 6 .. 10 their bytes, 11 on the cells that the run makes, in their order. -/
abbrev mI : Type := MethodName × ByteArray × Nat × Option FieldType × Room
def mI_ws (y : mI) : List Cond := Cond.code y.1 y.2.1 y.2.2.1 y.2.2.2.1 :: gw
/-- addresses of places, the first own address, class and slot numbers, array classes, the script's length and ints -/
abbrev eT : Type := (Nat → Nat) × Nat × va_G × (Nat → ClassId) × Nat × (Nat → Int32)
abbrev cT : Type := (Nat × vp_A) ⊕ (Nat × List Value)
abbrev hT : Type := Nat → cT
abbrev lT : Type := List (Option Value)
def e_sh (E : eT) (v : Value) : Value := match v with
  | .ref a => .ref (E.1 a)
  | v => v
def e_ar (E : eT) (a : vp_A) : vp_A := (a.1, match a.2 with
  | .inr (.inr (.inr (.inr f))) => .inr (.inr (.inr (.inr (fun j => (f j).map E.1))))
  | x => x)
def e_ce (E : eT) (c : cT) : va_E := match c with
  | .inl a => .inl (E.2.2.2.1 a.1, e_ar E a.2)
  | .inr o => .inr (o.1, o.2.map (e_sh E))
def e_W (E : eT) (k : Nat) (h : hT) : va_W := (List.range k).map (fun i => (E.1 (i + 11), e_ce E (h (i + 11))))
abbrev dead : cT := .inr (99, [])
def e_ty (E : eT) : List (ClassId × FieldType) := [(E.2.2.2.1 0, .int), (E.2.2.2.1 1, .boolean), (E.2.2.2.1 2, .object "FigureLeave$House")]
def e_lv (E : eT) : Nat → lT → List (Nat × Value)
  | _, [] => []
  | i, none :: t => e_lv E (i + 1) t
  | i, some v :: t => (i, e_sh E v) :: e_lv E (i + 1) t
abbrev e_A (E : eT) : Nat → Prop := fun q => E.2.1 ≤ q
def sJ_len : List Nat := [5, 6, 4, 5, 5]
def sJ_byt : List (List Int32) := [[104, 111, 117, 115, 101], [102, 105, 103, 117, 114, 101], [98, 105, 108, 108], [119, 114, 105, 116, 101], [110, 105, 103, 104, 116]]
/-- what isn't ours: the script, the texts -/
def fX (E : eT) (U : State) (H : Heap) : Prop := (va_X (E.1 0) E.2.2.2.2.1 E.2.2.2.2.2 U H ∧ E.1 0 < E.2.1) ∧ vk_S 5 sJ_len sJ_byt (fun i => E.1 (i + 1)) (fun i => E.1 (i + 6)) (e_A E) U H ∧
  vk_R "FigureLeave$Text" 50 "house" (E.1 1) U ∧ vk_R "FigureLeave$Text" 56 "figure" (E.1 2) U ∧ vk_R "FigureLeave$Text" 62 "bill" (E.1 3) U ∧ vk_R "FigureLeave$Text" 67 "write" (E.1 4) U ∧ vk_R "FigureLeave$Text" 72 "night" (E.1 5) U
theorem fX.kept {E : eT} {U : State} {H H1 : Heap} (h : fX E U H) (hz : E.2.1 ≤ H.size) (hq : ∀ q : Nat, q < E.2.1 → H1[q]? = H[q]?) : fX E U H1 :=
  ⟨⟨h.1.1.kept (hq _ h.1.2), h.1.2⟩, h.2.1.kept (fun a _ hA => hq a (Nat.not_le.mp hA)), h.2.2⟩
theorem fX.moved {E : eT} {u U : State} {H : Heap} (hW : u.WarmedH U.vm) (h : fX E u H) : fX E U H :=
  ⟨⟨h.1.1.moved hW.alike, h.1.2⟩, h.2.1.moved hW.alike, h.2.2.1.warm hW, h.2.2.2.1.warm hW, h.2.2.2.2.1.warm hW, h.2.2.2.2.2.1.warm hW, h.2.2.2.2.2.2.warm hW⟩
theorem fX.same {E : eT} {u U : State} {H : Heap} (hv : U.vm = u.vm) (h : fX E u H) : fX E U H :=
  ⟨⟨h.1.1.moved (by rw [hv]; exact Vm.Alike.refl _), h.1.2⟩, h.2.1.moved (by rw [hv]; exact Vm.Alike.refl _), h.2.2.1.same hv, h.2.2.2.1.same hv, h.2.2.2.2.1.same hv, h.2.2.2.2.2.1.same hv, h.2.2.2.2.2.2.same hv⟩
/-- the machine's heap H holds the k cells of h -/
def fR (E : eT) (k : Nat) (h : hT) (U : State) (H : Heap) : Prop :=
  H.size = E.2.1 + k ∧ (∀ i, E.1 (i + 11) = E.2.1 + i) ∧ (∀ i, i < 11 ∨ k + 11 ≤ i → h i = dead) ∧ va_P E.2.2.1 cls (e_W E k h) H ∧ va_K E.2.2.1 cls (e_ty E) U ∧ fX E U H
def fQ (E : eT) (Q : Option Value → Nat → hT → Prop) : Array Value → State → Outcome → State → Prop := fun _ st o t => (∃ (r : Option Value) (k : Nat) (h : hT), o = .returned (r.map (e_sh E)) ∧ Q r k h ∧ fR E k h t t.heap) ∧ va_F (e_A E) st t
def fF (y : mI) (E : eT) (p : Program) (s : State) (m : MethodId) (args : Array Value) (meth : Method) (c : Code) : Prop := p.tables.exec = Jvm.exec ∧ c.code = y.2.1 ∧ meth.sig.returnType = y.2.2.2.1 ∧ c.maxLocals = y.2.2.1 ∧ s.vm.findClass y.1.cls = some m.cls ∧ (∀ w ∈ mI_ws y, w.before args s = true) ∧ meth.locks = false ∧ meth.name = y.1.name
abbrev zT : Type := List Frame → Array Value → State → State → Prop
/-- from place pc on, with locals L and operands st, over the heap h of k cells (nc cells and ns slots made so far): the machine comes to an end that Z allows -/
def fA (y : mI) (E : eT) (Z : zT) (k : Nat) (h : hT) (nc ns pc : Nat) (L : lT) (st : List Value) : Prop :=
  ∀ (p : Program) (l : Launch) (e : Env) (s : State) (m : MethodId) (args : Array Value) (below : List Frame) (meth : Method) (c : Code) (H : Heap) (locs : List Loc) (ls : Array Slot),
    fF y E p s m args meth c → fR E k h s H → va_S (e_A E) s.heap H locs → lv_has ls y.2.2.1 (e_lv E 0 L) → nc ≤ y.2.2.2.2.cells → ns ≤ y.2.2.2.2.slots →
    W p l e y.2.2.2.2 s m args below meth c H locs nc ns (Z below args s) (F0 m pc ls (st.map (e_sh E)))
def fZ (y : mI) (E : eT) (Q : Option Value → Nat → hT → Prop) : zT := fun below args s => MQ below (fQ E Q) args s y.2.2.2.2.cells y.2.2.2.2.slots (e_A E)
/-- method y, called with As over the heap h of k cells, returns r and leaves the heap h' of k' cells, with Q r k' h' -/
def fE (y : mI) (E : eT) (As : List Value) (k : Nat) (h : hT) (Q : Option Value → Nat → hT → Prop) : Prop :=
  ∀ l : Launch, Met l y.1 (mI_ws y) y.2.2.2.2 (va_Pc (As.map (e_sh E)) (fun U => fR E k h U U.heap)) (fQ E Q) y.2.2.2.2.cells y.2.2.2.2.slots (e_A E)
abbrev eV (v : Value) (k : Nat) (h : hT) : Option Value → Nat → hT → Prop := fun r k' h' => r = some v ∧ k' = k ∧ h' = h
abbrev eN (k : Nat) (h : hT) : Option Value → Nat → hT → Prop := fun r k' h' => r = none ∧ k' = k ∧ h' = h
-- ===== the heap as a list of cells =====
theorem e_W_len (E : eT) (k : Nat) (h : hT) : (e_W E k h).length = k := by simp [e_W]
theorem e_W_get {E : eT} {k : Nat} {h : hT} {j : Nat} (hj : j < k) : (e_W E k h)[j]? = some (E.1 (j + 11), e_ce E (h (j + 11))) := by
  simp [e_W, hj]
theorem e_W_inv {E : eT} {k : Nat} {h : hT} {j : Nat} {q : Nat × va_E} (hq : (e_W E k h)[j]? = some q) : j < k ∧ q = (E.1 (j + 11), e_ce E (h (j + 11))) := by
  have hj : j < k := by
    have := (List.getElem?_eq_some_iff.mp hq).1
    rwa [e_W_len] at this
  rw [e_W_get hj] at hq
  exact ⟨hj, (Option.some.inj hq).symm⟩
theorem e_W_set {E : eT} {k : Nat} {h : hT} {j : Nat} (hj : j < k) (c : cT) : (e_W E k h).set j (E.1 (j + 11), e_ce E c) = e_W E k (va_up h (j + 11) c) := by
  apply List.ext_getElem?
  intro i
  by_cases hi : i = j
  · subst hi
    rw [List.getElem?_set_self (by rw [e_W_len]; exact hj), e_W_get hj]
    simp [va_up]
  · rw [List.getElem?_set_ne (Ne.symm hi)]
    by_cases hk : i < k
    · rw [e_W_get hk, e_W_get hk]
      simp [va_up, hi]
    · rw [List.getElem?_eq_none (by rw [e_W_len]; omega), List.getElem?_eq_none (by rw [e_W_len]; omega)]
theorem e_W_push {E : eT} {k : Nat} {h : hT} (c : cT) : e_W E (k + 1) (va_up h (k + 11) c) = e_W E k h ++ [(E.1 (k + 11), e_ce E c)] := by
  apply List.ext_getElem?
  intro i
  by_cases hi : i < k
  · rw [e_W_get (by omega), List.getElem?_append_left (by rw [e_W_len]; exact hi), e_W_get hi]
    have : i ≠ k := by omega
    simp [va_up, this]
  · by_cases hk : i = k
    · subst hk
      rw [e_W_get (by omega), List.getElem?_append_right (by rw [e_W_len]; omega), e_W_len]
      simp [va_up]
    · rw [List.getElem?_eq_none (by rw [e_W_len]; omega), List.getElem?_eq_none (by simp [e_W_len]; omega)]
theorem e_D {E : eT} {k : Nat} {h : hT} (ha : ∀ i, E.1 (i + 11) = E.2.1 + i) : va_D (e_A E) (e_W E k h) := by
  refine ⟨fun i j p q hi hj hpq => ?_, fun i q hi => ?_⟩
  · obtain ⟨-, rfl⟩ := e_W_inv hi
    obtain ⟨-, rfl⟩ := e_W_inv hj
    simp only [ha] at hpq
    omega
  · obtain ⟨-, rfl⟩ := e_W_inv hi
    show E.2.1 ≤ E.1 (i + 11)
    rw [ha]
    omega
/-- a cell that isn't dead is one of the list -/
theorem fR.get {E : eT} {k : Nat} {h : hT} {U : State} {H : Heap} (R : fR E k h U H) {q : Nat} {c : cT} (hq : h q = c) (hc : c ≠ dead) : ∃ j, q = j + 11 ∧ j < k ∧ (e_W E k h)[j]? = some (E.1 q, e_ce E c) := by
  have h1 : ¬ (q < 11 ∨ k + 11 ≤ q) := fun z => hc (hq.symm.trans (R.2.2.1 q z))
  refine ⟨q - 11, by omega, by omega, ?_⟩
  rw [e_W_get (by omega), show q - 11 + 11 = q by omega, hq]
theorem ne_dead_l {a : Nat × vp_A} : (Sum.inl a : cT) ≠ dead := fun h => by cases h
theorem ne_dead_r {ci : Nat} {fs : List Value} {q : vw_C} (h : cls[ci]? = some q) : (Sum.inr (ci, fs) : cT) ≠ dead := fun z => by
  cases z
  simp [cls] at h
/-- a cell is written -/
theorem fR.set {E : eT} {k : Nat} {h : hT} {U : State} {H H1 : Heap} (R : fR E k h U H) {j : Nat} (hj : j < k) {c : cT} (hz : H1.size = H.size) (hP : va_P E.2.2.1 cls ((e_W E k h).set j (E.1 (j + 11), e_ce E c)) H1) (ho : ∀ q, q < E.2.1 → H1[q]? = H[q]?) : fR E k (va_up h (j + 11) c) U H1 := by
  refine ⟨hz.trans R.1, R.2.1, fun i hi => ?_, ?_, R.2.2.2.2.1, R.2.2.2.2.2.kept (by rw [R.1]; omega) ho⟩
  · have : i ≠ j + 11 := by omega
    show va_up h (j + 11) c i = dead
    rw [va_up, if_neg this]
    exact R.2.2.1 i hi
  · rw [← e_W_set hj]
    exact hP
/-- a cell is made -/
theorem fR.push {E : eT} {k : Nat} {h : hT} {U : State} {H H1 : Heap} (R : fR E k h U H) {c : cT} (hz : H1.size = H.size + 1) (hP : va_P E.2.2.1 cls (e_W E k h ++ [(E.1 (k + 11), e_ce E c)]) H1) (ho : ∀ q, q < H.size → H1[q]? = H[q]?) : fR E (k + 1) (va_up h (k + 11) c) U H1 := by
  refine ⟨by rw [hz, R.1]; omega, R.2.1, fun i hi => ?_, ?_, R.2.2.2.2.1, R.2.2.2.2.2.kept (by rw [R.1]; omega) (fun q hq => ho q (by rw [R.1]; omega))⟩
  · have : i ≠ k + 11 := by omega
    show va_up h (k + 11) c i = dead
    rw [va_up, if_neg this]
    exact R.2.2.1 i (by omega)
  · rw [e_W_push]
    exact hP
theorem fR.same {E : eT} {k : Nat} {h : hT} {u U : State} {H : Heap} (R : fR E k h u H) (hv : U.vm = u.vm) : fR E k h U H := ⟨R.1, R.2.1, R.2.2.1, R.2.2.2.1, va_K.moved (by rw [hv]; exact Vm.Alike.refl _) R.2.2.2.2.1, R.2.2.2.2.2.same hv⟩
theorem fR.warm {E : eT} {k : Nat} {h : hT} {u U : State} {H : Heap} (R : fR E k h u H) (hW : u.WarmedH U.vm) : fR E k h U H := ⟨R.1, R.2.1, R.2.2.1, R.2.2.2.1, va_K.moved hW.alike R.2.2.2.2.1, R.2.2.2.2.2.moved hW⟩
-- ===== locals =====
theorem e_lv_mem {E : eT} {q : Nat × Value} : ∀ {L : lT} {i : Nat}, q ∈ e_lv E i L ↔ ∃ (j : Nat) (v : Value), L[j]? = some (some v) ∧ q = (i + j, e_sh E v) := by
  intro L
  induction L with
  | nil => intro i; simp [e_lv]
  | cons x t ih =>
    intro i
    cases x with
    | none =>
      simp only [e_lv, ih]
      constructor
      · rintro ⟨j, v, h1, h2⟩
        exact ⟨j + 1, v, by simpa using h1, by rw [h2]; congr 1; omega⟩
      · rintro ⟨j, v, h1, h2⟩
        cases j with
        | zero => simp at h1
        | succ j => exact ⟨j, v, by simpa using h1, by rw [h2]; congr 1; omega⟩
    | some w =>
      simp only [e_lv, List.mem_cons, ih]
      constructor
      · rintro (h | ⟨j, v, h1, h2⟩)
        · exact ⟨0, w, rfl, h⟩
        · exact ⟨j + 1, v, by simpa using h1, by rw [h2]; congr 1; omega⟩
      · rintro ⟨j, v, h1, h2⟩
        cases j with
        | zero =>
          left
          have : w = v := by simpa using h1
          rw [h2, this]; rfl
        | succ j => right; exact ⟨j, v, by simpa using h1, by rw [h2]; congr 1; omega⟩
theorem e_lv_at {E : eT} {L : lT} {ls : Array Slot} {n : Nat} (hl : lv_has ls n (e_lv E 0 L)) {j : Nat} {v : Value} (h : L[j]? = some (some v)) : ls[j]? = some (.val (e_sh E v)) :=
  hl.2.2 (j, e_sh E v) (e_lv_mem.mpr ⟨j, v, h, by simp⟩)
theorem e_sh_cat (E : eT) (v : Value) : (e_sh E v).category = v.category := by cases v <;> rfl
/-- a store of one slot: the place left of it holds no long -/
def c1 (x : Option Value) : Bool := match x with
  | some v => v.category != 2
  | none => true
theorem e_lv_put {E : eT} {L L' : lT} {ls : Array Slot} {n i : Nat} {v : Value} (hl : lv_has ls n ((i, e_sh E v) :: (e_lv E 0 L).filter (fun q => !(q.1 == i) && !(q.1 + 1 == i && q.2.category == 2)))) (hL : L' = L.set i (some v)) (hc : ∀ j x, j + 1 = i → L[j]? = some x → c1 x = true) : lv_has ls n (e_lv E 0 L') := by
  refine ⟨hl.1, hl.2.1, fun q hq => ?_⟩
  obtain ⟨j, w, h1, h2⟩ := e_lv_mem.mp hq
  rw [hL] at h1
  rw [h2]
  by_cases hj : j = i
  · subst hj
    have hlt : j < (L.set j (some v)).length := (List.getElem?_eq_some_iff.mp h1).1
    rw [List.getElem?_set_self (by simpa using hlt)] at h1
    cases h1
    have := hl.2.2 (j, e_sh E v) List.mem_cons_self
    simpa using this
  · rw [List.getElem?_set_ne (Ne.symm hj)] at h1
    refine hl.2.2 (0 + j, e_sh E w) (List.mem_cons_of_mem _ (List.mem_filter.mpr ⟨e_lv_mem.mpr ⟨j, w, h1, rfl⟩, ?_⟩))
    have e1 : (0 + j == i) = false := by simp; omega
    simp only [e1, Bool.not_false, Bool.true_and]
    by_cases hji : j + 1 = i
    · have := hc j _ hji h1
      simp only [c1, bne_iff_ne, ne_eq] at this
      simp [e_sh_cat, this]
    · simp; exact Or.inl hji
theorem e_lv_put2 {E : eT} {L L' : lT} {ls : Array Slot} {n i : Nat} {v : Value} (hl : lv_has ls n ((i, e_sh E v) :: (e_lv E 0 L).filter (fun q => !(q.1 == i) && (!(q.1 == i + 1) && !(q.1 + 1 == i && q.2.category == 2))))) (hL : L' = (L.set i (some v)).set (i + 1) none) (hc : ∀ j x, j + 1 = i → L[j]? = some x → c1 x = true) : lv_has ls n (e_lv E 0 L') := by
  refine ⟨hl.1, hl.2.1, fun q hq => ?_⟩
  obtain ⟨j, w, h1, h2⟩ := e_lv_mem.mp hq
  rw [hL] at h1
  rw [h2]
  have hj2 : j ≠ i + 1 := by
    intro e
    subst e
    have hlt : i + 1 < ((L.set i (some v)).set (i + 1) none).length := (List.getElem?_eq_some_iff.mp h1).1
    rw [List.getElem?_set_self (by simpa using hlt)] at h1
    cases h1
  rw [List.getElem?_set_ne (Ne.symm hj2)] at h1
  by_cases hj : j = i
  · subst hj
    have hlt : j < (L.set j (some v)).length := (List.getElem?_eq_some_iff.mp h1).1
    rw [List.getElem?_set_self (by simpa using hlt)] at h1
    cases h1
    have := hl.2.2 (j, e_sh E v) List.mem_cons_self
    simpa using this
  · rw [List.getElem?_set_ne (Ne.symm hj)] at h1
    refine hl.2.2 (0 + j, e_sh E w) (List.mem_cons_of_mem _ (List.mem_filter.mpr ⟨e_lv_mem.mpr ⟨j, w, h1, rfl⟩, ?_⟩))
    have e1 : (0 + j == i) = false := by simp; omega
    have e2 : (0 + j == i + 1) = false := by simp; omega
    simp only [e1, e2, Bool.not_false, Bool.true_and]
    by_cases hji : j + 1 = i
    · have := hc j _ hji h1
      simp only [c1, bne_iff_ne, ne_eq] at this
      simp [e_sh_cat, this]
    · simp; exact Or.inl hji
end
section
/-! instructions, a row each -/
def fD (y : mI) (pc : Nat) (i : Instr) (n pc2 : Nat) : Prop := decode y.2.1 pc = .ok (i, n) ∧ pc + n = pc2
def fB (y : mI) (pc : Nat) (i : Instr) (off : Int) (pc2 tgt : Nat) : Prop := decode y.2.1 pc = .ok (i, 3) ∧ pc + 3 = pc2 ∧ (pc : Int) + off = (tgt : Int)
def fIL (y : mI) (pc k pc2 : Nat) : Prop := (∃ j : Fin 4, decode y.2.1 pc = .ok (.iload_n j, 1) ∧ (j : Nat) = k ∧ pc + 1 = pc2) ∨ (decode y.2.1 pc = .ok (.iload k, 2) ∧ pc + 2 = pc2)
def fIS (y : mI) (pc k pc2 : Nat) : Prop := (∃ j : Fin 4, decode y.2.1 pc = .ok (.istore_n j, 1) ∧ (j : Nat) = k ∧ pc + 1 = pc2) ∨ (decode y.2.1 pc = .ok (.istore k, 2) ∧ pc + 2 = pc2)
def fAL (y : mI) (pc k pc2 : Nat) : Prop := (∃ j : Fin 4, decode y.2.1 pc = .ok (.aload_n j, 1) ∧ (j : Nat) = k ∧ pc + 1 = pc2) ∨ (decode y.2.1 pc = .ok (.aload k, 2) ∧ pc + 2 = pc2)
def fAS (y : mI) (pc k pc2 : Nat) : Prop := (∃ j : Fin 4, decode y.2.1 pc = .ok (.astore_n j, 1) ∧ (j : Nat) = k ∧ pc + 1 = pc2) ∨ (decode y.2.1 pc = .ok (.astore k, 2) ∧ pc + 2 = pc2)
def fLL (y : mI) (pc k pc2 : Nat) : Prop := (∃ j : Fin 4, decode y.2.1 pc = .ok (.lload_n j, 1) ∧ (j : Nat) = k ∧ pc + 1 = pc2) ∨ (decode y.2.1 pc = .ok (.lload k, 2) ∧ pc + 2 = pc2)
def fLS (y : mI) (pc k pc2 : Nat) : Prop := (∃ j : Fin 4, decode y.2.1 pc = .ok (.lstore_n j, 1) ∧ (j : Nat) = k ∧ pc + 1 = pc2) ∨ (decode y.2.1 pc = .ok (.lstore k, 2) ∧ pc + 2 = pc2)
def fIC (y : mI) (pc : Nat) (v : Int32) (pc2 : Nat) : Prop := (∃ n : Int, decode y.2.1 pc = .ok (.iconst n, 1) ∧ Int32.ofInt n = v ∧ pc + 1 = pc2) ∨ (∃ n : Int, decode y.2.1 pc = .ok (.bipush n, 2) ∧ (Int8.ofInt n).toInt32 = v ∧ pc + 2 = pc2) ∨ (∃ n : Int, decode y.2.1 pc = .ok (.sipush n, 3) ∧ (Int16.ofInt n).toInt32 = v ∧ pc + 3 = pc2) ∨ (∃ i : Nat, decode y.2.1 pc = .ok (.ldc i, 2) ∧ Cond.constant y.1.cls i v ∈ gw ∧ pc + 2 = pc2) ∨ (∃ i : Nat, decode y.2.1 pc = .ok (.ldc_w i, 3) ∧ Cond.constant y.1.cls i v ∈ gw ∧ pc + 3 = pc2)
def fLC (y : mI) (pc : Nat) (v : Int64) (pc2 : Nat) : Prop := (∃ n : Fin 2, decode y.2.1 pc = .ok (.lconst n, 1) ∧ Int64.ofNat (n : Nat) = v ∧ pc + 1 = pc2) ∨ (∃ i : Nat, decode y.2.1 pc = .ok (.ldc2_w i, 3) ∧ Cond.constantLong y.1.cls i v ∈ gw ∧ pc + 3 = pc2)
section IN
variable {y : mI} {E : eT} {Z : zT} {k : Nat} {h : hT} {nc ns pc pc2 tgt : Nat} {L L2 : lT} {st : List Value}
theorem fF.w {p : Program} {s : State} {m : MethodId} {args : Array Value} {meth : Method} {c : Code} (F : fF y E p s m args meth c) {w : Cond} (hw : w ∈ gw) : w.before args s = true := F.2.2.2.2.2.1 w (List.mem_cons_of_mem _ hw)
theorem a_ic {v : Int32} (hd : fIC y pc v pc2) (kk : fA y E Z k h nc ns pc2 L (.int v :: st)) : fA y E Z k h nc ns pc L st := by
  intro p l e s m args below meth c H locs ls F R hS hl h1 h2
  have kk := kk p l e s m args below meth c H locs ls F R hS hl h1 h2
  rcases hd with ⟨n, d, e1, rfl⟩ | ⟨n, d, e1, rfl⟩ | ⟨n, d, e1, rfl⟩ | ⟨i, d, e1, rfl⟩ | ⟨i, d, e1, rfl⟩
  · exact lv_iconst F.1 F.2.1 d e1 kk
  · exact lv_bipush F.1 F.2.1 d e1 kk
  · exact lv_sipush F.1 F.2.1 d e1 kk
  · exact lv_ldc F.1 F.2.1 F.2.2.2.2.1 (F.w e1) d kk
  · exact lv_ldcw F.1 F.2.1 F.2.2.2.2.1 (F.w e1) d kk
theorem a_lc {v : Int64} (hd : fLC y pc v pc2) (kk : fA y E Z k h nc ns pc2 L (.long v :: st)) : fA y E Z k h nc ns pc L st := by
  intro p l e s m args below meth c H locs ls F R hS hl h1 h2
  have kk := kk p l e s m args below meth c H locs ls F R hS hl h1 h2
  rcases hd with ⟨n, d, e1, rfl⟩ | ⟨i, d, e1, rfl⟩
  · exact lv_lconst F.1 F.2.1 d e1 kk
  · exact lv_ldc2 F.1 F.2.1 F.2.2.2.2.1 (F.w e1) d kk
theorem a_il {j : Nat} {v : Int32} (hd : fIL y pc j pc2) (hj : L[j]? = some (some (.int v))) (kk : fA y E Z k h nc ns pc2 L (.int v :: st)) : fA y E Z k h nc ns pc L st := by
  intro p l e s m args below meth c H locs ls F R hS hl h1 h2
  have kk := kk p l e s m args below meth c H locs ls F R hS hl h1 h2
  have hv := e_lv_at hl hj
  rcases hd with ⟨n, d, e1, rfl⟩ | ⟨d, rfl⟩
  · exact lv_iload_n F.1 F.2.1 d e1 hv kk
  · exact lv_iload F.1 F.2.1 d hv kk
theorem a_ll {j : Nat} {v : Int64} (hd : fLL y pc j pc2) (hj : L[j]? = some (some (.long v))) (kk : fA y E Z k h nc ns pc2 L (.long v :: st)) : fA y E Z k h nc ns pc L st := by
  intro p l e s m args below meth c H locs ls F R hS hl h1 h2
  have kk := kk p l e s m args below meth c H locs ls F R hS hl h1 h2
  have hv := e_lv_at hl hj
  rcases hd with ⟨n, d, e1, rfl⟩ | ⟨d, rfl⟩
  · exact lv_lload_n F.1 F.2.1 d e1 hv kk
  · exact lv_lload F.1 F.2.1 d hv kk
theorem a_al {j : Nat} {v : Nat} (hd : fAL y pc j pc2) (hj : L[j]? = some (some (.ref v))) (kk : fA y E Z k h nc ns pc2 L (.ref v :: st)) : fA y E Z k h nc ns pc L st := by
  intro p l e s m args below meth c H locs ls F R hS hl h1 h2
  have kk := kk p l e s m args below meth c H locs ls F R hS hl h1 h2
  have hv := e_lv_at hl hj
  rcases hd with ⟨n, d, e1, rfl⟩ | ⟨d, rfl⟩
  · exact lv_aload_n F.1 F.2.1 d e1 hv kk
  · exact lv_aload F.1 F.2.1 d hv kk
theorem a_nl {j : Nat} (hd : fAL y pc j pc2) (hj : L[j]? = some (some .null)) (kk : fA y E Z k h nc ns pc2 L (.null :: st)) : fA y E Z k h nc ns pc L st := by
  intro p l e s m args below meth c H locs ls F R hS hl h1 h2
  have kk := kk p l e s m args below meth c H locs ls F R hS hl h1 h2
  have hv := e_lv_at hl hj
  rcases hd with ⟨n, d, e1, rfl⟩ | ⟨d, rfl⟩
  · exact lv_aload_nN F.1 F.2.1 d e1 hv kk
  · exact lv_aloadN F.1 F.2.1 d hv kk
theorem a_is {j : Nat} {v : Int32} (hd : fIS y pc j pc2) (hj : j < y.2.2.1) (hL : L2 = L.set j (some (.int v))) (hc : ∀ i x, i + 1 = j → L[i]? = some x → c1 x = true) (kk : fA y E Z k h nc ns pc2 L2 st) : fA y E Z k h nc ns pc L (.int v :: st) := by
  intro p l e s m args below meth c H locs ls F R hS hl h1 h2
  have kk := fun ls hl => kk p l e s m args below meth c H locs ls F R hS hl h1 h2
  rcases hd with ⟨n, d, e1, rfl⟩ | ⟨d, rfl⟩
  · exact lv_istore_n F.1 F.2.1 d e1 hl hj rfl (fun ls hl => kk ls (e_lv_put (v := .int v) hl hL hc))
  · exact lv_istore F.1 F.2.1 d hl hj rfl (fun ls hl => kk ls (e_lv_put (v := .int v) hl hL hc))
theorem a_as {j : Nat} {v : Nat} (hd : fAS y pc j pc2) (hj : j < y.2.2.1) (hL : L2 = L.set j (some (.ref v))) (hc : ∀ i x, i + 1 = j → L[i]? = some x → c1 x = true) (kk : fA y E Z k h nc ns pc2 L2 st) : fA y E Z k h nc ns pc L (.ref v :: st) := by
  intro p l e s m args below meth c H locs ls F R hS hl h1 h2
  have kk := fun ls hl => kk p l e s m args below meth c H locs ls F R hS hl h1 h2
  rcases hd with ⟨n, d, e1, rfl⟩ | ⟨d, rfl⟩
  · exact lv_astore_n F.1 F.2.1 d e1 hl hj rfl (fun ls hl => kk ls (e_lv_put (v := .ref v) hl hL hc))
  · exact lv_astore F.1 F.2.1 d hl hj rfl (fun ls hl => kk ls (e_lv_put (v := .ref v) hl hL hc))
theorem a_ns {j : Nat} (hd : fAS y pc j pc2) (hj : j < y.2.2.1) (hL : L2 = L.set j (some .null)) (hc : ∀ i x, i + 1 = j → L[i]? = some x → c1 x = true) (kk : fA y E Z k h nc ns pc2 L2 st) : fA y E Z k h nc ns pc L (.null :: st) := by
  intro p l e s m args below meth c H locs ls F R hS hl h1 h2
  have kk := fun ls hl => kk p l e s m args below meth c H locs ls F R hS hl h1 h2
  rcases hd with ⟨n, d, e1, rfl⟩ | ⟨d, rfl⟩
  · exact lv_astore_nN F.1 F.2.1 d e1 hl hj rfl (fun ls hl => kk ls (e_lv_put (v := .null) hl hL hc))
  · exact lv_astoreN F.1 F.2.1 d hl hj rfl (fun ls hl => kk ls (e_lv_put (v := .null) hl hL hc))
theorem a_ls {j : Nat} {v : Int64} (hd : fLS y pc j pc2) (hj : j + 1 < y.2.2.1) (hL : L2 = (L.set j (some (.long v))).set (j + 1) none) (hc : ∀ i x, i + 1 = j → L[i]? = some x → c1 x = true) (kk : fA y E Z k h nc ns pc2 L2 st) : fA y E Z k h nc ns pc L (.long v :: st) := by
  intro p l e s m args below meth c H locs ls F R hS hl h1 h2
  have kk := fun ls hl => kk p l e s m args below meth c H locs ls F R hS hl h1 h2
  rcases hd with ⟨n, d, e1, rfl⟩ | ⟨d, rfl⟩
  · exact lv_lstore_n F.1 F.2.1 d e1 hl hj rfl (fun ls hl => kk ls (e_lv_put2 (v := .long v) hl hL hc))
  · exact lv_lstore F.1 F.2.1 d hl hj rfl (fun ls hl => kk ls (e_lv_put2 (v := .long v) hl hL hc))
theorem a_iinc {j : Nat} {n : Int} {x v : Int32} (hd : fD y pc (.iinc j n) 3 pc2) (hx : L[j]? = some (some (.int x))) (hv : x + Int32.ofInt n = v) (hj : j < y.2.2.1) (hL : L2 = L.set j (some (.int v))) (hc : ∀ i x, i + 1 = j → L[i]? = some x → c1 x = true) (kk : fA y E Z k h nc ns pc2 L2 st) : fA y E Z k h nc ns pc L st := by
  intro p l e s m args below meth c H locs ls F R hS hl h1 h2
  obtain ⟨d, rfl⟩ := hd
  have kk := fun ls hl => kk p l e s m args below meth c H locs ls F R hS hl h1 h2
  obtain ⟨i, hi⟩ := List.getElem?_of_mem (e_lv_mem.mpr ⟨j, .int x, hx, rfl⟩ : (0 + j, e_sh E (.int x)) ∈ e_lv E 0 L)
  rw [Nat.zero_add] at hi
  exact lv_iinc F.1 F.2.1 d hl hi hv hj rfl (fun ls hl => kk ls (e_lv_put (v := .int v) hl hL hc))
theorem a_iadd {x z : Int32} (hd : fD y pc .iadd 1 pc2) (kk : fA y E Z k h nc ns pc2 L (.int (x + z) :: st)) : fA y E Z k h nc ns pc L (.int z :: .int x :: st) := by
  intro p l e s m args below meth c H locs ls F R hS hl h1 h2
  obtain ⟨d, rfl⟩ := hd
  exact lv_iadd F.1 F.2.1 d (kk p l e s m args below meth c H locs ls F R hS hl h1 h2)
theorem a_isub {x z : Int32} (hd : fD y pc .isub 1 pc2) (kk : fA y E Z k h nc ns pc2 L (.int (x - z) :: st)) : fA y E Z k h nc ns pc L (.int z :: .int x :: st) := by
  intro p l e s m args below meth c H locs ls F R hS hl h1 h2
  obtain ⟨d, rfl⟩ := hd
  exact lv_isub F.1 F.2.1 d (kk p l e s m args below meth c H locs ls F R hS hl h1 h2)
theorem a_imul {x z : Int32} (hd : fD y pc .imul 1 pc2) (kk : fA y E Z k h nc ns pc2 L (.int (x * z) :: st)) : fA y E Z k h nc ns pc L (.int z :: .int x :: st) := by
  intro p l e s m args below meth c H locs ls F R hS hl h1 h2
  obtain ⟨d, rfl⟩ := hd
  exact lv_imul F.1 F.2.1 d (kk p l e s m args below meth c H locs ls F R hS hl h1 h2)
theorem a_iand {x z : Int32} (hd : fD y pc .iand 1 pc2) (kk : fA y E Z k h nc ns pc2 L (.int (x &&& z) :: st)) : fA y E Z k h nc ns pc L (.int z :: .int x :: st) := by
  intro p l e s m args below meth c H locs ls F R hS hl h1 h2
  obtain ⟨d, rfl⟩ := hd
  exact lv_iand F.1 F.2.1 d (kk p l e s m args below meth c H locs ls F R hS hl h1 h2)
theorem a_ior {x z : Int32} (hd : fD y pc .ior 1 pc2) (kk : fA y E Z k h nc ns pc2 L (.int (x ||| z) :: st)) : fA y E Z k h nc ns pc L (.int z :: .int x :: st) := by
  intro p l e s m args below meth c H locs ls F R hS hl h1 h2
  obtain ⟨d, rfl⟩ := hd
  exact lv_ior F.1 F.2.1 d (kk p l e s m args below meth c H locs ls F R hS hl h1 h2)
theorem a_ixor {x z : Int32} (hd : fD y pc .ixor 1 pc2) (kk : fA y E Z k h nc ns pc2 L (.int (x ^^^ z) :: st)) : fA y E Z k h nc ns pc L (.int z :: .int x :: st) := by
  intro p l e s m args below meth c H locs ls F R hS hl h1 h2
  obtain ⟨d, rfl⟩ := hd
  exact lv_ixor F.1 F.2.1 d (kk p l e s m args below meth c H locs ls F R hS hl h1 h2)
theorem a_ishl {x z : Int32} (hd : fD y pc .ishl 1 pc2) (kk : fA y E Z k h nc ns pc2 L (.int (x <<< (z &&& 31)) :: st)) : fA y E Z k h nc ns pc L (.int z :: .int x :: st) := by
  intro p l e s m args below meth c H locs ls F R hS hl h1 h2
  obtain ⟨d, rfl⟩ := hd
  exact lv_ishl F.1 F.2.1 d (kk p l e s m args below meth c H locs ls F R hS hl h1 h2)
theorem a_ishr {x z : Int32} (hd : fD y pc .ishr 1 pc2) (kk : fA y E Z k h nc ns pc2 L (.int (x >>> (z &&& 31)) :: st)) : fA y E Z k h nc ns pc L (.int z :: .int x :: st) := by
  intro p l e s m args below meth c H locs ls F R hS hl h1 h2
  obtain ⟨d, rfl⟩ := hd
  exact lv_ishr F.1 F.2.1 d (kk p l e s m args below meth c H locs ls F R hS hl h1 h2)
theorem a_idiv {x z : Int32} (hd : fD y pc .idiv 1 pc2) (hz : ¬ z = 0) (kk : fA y E Z k h nc ns pc2 L (.int (x / z) :: st)) : fA y E Z k h nc ns pc L (.int z :: .int x :: st) := by
  intro p l e s m args below meth c H locs ls F R hS hl h1 h2
  obtain ⟨d, rfl⟩ := hd
  exact lv_idiv F.1 F.2.1 d hz (kk p l e s m args below meth c H locs ls F R hS hl h1 h2)
theorem a_irem {x z : Int32} (hd : fD y pc .irem 1 pc2) (hz : ¬ z = 0) (kk : fA y E Z k h nc ns pc2 L (.int (x - x / z * z) :: st)) : fA y E Z k h nc ns pc L (.int z :: .int x :: st) := by
  intro p l e s m args below meth c H locs ls F R hS hl h1 h2
  obtain ⟨d, rfl⟩ := hd
  exact lv_irem F.1 F.2.1 d hz (kk p l e s m args below meth c H locs ls F R hS hl h1 h2)
theorem a_ladd {x z : Int64} (hd : fD y pc .ladd 1 pc2) (kk : fA y E Z k h nc ns pc2 L (.long (x + z) :: st)) : fA y E Z k h nc ns pc L (.long z :: .long x :: st) := by
  intro p l e s m args below meth c H locs ls F R hS hl h1 h2
  obtain ⟨d, rfl⟩ := hd
  exact lv_ladd F.1 F.2.1 d (kk p l e s m args below meth c H locs ls F R hS hl h1 h2)
theorem a_lsub {x z : Int64} (hd : fD y pc .lsub 1 pc2) (kk : fA y E Z k h nc ns pc2 L (.long (x - z) :: st)) : fA y E Z k h nc ns pc L (.long z :: .long x :: st) := by
  intro p l e s m args below meth c H locs ls F R hS hl h1 h2
  obtain ⟨d, rfl⟩ := hd
  exact lv_lsub F.1 F.2.1 d (kk p l e s m args below meth c H locs ls F R hS hl h1 h2)
theorem a_lmul {x z : Int64} (hd : fD y pc .lmul 1 pc2) (kk : fA y E Z k h nc ns pc2 L (.long (x * z) :: st)) : fA y E Z k h nc ns pc L (.long z :: .long x :: st) := by
  intro p l e s m args below meth c H locs ls F R hS hl h1 h2
  obtain ⟨d, rfl⟩ := hd
  exact lv_lmul F.1 F.2.1 d (kk p l e s m args below meth c H locs ls F R hS hl h1 h2)
theorem a_ldiv {x z : Int64} (hd : fD y pc .ldiv 1 pc2) (hz : ¬ z = 0) (kk : fA y E Z k h nc ns pc2 L (.long (x / z) :: st)) : fA y E Z k h nc ns pc L (.long z :: .long x :: st) := by
  intro p l e s m args below meth c H locs ls F R hS hl h1 h2
  obtain ⟨d, rfl⟩ := hd
  exact lv_ldiv F.1 F.2.1 d hz (kk p l e s m args below meth c H locs ls F R hS hl h1 h2)
theorem a_lrem {x z : Int64} (hd : fD y pc .lrem 1 pc2) (hz : ¬ z = 0) (kk : fA y E Z k h nc ns pc2 L (.long (x - x / z * z) :: st)) : fA y E Z k h nc ns pc L (.long z :: .long x :: st) := by
  intro p l e s m args below meth c H locs ls F R hS hl h1 h2
  obtain ⟨d, rfl⟩ := hd
  exact lv_lrem F.1 F.2.1 d hz (kk p l e s m args below meth c H locs ls F R hS hl h1 h2)
theorem a_i2l {x : Int32} (hd : fD y pc .i2l 1 pc2) (kk : fA y E Z k h nc ns pc2 L (.long x.toInt64 :: st)) : fA y E Z k h nc ns pc L (.int x :: st) := by
  intro p l e s m args below meth c H locs ls F R hS hl h1 h2
  obtain ⟨d, rfl⟩ := hd
  exact lv_i2l F.1 F.2.1 d rfl (kk p l e s m args below meth c H locs ls F R hS hl h1 h2)
theorem a_l2i {x : Int64} (hd : fD y pc .l2i 1 pc2) (kk : fA y E Z k h nc ns pc2 L (.int x.toInt32 :: st)) : fA y E Z k h nc ns pc L (.long x :: st) := by
  intro p l e s m args below meth c H locs ls F R hS hl h1 h2
  obtain ⟨d, rfl⟩ := hd
  exact lv_l2i F.1 F.2.1 d rfl (kk p l e s m args below meth c H locs ls F R hS hl h1 h2)
theorem a_lcmp {x z : Int64} (hd : fD y pc .lcmp 1 pc2) (kk : fA y E Z k h nc ns pc2 L (.int (lg_cmp x z) :: st)) : fA y E Z k h nc ns pc L (.long z :: .long x :: st) := by
  intro p l e s m args below meth c H locs ls F R hS hl h1 h2
  obtain ⟨d, rfl⟩ := hd
  exact W.lcmp F.1 F.2.1 d (kk p l e s m args below meth c H locs ls F R hS hl h1 h2)
theorem a_dup {v : Value} (hd : fD y pc .dup 1 pc2) (hv : v.category = 1) (kk : fA y E Z k h nc ns pc2 L (v :: v :: st)) : fA y E Z k h nc ns pc L (v :: st) := by
  intro p l e s m args below meth c H locs ls F R hS hl h1 h2
  obtain ⟨d, rfl⟩ := hd
  exact lv_dup F.1 F.2.1 d (by rw [e_sh_cat]; exact hv) (kk p l e s m args below meth c H locs ls F R hS hl h1 h2)
theorem a_pop {v : Value} (hd : fD y pc .pop 1 pc2) (hv : v.category = 1) (kk : fA y E Z k h nc ns pc2 L st) : fA y E Z k h nc ns pc L (v :: st) := by
  intro p l e s m args below meth c H locs ls F R hS hl h1 h2
  obtain ⟨d, rfl⟩ := hd
  exact lv_pop F.1 F.2.1 d (by rw [e_sh_cat]; exact hv) (kk p l e s m args below meth c H locs ls F R hS hl h1 h2)
theorem a_dup2 {v w : Value} (hd : fD y pc .dup2 1 pc2) (hv : v.category = 1) (hw : w.category = 1) (kk : fA y E Z k h nc ns pc2 L (v :: w :: v :: w :: st)) : fA y E Z k h nc ns pc L (v :: w :: st) := by
  intro p l e s m args below meth c H locs ls F R hS hl h1 h2
  obtain ⟨d, rfl⟩ := hd
  exact lv_dup2_11 F.1 F.2.1 d (by rw [e_sh_cat]; exact hv) (by rw [e_sh_cat]; exact hw) (kk p l e s m args below meth c H locs ls F R hS hl h1 h2)
theorem a_if_eq {x : Int32} {off : Int} (hd : fB y pc (.ifCond .eq off) off pc2 tgt) (kt : x = 0 → fA y E Z k h nc ns tgt L st) (kf : ¬ x = 0 → fA y E Z k h nc ns pc2 L st) : fA y E Z k h nc ns pc L (.int x :: st) := by
  intro p l e s m args below meth c H locs ls F R hS hl h1 h2
  obtain ⟨d, rfl, d2⟩ := hd
  exact lv_if_eq F.1 F.2.1 d d2 (fun q => kt q p l e s m args below meth c H locs ls F R hS hl h1 h2) (fun q => kf q p l e s m args below meth c H locs ls F R hS hl h1 h2)
theorem a_if_ne {x : Int32} {off : Int} (hd : fB y pc (.ifCond .ne off) off pc2 tgt) (kt : ¬ x = 0 → fA y E Z k h nc ns tgt L st) (kf : x = 0 → fA y E Z k h nc ns pc2 L st) : fA y E Z k h nc ns pc L (.int x :: st) := by
  intro p l e s m args below meth c H locs ls F R hS hl h1 h2
  obtain ⟨d, rfl, d2⟩ := hd
  exact lv_if_ne F.1 F.2.1 d d2 (fun q => kt q p l e s m args below meth c H locs ls F R hS hl h1 h2) (fun q => kf q p l e s m args below meth c H locs ls F R hS hl h1 h2)
theorem a_if_lt {x : Int32} {off : Int} (hd : fB y pc (.ifCond .lt off) off pc2 tgt) (kt : x < 0 → fA y E Z k h nc ns tgt L st) (kf : ¬ x < 0 → fA y E Z k h nc ns pc2 L st) : fA y E Z k h nc ns pc L (.int x :: st) := by
  intro p l e s m args below meth c H locs ls F R hS hl h1 h2
  obtain ⟨d, rfl, d2⟩ := hd
  exact lv_if_lt F.1 F.2.1 d d2 (fun q => kt q p l e s m args below meth c H locs ls F R hS hl h1 h2) (fun q => kf q p l e s m args below meth c H locs ls F R hS hl h1 h2)
theorem a_if_ge {x : Int32} {off : Int} (hd : fB y pc (.ifCond .ge off) off pc2 tgt) (kt : 0 ≤ x → fA y E Z k h nc ns tgt L st) (kf : ¬ 0 ≤ x → fA y E Z k h nc ns pc2 L st) : fA y E Z k h nc ns pc L (.int x :: st) := by
  intro p l e s m args below meth c H locs ls F R hS hl h1 h2
  obtain ⟨d, rfl, d2⟩ := hd
  exact lv_if_ge F.1 F.2.1 d d2 (fun q => kt q p l e s m args below meth c H locs ls F R hS hl h1 h2) (fun q => kf q p l e s m args below meth c H locs ls F R hS hl h1 h2)
theorem a_if_gt {x : Int32} {off : Int} (hd : fB y pc (.ifCond .gt off) off pc2 tgt) (kt : 0 < x → fA y E Z k h nc ns tgt L st) (kf : ¬ 0 < x → fA y E Z k h nc ns pc2 L st) : fA y E Z k h nc ns pc L (.int x :: st) := by
  intro p l e s m args below meth c H locs ls F R hS hl h1 h2
  obtain ⟨d, rfl, d2⟩ := hd
  exact lv_if_gt F.1 F.2.1 d d2 (fun q => kt q p l e s m args below meth c H locs ls F R hS hl h1 h2) (fun q => kf q p l e s m args below meth c H locs ls F R hS hl h1 h2)
theorem a_if_le {x : Int32} {off : Int} (hd : fB y pc (.ifCond .le off) off pc2 tgt) (kt : x ≤ 0 → fA y E Z k h nc ns tgt L st) (kf : ¬ x ≤ 0 → fA y E Z k h nc ns pc2 L st) : fA y E Z k h nc ns pc L (.int x :: st) := by
  intro p l e s m args below meth c H locs ls F R hS hl h1 h2
  obtain ⟨d, rfl, d2⟩ := hd
  exact lv_if_le F.1 F.2.1 d d2 (fun q => kt q p l e s m args below meth c H locs ls F R hS hl h1 h2) (fun q => kf q p l e s m args below meth c H locs ls F R hS hl h1 h2)
theorem a_ic_eq {x z : Int32} {off : Int} (hd : fB y pc (.if_icmp .eq off) off pc2 tgt) (kt : x = z → fA y E Z k h nc ns tgt L st) (kf : ¬ x = z → fA y E Z k h nc ns pc2 L st) : fA y E Z k h nc ns pc L (.int z :: .int x :: st) := by
  intro p l e s m args below meth c H locs ls F R hS hl h1 h2
  obtain ⟨d, rfl, d2⟩ := hd
  exact lv_icmp_eq F.1 F.2.1 d d2 (fun q => kt q p l e s m args below meth c H locs ls F R hS hl h1 h2) (fun q => kf q p l e s m args below meth c H locs ls F R hS hl h1 h2)
theorem a_ic_ne {x z : Int32} {off : Int} (hd : fB y pc (.if_icmp .ne off) off pc2 tgt) (kt : ¬ x = z → fA y E Z k h nc ns tgt L st) (kf : x = z → fA y E Z k h nc ns pc2 L st) : fA y E Z k h nc ns pc L (.int z :: .int x :: st) := by
  intro p l e s m args below meth c H locs ls F R hS hl h1 h2
  obtain ⟨d, rfl, d2⟩ := hd
  exact lv_icmp_ne F.1 F.2.1 d d2 (fun q => kt q p l e s m args below meth c H locs ls F R hS hl h1 h2) (fun q => kf q p l e s m args below meth c H locs ls F R hS hl h1 h2)
theorem a_ic_lt {x z : Int32} {off : Int} (hd : fB y pc (.if_icmp .lt off) off pc2 tgt) (kt : x < z → fA y E Z k h nc ns tgt L st) (kf : ¬ x < z → fA y E Z k h nc ns pc2 L st) : fA y E Z k h nc ns pc L (.int z :: .int x :: st) := by
  intro p l e s m args below meth c H locs ls F R hS hl h1 h2
  obtain ⟨d, rfl, d2⟩ := hd
  exact lv_icmp_lt F.1 F.2.1 d d2 (fun q => kt q p l e s m args below meth c H locs ls F R hS hl h1 h2) (fun q => kf q p l e s m args below meth c H locs ls F R hS hl h1 h2)
theorem a_ic_ge {x z : Int32} {off : Int} (hd : fB y pc (.if_icmp .ge off) off pc2 tgt) (kt : z ≤ x → fA y E Z k h nc ns tgt L st) (kf : ¬ z ≤ x → fA y E Z k h nc ns pc2 L st) : fA y E Z k h nc ns pc L (.int z :: .int x :: st) := by
  intro p l e s m args below meth c H locs ls F R hS hl h1 h2
  obtain ⟨d, rfl, d2⟩ := hd
  exact lv_icmp_ge F.1 F.2.1 d d2 (fun q => kt q p l e s m args below meth c H locs ls F R hS hl h1 h2) (fun q => kf q p l e s m args below meth c H locs ls F R hS hl h1 h2)
theorem a_ic_gt {x z : Int32} {off : Int} (hd : fB y pc (.if_icmp .gt off) off pc2 tgt) (kt : z < x → fA y E Z k h nc ns tgt L st) (kf : ¬ z < x → fA y E Z k h nc ns pc2 L st) : fA y E Z k h nc ns pc L (.int z :: .int x :: st) := by
  intro p l e s m args below meth c H locs ls F R hS hl h1 h2
  obtain ⟨d, rfl, d2⟩ := hd
  exact lv_icmp_gt F.1 F.2.1 d d2 (fun q => kt q p l e s m args below meth c H locs ls F R hS hl h1 h2) (fun q => kf q p l e s m args below meth c H locs ls F R hS hl h1 h2)
theorem a_ic_le {x z : Int32} {off : Int} (hd : fB y pc (.if_icmp .le off) off pc2 tgt) (kt : x ≤ z → fA y E Z k h nc ns tgt L st) (kf : ¬ x ≤ z → fA y E Z k h nc ns pc2 L st) : fA y E Z k h nc ns pc L (.int z :: .int x :: st) := by
  intro p l e s m args below meth c H locs ls F R hS hl h1 h2
  obtain ⟨d, rfl, d2⟩ := hd
  exact lv_icmp_le F.1 F.2.1 d d2 (fun q => kt q p l e s m args below meth c H locs ls F R hS hl h1 h2) (fun q => kf q p l e s m args below meth c H locs ls F R hS hl h1 h2)
theorem a_goto {off : Int} (hd : fB y pc (.goto off) off pc2 tgt) (kk : fA y E Z k h nc ns tgt L st) : fA y E Z k h nc ns pc L st := by
  intro p l e s m args below meth c H locs ls F R hS hl h1 h2
  obtain ⟨d, rfl, d2⟩ := hd
  exact lv_goto F.1 F.2.1 d d2 (kk p l e s m args below meth c H locs ls F R hS hl h1 h2)
theorem a_nnR {off : Int} {v : Nat} (hd : fB y pc (.ifnonnull off) off pc2 tgt) (kk : fA y E Z k h nc ns tgt L st) : fA y E Z k h nc ns pc L (.ref v :: st) := by
  intro p l e s m args below meth c H locs ls F R hS hl h1 h2
  obtain ⟨d, rfl, d2⟩ := hd
  exact lv_ifnonnull F.1 F.2.1 d d2 (kk p l e s m args below meth c H locs ls F R hS hl h1 h2)
theorem a_nnN {off : Int} (hd : fB y pc (.ifnonnull off) off pc2 tgt) (kk : fA y E Z k h nc ns pc2 L st) : fA y E Z k h nc ns pc L (.null :: st) := by
  intro p l e s m args below meth c H locs ls F R hS hl h1 h2
  obtain ⟨d, rfl, d2⟩ := hd
  exact lv_ifnonnullN F.1 F.2.1 d (kk p l e s m args below meth c H locs ls F R hS hl h1 h2)
theorem a_tsO {x : Int32} {df lo hi : Int} {offs : Array Int} {n : Nat} (hd : fD y pc (.tableswitch df lo hi offs) n pc2) (hx : x.toInt < lo ∨ hi < x.toInt) (ht : (pc : Int) + df = (tgt : Int)) (kk : fA y E Z k h nc ns tgt L st) : fA y E Z k h nc ns pc L (.int x :: st) := by
  intro p l e s m args below meth c H locs ls F R hS hl h1 h2
  obtain ⟨d, rfl⟩ := hd
  exact lv_tableOut F.1 F.2.1 d hx ht (kk p l e s m args below meth c H locs ls F R hS hl h1 h2)
theorem a_tsI {x : Int32} {df lo hi off : Int} {offs : Array Int} {n : Nat} (hd : fD y pc (.tableswitch df lo hi offs) n pc2) (hx : ¬ x.toInt < lo) (hy : ¬ hi < x.toInt) (ho : offs[(x.toInt - lo).toNat]? = some off) (ht : (pc : Int) + off = (tgt : Int)) (kk : fA y E Z k h nc ns tgt L st) : fA y E Z k h nc ns pc L (.int x :: st) := by
  intro p l e s m args below meth c H locs ls F R hS hl h1 h2
  obtain ⟨d, rfl⟩ := hd
  exact lv_tableIn F.1 F.2.1 d hx hy ho ht (kk p l e s m args below meth c H locs ls F R hS hl h1 h2)
theorem a_ls2 {x : Int32} {df off : Int} {ps : Array (Int × Int)} {n : Nat} (hd : fD y pc (.lookupswitch df ps) n pc2) (hp : (ps.toList.zip (ps.toList.drop 1)).all (fun (a, next) => a.1 < next.1) = true) (ho : Op.lookupswitch.offset ps.toList df x.toInt = off) (ht : (pc : Int) + off = (tgt : Int)) (kk : fA y E Z k h nc ns tgt L st) : fA y E Z k h nc ns pc L (.int x :: st) := by
  intro p l e s m args below meth c H locs ls F R hS hl h1 h2
  obtain ⟨d, rfl⟩ := hd
  exact lv_lookup F.1 F.2.1 d hp ho ht (kk p l e s m args below meth c H locs ls F R hS hl h1 h2)
end IN
end
section
/-! fields, arrays, new cells, calls, ends -/
def fFL (own : String) (idx ci j : Nat) : Prop := ∃ (C : String) (T : u_T) (N : Nat), cls[ci]? = some (C, T, N) ∧ j < N ∧ (T j).1 = C ∧ (Cond.fieldLink own idx C (T j).2.1 (T j).2.2.1 ∈ gw ∨ ∃ host, Cond.fieldLinkNest own idx C (T j).2.1 (T j).2.2.1 host ∈ gw)
/-- a field that is written: not final, of type ty -/
def fPL (own : String) (idx ci j : Nat) (ty : FieldType) : Prop := ∃ (C : String) (T : u_T) (N : Nat), cls[ci]? = some (C, T, N) ∧ j < N ∧ (T j).1 = C ∧ (T j).2.2.2 = false ∧ parseFieldDescriptor (T j).2.2.1 = some ty ∧ (Cond.fieldLink own idx C (T j).2.1 (T j).2.2.1 ∈ gw ∨ ∃ host, Cond.fieldLinkNest own idx C (T j).2.1 (T j).2.2.1 host ∈ gw)
/-- a final field, written in its class's constructor -/
def fPF (own : String) (idx ci j : Nat) (ty : FieldType) : Prop := ∃ (C : String) (T : u_T) (N : Nat), cls[ci]? = some (C, T, N) ∧ j < N ∧ (T j).1 = C ∧ C = own ∧ (T j).2.2.2 = true ∧ parseFieldDescriptor (T j).2.2.1 = some ty ∧ Cond.fieldLink own idx C (T j).2.1 (T j).2.2.1 ∈ gw
def fNW (own : String) (idx ci : Nat) (fs : List Value) (N : Nat) : Prop := ∃ (C : String) (T : u_T) (ty : Nat → FieldType), cls[ci]? = some (C, T, N) ∧ Cond.classLink own idx C ∈ gw ∧ Cond.instantiable C N ∈ gw ∧ Cond.initialized C ∈ gw ∧ (∀ j, j < N → parseFieldDescriptor (T j).2.2.1 = some (ty j)) ∧ (∀ j, j < N → defaultValue (ty j) = vp_V fs j) ∧ ∀ E : eT, fs.map (e_sh E) = fs
abbrev ia (n : Nat) (f : Nat → Int32) : cT := .inl (0, n, .inl f)
abbrev za (n : Nat) (f : Nat → Int32) : cT := .inl (1, n, .inl f)
abbrev ra (n : Nat) (f : Nat → Option Nat) : cT := .inl (2, n, .inr (.inr (.inr (.inr f))))
section HP
variable {y : mI} {E : eT} {Z : zT} {k : Nat} {h : hT} {nc ns pc pc2 tgt : Nat} {L L2 : lT} {st : List Value}
theorem e_in (R : ∀ i, E.1 (i + 11) = E.2.1 + i) (j : Nat) : e_A E (E.1 (j + 11)) := by show E.2.1 ≤ _; rw [R]; omega
theorem a_gf {idx ci j q : Nat} {fs : List Value} {v : Value} (hd : fD y pc (.getfield idx) 3 pc2) (hf : fFL y.1.cls idx ci j) (hq : h q = .inr (ci, fs)) (hv : fs[j]? = some v) (kk : fA y E Z k h nc ns pc2 L (v :: st)) : fA y E Z k h nc ns pc L (.ref q :: st) := by
  intro p l e s m args below meth c H locs ls F R hS hl h1 h2
  obtain ⟨d, rfl⟩ := hd
  obtain ⟨C, T, N, hc, hj, hO, hw⟩ := hf
  obtain ⟨i, rfl, hi, hg⟩ := R.get hq (ne_dead_r hc)
  obtain ⟨w1, -, -⟩ := cl_facts ci C T N hc
  have hv2 : (fs.map (e_sh E))[j]? = some (e_sh E v) := by rw [List.getElem?_map, hv]; rfl
  rcases hw with hw | ⟨host, hw⟩
  · exact va_get (Ts := mI_ws y) F.1 F.2.1 F.2.2.2.2.2.1 (fun w hw => List.mem_cons_of_mem _ (w1 w hw)) F.2.2.2.2.1 R.2.2.2.2.1 R.2.2.2.1 i hg hc j hj (F.w hw) (by rw [hO]; exact fun _ z => z) hv2 d (kk p l e s m args below meth c H locs ls F R hS hl h1 h2)
  · exact va_getN (Ts := mI_ws y) F.1 F.2.1 F.2.2.2.2.2.1 (fun w hw => List.mem_cons_of_mem _ (w1 w hw)) F.2.2.2.2.1 R.2.2.2.2.1 R.2.2.2.1 i hg hc j hj (F.w hw) (by rw [hO]; exact fun _ z => z) hv2 d (kk p l e s m args below meth c H locs ls F R hS hl h1 h2)
theorem a_pf {idx ci j q : Nat} {fs : List Value} {v : Value} {ty : FieldType} (hd : fD y pc (.putfield idx) 3 pc2) (hf : fPL y.1.cls idx ci j ty) (hq : h q = .inr (ci, fs)) (hn : narrow ty (e_sh E v) = e_sh E v) (hv : fits ty (e_sh E v) = true) (hlen : j < fs.length) (kk : fA y E Z k (va_up h q (.inr (ci, fs.set j v))) nc ns pc2 L st) : fA y E Z k h nc ns pc L (v :: .ref q :: st) := by
  intro p l e s m args below meth c H locs ls F R hS hl h1 h2
  obtain ⟨d, rfl⟩ := hd
  obtain ⟨C, T, N, hc, hj, hO, hfin, hdesc, hw⟩ := hf
  obtain ⟨i, rfl, hi, hg⟩ := R.get hq (ne_dead_r hc)
  obtain ⟨w1, ⟨ty0, hty⟩, hnm⟩ := cl_facts ci C T N hc
  have hin : ∀ w ∈ u_ws C T N, w ∈ mI_ws y := fun w hw => List.mem_cons_of_mem _ (w1 w hw)
  have hD := e_D (k := k) (h := h) R.2.1
  have hap := va_apart (own := y.1.cls) F.2.2.2.2.2.1 hin ty0 hty hnm R.2.2.2.2.1 hc
  obtain ⟨r, g1, cell, q1, q2, q3, q4⟩ := R.2.2.2.1 i _ hg
  have hr : r = (C, T, N) := Option.some.inj (g1.symm.trans hc)
  subst hr
  obtain ⟨hSl, hfc, kC, hkC, hkind⟩ := R.2.2.2.2.1.1 ci _ hc
  obtain ⟨cf, kf, fi, f, hi9, hsl⟩ := hSl j hj
  have hlay := F.2.2.2.2.2.1 _ (hin _ (u_in_lay hj))
  unfold u_lay at hlay
  rw [if_neg (by rw [hfin]; decide)] at hlay
  have hst := (u_facts hfc hkC (u_lays F.2.2.2.2.2.1 hin hj) hi9).1
  have h6 := u_store hfc hkC hkind hlay hi9 hdesc hn hv
  rw [hO] at hi9
  have fin : ∀ H9 : Heap, H9[E.1 (i + 11)]? = some (cell.setSlot ((E.2.2.1).2 ci j) (e_sh E v)) → H9.size = H.size → (∀ q, q ≠ E.1 (i + 11) → H9[q]? = H[q]?) → W p l e y.2.2.2.2 s m args below meth c H9 (locs ++ [⟨E.1 (i + 11), (E.2.2.1).2 ci j⟩]) nc ns (Z below args s) (F0 m (pc + 3) ls (st.map (e_sh E))) := by
    intro H9 e1 e2 e3
    refine kk p l e s m args below meth c H9 _ ls F (R.set hi e2 ?_ (fun q hq9 => e3 q (fun z => ?_))) (hS.put e2 e3 (e_in R.2.1 i)) hl h1 h2
    · refine R.2.2.2.1.set hD hg (e := e_ce E (.inr (ci, fs.set j v))) ?_ e3
      refine ⟨_, hc, ?_⟩
      show t_OB _ _ _ _ _ (vp_V ((fs.set j v).map (e_sh E)))
      rw [List.map_set]
      exact t_OB.to (V := updV (vp_V (fs.map (e_sh E))) j (e_sh E v)) ⟨_, e1, q2, q3, t_set q4 hap hj (e_sh E v)⟩ (fun x _ => vp_updV_set (by simpa using hlen) (e_sh E v) x)
    · rw [z, R.2.1] at hq9
      omega
  rcases hw with hw | ⟨host, hw⟩
  · refine W.putK F.1 F.2.1 (f := f) ⟨F.2.2.2.2.1, F.w hw, ⟨_, _, _, hi9⟩, hst⟩ (by rw [q2]; exact h6) q1 q3 (by rw [hsl]; exact k2_hasslot (q4 j hj)) rfl rfl d fun H9 e1 e2 e3 => ?_
    rw [hsl] at e1 ⊢
    exact fin H9 e1 e2 e3
  · refine va_WputK F.1 F.2.1 (f := f) F.2.2.2.2.1 (F.w hw) hi9 hst (by rw [q2]; exact h6) q1 q3 (by rw [hsl]; exact k2_hasslot (q4 j hj)) rfl rfl d fun H9 e1 e2 e3 => ?_
    rw [hsl] at e1 ⊢
    exact fin H9 e1 e2 e3
theorem R_arr {U : State} {H : Heap} (R : fR E k h U H) {q : Nat} {a : Nat × vp_A} (hq : h q = .inl a) : ∃ i, q = i + 11 ∧ i < k ∧ (e_W E k h)[i]? = some (E.1 q, .inl (E.2.2.2.1 a.1, e_ar E a.2)) := R.get hq ne_dead_l
theorem a_iald {q n : Nat} {f : Nat → Int32} {i : Int32} (hd : fD y pc .iaload 1 pc2) (hq : h q = ia n f) (hi : vp_in i n) (kk : fA y E Z k h nc ns pc2 L (.int (f i.toNatClampNeg) :: st)) : fA y E Z k h nc ns pc L (.int i :: .ref q :: st) := by
  intro p l e s m args below meth c H locs ls F R hS hl h1 h2
  obtain ⟨d, rfl⟩ := hd
  obtain ⟨j, rfl, hj, hg⟩ := R_arr R hq
  exact va_iald (n := n) (f := f) F.1 F.2.1 R.2.2.2.2.1 R.2.2.2.1 j 0 hg rfl hi d (kk p l e s m args below meth c H locs ls F R hS hl h1 h2)
theorem a_zald {q n : Nat} {f : Nat → Int32} {i : Int32} (hd : fD y pc .baload 1 pc2) (hq : h q = za n f) (hi : vp_in i n) (kk : fA y E Z k h nc ns pc2 L (.int (f i.toNatClampNeg) :: st)) : fA y E Z k h nc ns pc L (.int i :: .ref q :: st) := by
  intro p l e s m args below meth c H locs ls F R hS hl h1 h2
  obtain ⟨d, rfl⟩ := hd
  obtain ⟨j, rfl, hj, hg⟩ := R_arr R hq
  exact va_zald (n := n) (f := f) F.1 F.2.1 R.2.2.2.2.1 R.2.2.2.1 j 1 hg rfl hi d (kk p l e s m args below meth c H locs ls F R hS hl h1 h2)
def rv (r : Option Nat) : Value := match r with
  | some a => .ref a
  | none => .null
theorem a_aald {q n : Nat} {f : Nat → Option Nat} {i : Int32} (hd : fD y pc .aaload 1 pc2) (hq : h q = ra n f) (hi : vp_in i n) (kk : fA y E Z k h nc ns pc2 L (rv (f i.toNatClampNeg) :: st)) : fA y E Z k h nc ns pc L (.int i :: .ref q :: st) := by
  intro p l e s m args below meth c H locs ls F R hS hl h1 h2
  obtain ⟨d, rfl⟩ := hd
  obtain ⟨j, rfl, hj, hg⟩ := R_arr R hq
  refine va_aldq (n := n) (f := fun x => (f x).map E.1) F.1 F.2.1 R.2.2.2.2.1 R.2.2.2.1 j 2 hg rfl hi d ?_
  have e9 : va_rf ((f i.toNatClampNeg).map E.1) = e_sh E (rv (f i.toNatClampNeg)) := by cases f i.toNatClampNeg <;> rfl
  show W p l e y.2.2.2.2 s m args below meth c H locs nc ns (Z below args s) (F0 m (pc + 1) ls (va_rf ((f i.toNatClampNeg).map E.1) :: st.map (e_sh E)))
  rw [e9]
  exact (kk p l e s m args below meth c H locs ls F R hS hl h1 h2)
theorem a_sld {i : Int32} (hd : fD y pc .iaload 1 pc2) (hi : vp_in i E.2.2.2.2.1) (kk : fA y E Z k h nc ns pc2 L (.int (E.2.2.2.2.2 i.toNatClampNeg) :: st)) : fA y E Z k h nc ns pc L (.int i :: .ref 0 :: st) := by
  intro p l e s m args below meth c H locs ls F R hS hl h1 h2
  obtain ⟨d, rfl⟩ := hd
  exact va_sld (A := e_A E) (H0 := H) F.1 F.2.1 R.2.2.2.2.2.1.1 (by rw [R.1]; have := R.2.2.2.2.2.1.2; omega) (Nat.not_le.mpr R.2.2.2.2.2.1.2) ⟨Nat.le_refl _, fun _ _ _ => rfl, hS.2.2⟩ hi d (kk p l e s m args below meth c H locs ls F R hS hl h1 h2)
theorem a_slen (hd : fD y pc .arraylength 1 pc2) (kk : fA y E Z k h nc ns pc2 L (.int (nI E.2.2.2.2.1) :: st)) : fA y E Z k h nc ns pc L (.ref 0 :: st) := by
  intro p l e s m args below meth c H locs ls F R hS hl h1 h2
  obtain ⟨d, rfl⟩ := hd
  exact va_slen (A := e_A E) (H0 := H) F.1 F.2.1 R.2.2.2.2.2.1.1 (by rw [R.1]; have := R.2.2.2.2.2.1.2; omega) (Nat.not_le.mpr R.2.2.2.2.2.1.2) ⟨Nat.le_refl _, fun _ _ _ => rfl, hS.2.2⟩ d (kk p l e s m args below meth c H locs ls F R hS hl h1 h2)
theorem a_iast {q n : Nat} {f : Nat → Int32} {i x : Int32} (hd : fD y pc .iastore 1 pc2) (hq : h q = ia n f) (hi : vp_in i n) (kk : fA y E Z k (va_up h q (ia n (upd f i.toNatClampNeg x))) nc ns pc2 L st) : fA y E Z k h nc ns pc L (.int x :: .int i :: .ref q :: st) := by
  intro p l e s m args below meth c H locs ls F R hS hl h1 h2
  obtain ⟨d, rfl⟩ := hd
  obtain ⟨j, rfl, hj, hg⟩ := R_arr R hq
  have hD := e_D (k := k) (h := h) R.2.1
  refine W.iast F.1 F.2.1 (R.2.2.2.1 j _ hg) ((R.2.2.2.2.1.2 0 _ rfl).1 n (fun j => .int (f j))) (fun q => by cases q) (by show ¬ (i < 0 ∨ (arrV _ _ _).slots.size ≤ _); rw [arrV_size]; exact hi) rfl rfl d fun H9 e1 e2 e3 => ?_
  refine kk p l e s m args below meth c H9 _ ls F (R.set hj e2 ?_ (fun q hq9 => e3 q (fun z => ?_))) (hS.put e2 e3 (e_in R.2.1 j)) hl h1 h2
  · refine R.2.2.2.1.set hD hg (e := e_ce E (ia n (upd f i.toNatClampNeg x))) ?_ e3
    show H9[_]? = some (vp_cell _ _)
    rw [e1]
    show some ((vp_cell _ (n, .inl f)).setSlot _ _) = some (vp_cell _ (n, .inl _))
    rw [vp_cell_i, vp_cell_i, arrV_store]
    congr 2
    funext q
    by_cases hq : q = i.toNatClampNeg
    · subst hq
      simp [updV, upd]
      try rfl
    · simp [updV, upd, hq]
  · rw [z, R.2.1] at hq9
    omega
theorem a_zast {q n : Nat} {f : Nat → Int32} {i x : Int32} (hd : fD y pc .bastore 1 pc2) (hq : h q = za n f) (hi : vp_in i n) (kk : fA y E Z k (va_up h q (za n (upd f i.toNatClampNeg (vp_nar .boolean x)))) nc ns pc2 L st) : fA y E Z k h nc ns pc L (.int x :: .int i :: .ref q :: st) := by
  intro p l e s m args below meth c H locs ls F R hS hl h1 h2
  obtain ⟨d, rfl⟩ := hd
  obtain ⟨j, rfl, hj, hg⟩ := R_arr R hq
  have hD := e_D (k := k) (h := h) R.2.1
  refine W.zast F.1 F.2.1 (R.2.2.2.1 j _ hg) ((R.2.2.2.2.1.2 1 _ rfl).1 n (fun j => .int (f j))) (fun q => by cases q) (by show ¬ (i < 0 ∨ (arrV _ _ _).slots.size ≤ _); rw [arrV_size]; exact hi) rfl rfl d fun H9 e1 e2 e3 => ?_
  refine kk p l e s m args below meth c H9 _ ls F (R.set hj e2 ?_ (fun q hq9 => e3 q (fun z => ?_))) (hS.put e2 e3 (e_in R.2.1 j)) hl h1 h2
  · refine R.2.2.2.1.set hD hg (e := e_ce E (za n (upd f i.toNatClampNeg (vp_nar .boolean x)))) ?_ e3
    show H9[_]? = some (vp_cell _ _)
    rw [e1]
    show some ((vp_cell _ (n, .inl f)).setSlot _ _) = some (vp_cell _ (n, .inl _))
    rw [vp_cell_i, vp_cell_i, arrV_store]
    congr 2
    funext q
    by_cases hq : q = i.toNatClampNeg
    · subst hq
      simp [updV, upd, vp_nar]
      try rfl
    · simp [updV, upd, hq]
  · rw [z, R.2.1] at hq9
    omega
end HP
end
section
section HQ
variable {y : mI} {E : eT} {Z : zT} {k : Nat} {h : hT} {nc ns pc pc2 tgt : Nat} {L L2 : lT} {st : List Value}
theorem a_pF {idx ci j q : Nat} {fs : List Value} {v : Value} {ty : FieldType} (hd : fD y pc (.putfield idx) 3 pc2) (hf : fPF y.1.cls idx ci j ty) (hnm9 : y.1.name = "<init>") (hq : h q = .inr (ci, fs)) (hn : narrow ty (e_sh E v) = e_sh E v) (hv : fits ty (e_sh E v) = true) (hlen : j < fs.length) (kk : fA y E Z k (va_up h q (.inr (ci, fs.set j v))) nc ns pc2 L st) : fA y E Z k h nc ns pc L (v :: .ref q :: st) := by
  intro p l e s m args below meth c H locs ls F R hS hl h1 h2
  obtain ⟨d, rfl⟩ := hd
  obtain ⟨C, T, N, hc, hj, hO, hown, hfin, hdesc, hw⟩ := hf
  obtain ⟨i, rfl, hi, hg⟩ := R.get hq (ne_dead_r hc)
  obtain ⟨w1, ⟨ty0, hty⟩, hnm⟩ := cl_facts ci C T N hc
  have hin : ∀ w ∈ u_ws C T N, w ∈ mI_ws y := fun w hw => List.mem_cons_of_mem _ (w1 w hw)
  have hD := e_D (k := k) (h := h) R.2.1
  have hap := va_apart (own := y.1.cls) F.2.2.2.2.2.1 hin ty0 hty hnm R.2.2.2.2.1 hc
  obtain ⟨r, g1, cell, q1, q2, q3, q4⟩ := R.2.2.2.1 i _ hg
  have hr : r = (C, T, N) := Option.some.inj (g1.symm.trans hc)
  subst hr
  obtain ⟨hSl, hfc, kC, hkC, hkind⟩ := R.2.2.2.2.1.1 ci _ hc
  obtain ⟨cf, kf, fi, f, hi9, hsl⟩ := hSl j hj
  have hlay := F.2.2.2.2.2.1 _ (hin _ (u_in_lay hj))
  unfold u_lay at hlay
  rw [if_pos hfin] at hlay
  have hst := (u_facts hfc hkC (u_lays F.2.2.2.2.2.1 hin hj) hi9).1
  have hcf : m.cls = cf := by
    obtain ⟨_, _, c9, _, _, _, -, -, hf9, -, -, -, hown2, -⟩ := Cond.laysFinal_spec hlay
    have e1 : c9 = cf := by have := hi9.symm.trans hf9; simp at this; exact this.1.symm
    rw [hO, hown] at hown2
    rw [← e1]; exact Option.some.inj (F.2.2.2.2.1.symm.trans hown2)
  have h6 := u_fits hfc hkC hkind (Or.inr hlay) hi9 hdesc hn hv
  rw [hO] at hi9
  have fin : ∀ H9 : Heap, H9[E.1 (i + 11)]? = some (cell.setSlot ((E.2.2.1).2 ci j) (e_sh E v)) → H9.size = H.size → (∀ q, q ≠ E.1 (i + 11) → H9[q]? = H[q]?) → W p l e y.2.2.2.2 s m args below meth c H9 (locs ++ [⟨E.1 (i + 11), (E.2.2.1).2 ci j⟩]) nc ns (Z below args s) (F0 m (pc + 3) ls (st.map (e_sh E))) := by
    intro H9 e1 e2 e3
    refine kk p l e s m args below meth c H9 _ ls F (R.set hi e2 ?_ (fun q hq9 => e3 q (fun z => ?_))) (hS.put e2 e3 (e_in R.2.1 i)) hl h1 h2
    · refine R.2.2.2.1.set hD hg (e := e_ce E (.inr (ci, fs.set j v))) ?_ e3
      refine ⟨_, hc, ?_⟩
      show t_OB _ _ _ _ _ (vp_V ((fs.set j v).map (e_sh E)))
      rw [List.map_set]
      exact t_OB.to (V := updV (vp_V (fs.map (e_sh E))) j (e_sh E v)) ⟨_, e1, q2, q3, t_set q4 hap hj (e_sh E v)⟩ (fun x _ => vp_updV_set (by simpa using hlen) (e_sh E v) x)
    · rw [z, R.2.1] at hq9
      omega
  refine W.putFinK F.1 F.2.1 F.2.2.2.2.1 (F.w hw) hi9 hst hcf (F.2.2.2.2.2.2.2.trans hnm9) (by rw [q2]; exact h6) q1 q3 (by rw [hsl]; exact k2_hasslot (q4 j hj)) rfl rfl d fun H9 e1 e2 e3 => ?_
  rw [hsl] at e1 ⊢
  exact fin H9 e1 e2 e3
theorem R_S {U s : State} {H H9 : Heap} {locs : List Loc} (R : fR E k h U H) (hS : va_S (e_A E) s.heap H locs) (z : H9.size = H.size + 1) (o : ∀ q, q < H.size → H9[q]? = H[q]?) : va_S (e_A E) s.heap H9 locs := ⟨Nat.le_trans hS.1 (by omega), fun x a b => (o x (Nat.lt_of_lt_of_le a hS.1)).trans (hS.2.1 x a b), hS.2.2⟩
theorem R_P {U : State} {H H9 : Heap} (R : fR E k h U H) (o : ∀ q, q < H.size → H9[q]? = H[q]?) : va_P E.2.2.1 cls (e_W E k h) H9 := R.2.2.2.1.kept (fun i x hx => o x.1 ((R.2.2.2.1 i x hx).lt))
theorem a_new {idx ci N : Nat} {fs : List Value} (hd : fD y pc (.new idx) 3 pc2) (hf : fNW y.1.cls idx ci fs N) (hc : nc + 1 ≤ y.2.2.2.2.cells) (hs : ns + N ≤ y.2.2.2.2.slots) (kk : fA y E Z (k + 1) (va_up h (k + 11) (.inr (ci, fs))) (nc + 1) (ns + N) pc2 L (.ref (k + 11) :: st)) : fA y E Z k h nc ns pc L st := by
  intro p l e s m args below meth c H locs ls F R hS hl h1 h2
  obtain ⟨d, rfl⟩ := hd
  obtain ⟨C, T, ty, hcl, w1, w2, w3, hty, hfs, hmap⟩ := hf
  obtain ⟨u1, -, -⟩ := cl_facts ci C T N hcl
  have hKn := R.2.2.2.2.1.1 ci _ hcl
  refine W.newcK F.1 F.2.1 F.2.2.2.2.1 (F.w w1) (F.w w2) (F.w w3) rfl d hc hs hKn.2.1 rfl fun H9 kC hkC e1 z1 o1 => ?_
  have ea : E.1 (k + 11) = H.size := by rw [R.2.1, R.1]
  have kk := kk p l e s m args below meth c H9 locs ls F (R.push z1 ((R_P R o1).app (fun i x hx => ?_)) o1) (R_S R hS z1 o1) hl hc hs
  · rw [show (Value.ref (k + 11) :: st).map (e_sh E) = Value.ref H.size :: st.map (e_sh E) by rw [← ea]; rfl] at kk
    exact kk
  · have hz : i < 1 := (List.getElem?_eq_some_iff.mp hx).1
    rw [show i = 0 by omega] at hx
    cases hx
    refine ⟨_, hcl, ?_⟩
    show t_OB (E.1 (k + 11)) _ _ _ _ (vp_V (fs.map (e_sh E)))
    rw [hmap, ea]
    exact (u_born ty F.2.2.2.2.2.1 (fun w hw => List.mem_cons_of_mem _ (u1 w hw)) hKn hkC e1 hty).to hfs
theorem a_newi {n : Int32} {N : Nat} (hd : fD y pc (.newarray .int) 2 pc2) (hw : Cond.arrayClass .int ∈ gw) (hn : ¬ n < 0) (hN : n.toNatClampNeg = N) (hb : N ≤ 1000) (hc : nc + 1 ≤ y.2.2.2.2.cells) (hs : ns + N ≤ y.2.2.2.2.slots) (kk : fA y E Z (k + 1) (va_up h (k + 11) (ia N (fun _ => 0))) (nc + 1) (ns + N) pc2 L (.ref (k + 11) :: st)) : fA y E Z k h nc ns pc L (.int n :: st) := by
  intro p l e s m args below meth c H locs ls F R hS hl h1 h2
  obtain ⟨d, rfl⟩ := hd
  refine va_newaK (atype := .int) F.1 F.2.1 (F.w hw) rfl d rfl hn hN (by show N * 4 ≤ _; omega) hc hs rfl fun H9 cA e1 z1 o1 hAr hNm => ?_
  have ea : E.1 (k + 11) = H.size := by rw [R.2.1, R.1]
  have ec : cA = E.2.2.2.1 0 := Option.some.inj (hNm.symm.trans (R.2.2.2.2.1.2 0 _ rfl).2)
  have kk := kk p l e s m args below meth c H9 locs ls F (R.push z1 ((R_P R o1).app (fun i x hx => ?_)) o1) (R_S R hS z1 o1) hl hc hs
  · rw [show (Value.ref (k + 11) :: st).map (e_sh E) = Value.ref H.size :: st.map (e_sh E) by rw [← ea]; rfl] at kk
    exact kk
  · have hz : i < 1 := (List.getElem?_eq_some_iff.mp hx).1
    rw [show i = 0 by omega] at hx
    cases hx
    show H9[E.1 (k + 11)]? = some (vp_cell (E.2.2.2.1 0) (N, .inl (fun _ => 0)))
    rw [ea, e1, ec, vp_cell_i]
    rfl
theorem a_newz {n : Int32} {N : Nat} (hd : fD y pc (.newarray .boolean) 2 pc2) (hw : Cond.arrayClass .boolean ∈ gw) (hn : ¬ n < 0) (hN : n.toNatClampNeg = N) (hb : N ≤ 1000) (hc : nc + 1 ≤ y.2.2.2.2.cells) (hs : ns + N ≤ y.2.2.2.2.slots) (kk : fA y E Z (k + 1) (va_up h (k + 11) (za N (fun _ => 0))) (nc + 1) (ns + N) pc2 L (.ref (k + 11) :: st)) : fA y E Z k h nc ns pc L (.int n :: st) := by
  intro p l e s m args below meth c H locs ls F R hS hl h1 h2
  obtain ⟨d, rfl⟩ := hd
  refine va_newaK (atype := .boolean) F.1 F.2.1 (F.w hw) rfl d rfl hn hN (by show N * 1 ≤ _; omega) hc hs rfl fun H9 cA e1 z1 o1 hAr hNm => ?_
  have ea : E.1 (k + 11) = H.size := by rw [R.2.1, R.1]
  have ec : cA = E.2.2.2.1 1 := Option.some.inj (hNm.symm.trans (R.2.2.2.2.1.2 1 _ rfl).2)
  have kk := kk p l e s m args below meth c H9 locs ls F (R.push z1 ((R_P R o1).app (fun i x hx => ?_)) o1) (R_S R hS z1 o1) hl hc hs
  · rw [show (Value.ref (k + 11) :: st).map (e_sh E) = Value.ref H.size :: st.map (e_sh E) by rw [← ea]; rfl] at kk
    exact kk
  · have hz : i < 1 := (List.getElem?_eq_some_iff.mp hx).1
    rw [show i = 0 by omega] at hx
    cases hx
    show H9[E.1 (k + 11)]? = some (vp_cell (E.2.2.2.1 1) (N, .inl (fun _ => 0)))
    rw [ea, e1, ec, vp_cell_i]
    rfl
theorem a_newr {idx : Nat} {n : Int32} {N : Nat} (hd : fD y pc (.anewarray idx) 3 pc2) (hw : Cond.classLink y.1.cls idx "FigureLeave$House" ∈ gw) (hw2 : Cond.arrayOver (.object "FigureLeave$House") ∈ gw) (hn : ¬ n < 0) (hN : n.toNatClampNeg = N) (hb : N ≤ 1000) (hc : nc + 1 ≤ y.2.2.2.2.cells) (hs : ns + N ≤ y.2.2.2.2.slots) (kk : fA y E Z (k + 1) (va_up h (k + 11) (ra N (fun _ => none))) (nc + 1) (ns + N) pc2 L (.ref (k + 11) :: st)) : fA y E Z k h nc ns pc L (.int n :: st) := by
  intro p l e s m args below meth c H locs ls F R hS hl h1 h2
  obtain ⟨d, rfl⟩ := hd
  subst hN
  refine W.anew F.1 F.2.1 F.2.2.2.2.1 (F.w hw) (F.w hw2) rfl d rfl hn (by omega) hc hs fun cA kA comp f1 f2 f3 f4 => ?_
  generalize hH1 : H.push ({ cls := cA, slots := Array.replicate n.toNatClampNeg .null, vm := .none } : Cell) = H9
  have z1 : H9.size = H.size + 1 := by rw [← hH1, Array.size_push]
  have e1 : H9[H.size]? = some (arrV cA n.toNatClampNeg (fun _ => .null)) := by rw [← hH1, Array.getElem?_push_size, ← arrV_new]
  have o1 : ∀ q : Nat, q < H.size → H9[q]? = H[q]? := fun q hq => by rw [← hH1, Array.getElem?_push, if_neg (Nat.ne_of_lt hq)]
  have ea : E.1 (k + 11) = H.size := by rw [R.2.1, R.1]
  obtain ⟨kA2, comp2, g1, g2, g3, g4⟩ := (R.2.2.2.2.1.2 2 _ rfl).2
  have ec : cA = E.2.2.2.1 2 := Option.some.inj (f1.symm.trans g4)
  have kk := kk p l e s m args below meth c H9 locs ls F (R.push z1 ((R_P R o1).app (fun i x hx => ?_)) o1) (R_S R hS z1 o1) hl hc hs
  · rw [show (Value.ref (k + 11) :: st).map (e_sh E) = Value.ref H.size :: st.map (e_sh E) by rw [← ea]; rfl] at kk
    exact kk
  · have hz : i < 1 := (List.getElem?_eq_some_iff.mp hx).1
    rw [show i = 0 by omega] at hx
    cases hx
    show H9[E.1 (k + 11)]? = some (vp_cell (E.2.2.2.1 2) (n.toNatClampNeg, .inr (.inr (.inr (.inr (fun _ => none))))))
    rw [ea, e1, ec, vp_cell_q]
    rfl
theorem a_aast {q n v ci : Nat} {fs : List Value} {f : Nat → Option Nat} {T : u_T} {N : Nat} {i : Int32} (hd : fD y pc .aastore 1 pc2) (hq : h q = ra n f) (hv : h v = .inr (ci, fs)) (hcl : cls[ci]? = some ("FigureLeave$House", T, N)) (hi : vp_in i n) (kk : fA y E Z k (va_up h q (ra n (va_up f i.toNatClampNeg (some v)))) nc ns pc2 L st) : fA y E Z k h nc ns pc L (.ref v :: .int i :: .ref q :: st) := by
  intro p l e s m args below meth c H locs ls F R hS hl h1 h2
  obtain ⟨d, rfl⟩ := hd
  obtain ⟨j, rfl, hj, hg⟩ := R_arr R hq
  obtain ⟨j2, rfl, hj2, hg2⟩ := R.get hv (ne_dead_r hcl)
  have hD := e_D (k := k) (h := h) R.2.1
  have hlt : i.toNatClampNeg < n := Nat.not_le.mp fun q => hi (Or.inr q)
  have h0 : ¬ i < 0 := fun q => hi (Or.inl q)
  obtain ⟨r9, hr9, cellV, g1, g2, g3, -⟩ := R.2.2.2.1 j2 _ hg2
  have hcls := (R.2.2.2.2.1.1 ci _ hcl).2
  obtain ⟨kA, comp, k1, k2, k3, -⟩ := (R.2.2.2.2.1.2 2 _ rfl).2
  have hcomp : comp = E.2.2.1.1 ci := Option.some.inj (k3.symm.trans hcls.1)
  subst hcomp
  obtain ⟨kC, hkC, -⟩ := hcls.2
  refine W.aast F.1 F.2.1 (R.2.2.2.1 j _ hg) (fun q h => by cases h) (fun h => by cases h) k1 k2 rfl hkC ⟨h0, by show _ < (arrV _ _ _).slots.size; rw [arrV_size]; exact hlt⟩ g1 (fun q h => by rw [g3] at h; cases h) (by rw [g2]; exact hkC) (by rw [g2]; exact va_assign hcls) rfl rfl d fun H9 e1 e2 e3 => ?_
  refine kk p l e s m args below meth c H9 _ ls F (R.set hj e2 ?_ (fun q hq9 => e3 q (fun z => ?_))) (hS.put e2 e3 (e_in R.2.1 j)) hl h1 h2
  · refine R.2.2.2.1.set hD hg (e := e_ce E (ra n (va_up f i.toNatClampNeg (some (j2 + 11))))) ?_ e3
    show H9[_]? = some (vp_cell _ _)
    rw [e1]
    show some ((vp_cell _ (n, .inr (.inr (.inr (.inr (fun x => (f x).map E.1)))))).setSlot _ _) = some (vp_cell _ (n, .inr (.inr (.inr (.inr (fun x => (va_up f i.toNatClampNeg (some (j2 + 11)) x).map E.1))))))
    rw [vp_cell_q, vp_cell_q, arrV_store]
    congr 2
    funext q
    by_cases hq : q = i.toNatClampNeg
    · subst hq
      simp [updV, va_up, va_rf]
    · simp [updV, va_up, hq]
  · rw [z, R.2.1] at hq9
    omega
/-- System.arraycopy of ints -/
theorem a_copy {idx q0 q1 n0 n1 : Nat} {f g : Nat → Int32} {sp dp n : Int32} (hd : fD y pc (.invokestatic idx) 3 pc2) (w1 : Cond.methodLink y.1.cls idx arraycopyName ∈ gw) (w2 : Cond.native arraycopyName ∈ gw) (w3 : Cond.static arraycopyName ∈ gw) (w4 : Cond.initialized "java/lang/System" ∈ gw) (hq0 : h q0 = ia n0 f) (hq1 : h q1 = ia n1 g)
    (g1 : ¬ sp < 0) (g2 : ¬ dp < 0) (g3 : ¬ n < 0) (g4 : sp.toNatClampNeg + n.toNatClampNeg ≤ n0) (g5 : dp.toNatClampNeg + n.toNatClampNeg ≤ n1) (hfr : 1 ≤ y.2.2.2.2.frames) (hlo : (st.map fun v => v.category).sum + (nativeFrameWords "java/lang/System" "arraycopy" 5 + 11) ≤ y.2.2.2.2.locals)
    (kk : fA y E Z k (va_up h q1 (ia n1 (va_cpy f g sp.toNatClampNeg dp.toNatClampNeg n.toNatClampNeg))) nc ns pc2 L st) : fA y E Z k h nc ns pc L (.int n :: .int dp :: .ref q1 :: .int sp :: .ref q0 :: st) := by
  intro p l e s m args below meth c H locs ls F R hS hl h1 h2
  obtain ⟨d, rfl⟩ := hd
  obtain ⟨j0, rfl, hj0, hg0⟩ := R_arr R hq0
  obtain ⟨j1, rfl, hj1, hg1⟩ := R_arr R hq1
  have hD := e_D (k := k) (h := h) R.2.1
  have nn : ∀ z : Int32, ¬ z < 0 → z.toInt = (z.toNatClampNeg : Int) := by
    intro z hz
    have hz0 : (0 : Int) ≤ z.toInt := by
      have := Int32.not_lt.mp hz
      simpa using Int32.le_iff_toInt_le.mp this
    show z.toInt = ((z.toInt.toNat : Nat) : Int)
    omega
  have hcat : ((st.map (e_sh E)).map fun v => v.category).sum = (st.map fun v => v.category).sum := by
    rw [List.map_map]; congr 1; apply List.map_congr_left; intro v _; exact e_sh_cat E v
  intro T hT X
  have hc0 : H[E.1 (j0 + 11)]? = some (vp_cell (E.2.2.2.1 0) (n0, .inl f)) := R.2.2.2.1 j0 _ hg0
  have hc1 : H[E.1 (j1 + 11)]? = some (vp_cell (E.2.2.2.1 0) (n1, .inl g)) := R.2.2.2.1 j1 _ hg1
  obtain ⟨-, k0, hk0, cm0, hkk0⟩ := (R.2.2.2.2.1.2 0 _ rfl).1 n0 (fun j => .int (f j))
  obtain ⟨-, k1, hk1, cm1, hkk1⟩ := (R.2.2.2.2.1.2 0 _ rfl).1 n1 (fun j => .int (g j))
  obtain ⟨vm9, X9, step⟩ := X.arraycopy F.1 F.2.2.2.2.1 (F.w w1) (F.w w2) (F.w w3) (F.w w4) (src := E.1 (j0 + 11)) (dst := E.1 (j1 + 11)) (cs := vp_cell (E.2.2.2.1 0) (n0, .inl f)) (cd := vp_cell (E.2.2.2.1 0) (n1, .inl g)) (srcPos := sp) (destPos := dp) (n := n) (by rw [hT]; exact hc0) (by rw [hT]; exact hc1)
    (fun _ h => by cases h) (fun _ h => by cases h) (fun h => by cases h) (fun h => by cases h) hk0 hk1 hkk0 hkk1 (by simp [refKind]) g1 g2 g3
    (by rw [nn sp g1, nn n g3]; show ¬ _ > ((arrV (E.2.2.2.1 0) n0 (fun j => .int (f j))).slots.size : Int); rw [arrV_size]; omega)
    (by rw [nn dp g2, nn n g3]; show ¬ _ > ((arrV (E.2.2.2.1 0) n1 (fun j => .int (g j))).slots.size : Int); rw [arrV_size]; omega)
    (fun vm₁ _ i hi => by
      have e : (vp_cell (E.2.2.2.1 0) (n0, .inl f)).slots.getD (sp.toNatClampNeg + i) .null = .int (f (sp.toNatClampNeg + i)) := by
        show (arrV (E.2.2.2.1 0) n0 (fun j => .int (f j))).slots.getD _ _ = _
        rw [Array.getD_eq_getD_getElem?, arrV_read _ _ (by omega)]
        rfl
      refine ⟨?_, ?_⟩
      · rw [e]
        rfl
      · rw [e]
        exact trivial)
    (g := F0 m pc ls (.int n :: .int dp :: .ref (E.1 (j1 + 11)) :: .int sp :: .ref (E.1 (j0 + 11)) :: st.map (e_sh E))) rfl (by rw [F.2.2.2.1]; exact hl.1) (rest := st.map (e_sh E)) rfl (by rw [F.2.1]; exact d) hfr (by show 2 * 0 + _ + _ ≤ _; rw [hcat]; omega)
  have e1 : copied (vp_cell (E.2.2.2.1 0) (n0, .inl f)) (vp_cell (E.2.2.2.1 0) (n1, .inl g)) sp dp n = vp_cell (E.2.2.2.1 0) (n1, .inl (va_cpy f g sp.toNatClampNeg dp.toNatClampNeg n.toNatClampNeg)) := va_copied (fun z => .int z) _ _ f g g4
  rw [e1] at X9 step
  have hlt : E.1 (j1 + 11) < H.size := (Array.getElem?_eq_some_iff.mp hc1).1
  have hheap : ((T.setVm vm9).setCell (E.1 (j1 + 11)) (vp_cell (E.2.2.2.1 0) (n1, .inl (va_cpy f g sp.toNatClampNeg dp.toNatClampNeg n.toNatClampNeg)))).heap = H.setIfInBounds (E.1 (j1 + 11)) (vp_cell (E.2.2.2.1 0) (n1, .inl (va_cpy f g sp.toNatClampNeg dp.toNatClampNeg n.toNatClampNeg))) := by rw [← hT]; rfl
  have oq : ∀ q : Nat, q ≠ E.1 (j1 + 11) → (H.setIfInBounds (E.1 (j1 + 11)) (vp_cell (E.2.2.2.1 0) (n1, .inl (va_cpy f g sp.toNatClampNeg dp.toNatClampNeg n.toNatClampNeg))))[q]? = H[q]? := fun q hq => by simp [Array.getElem?_setIfInBounds, Ne.symm hq]
  obtain ⟨t, a1, b1⟩ := kk p l e s m args below meth c _ _ ls F (R.set hj1 (c := ia n1 (va_cpy f g sp.toNatClampNeg dp.toNatClampNeg n.toNatClampNeg)) (by simp) (R.2.2.2.1.set hD hg1 (show (H.setIfInBounds (E.1 (j1 + 11)) _)[E.1 (j1 + 11)]? = some _ by simp [Array.getElem?_setIfInBounds, hlt]; rfl) oq) (fun q hq9 => oq q (fun z => by rw [z, R.2.1] at hq9; omega))) ⟨by simp; exact hS.1, fun q x1 x2 => by
      rw [oq q (fun e => x2 (by rw [e]; exact e_in R.2.1 j1))]
      exact hS.2.1 q x1 x2, fun q hq => by
      rcases List.mem_append.mp hq with h | h
      · exact hS.2.2 q h
      · obtain ⟨z, -, hz⟩ := List.mem_map.mp h
        rw [← hz]
        exact e_in R.2.1 j1⟩ hl h1 h2 _ hheap X9
  exact ⟨t, step t a1, b1⟩
theorem a_mmax {idx : Nat} {x z : Int32} (hd : fD y pc (.invokestatic idx) 3 pc2) (w1 : Cond.methodLink y.1.cls idx Lib.Math.max.name ∈ gw) (w2 : Cond.static Lib.Math.max.name ∈ gw) (w3 : Cond.initialized "java/lang/Math" ∈ gw) (w4 : Cond.code Lib.Math.max.name Lib.Math.max.code 2 (some .int) ∈ gw) (hfr : 1 ≤ y.2.2.2.2.frames) (hlo : (st.map fun v => v.category).sum + 13 ≤ y.2.2.2.2.locals) (kk : fA y E Z k h nc ns pc2 L (.int (if x < z then z else x) :: st)) : fA y E Z k h nc ns pc L (.int z :: .int x :: st) := by
  intro p l e s m args below meth c H locs ls F R hS hl h1 h2
  obtain ⟨d, rfl⟩ := hd
  have hcat : ((st.map (e_sh E)).map fun v => v.category).sum = (st.map fun v => v.category).sum := by
    rw [List.map_map]; congr 1; apply List.map_congr_left; intro v _; exact e_sh_cat E v
  exact va_mmax F.1 F.2.1 (F.2.2.2.1.trans hl.1.symm) F.2.2.2.2.1 (F.w w1) (F.w w2) (F.w w3) (F.w w4) hfr (by rw [hcat]; exact hlo) h1 h2 d (kk p l e s m args below meth c H locs ls F R hS hl h1 h2)
theorem a_mmin {idx : Nat} {x z : Int32} (hd : fD y pc (.invokestatic idx) 3 pc2) (w1 : Cond.methodLink y.1.cls idx Lib.Math.min.name ∈ gw) (w2 : Cond.static Lib.Math.min.name ∈ gw) (w3 : Cond.initialized "java/lang/Math" ∈ gw) (w4 : Cond.code Lib.Math.min.name Lib.Math.min.code 2 (some .int) ∈ gw) (hfr : 1 ≤ y.2.2.2.2.frames) (hlo : (st.map fun v => v.category).sum + 13 ≤ y.2.2.2.2.locals) (kk : fA y E Z k h nc ns pc2 L (.int (if z < x then z else x) :: st)) : fA y E Z k h nc ns pc L (.int z :: .int x :: st) := by
  intro p l e s m args below meth c H locs ls F R hS hl h1 h2
  obtain ⟨d, rfl⟩ := hd
  have hcat : ((st.map (e_sh E)).map fun v => v.category).sum = (st.map fun v => v.category).sum := by
    rw [List.map_map]; congr 1; apply List.map_congr_left; intro v _; exact e_sh_cat E v
  exact va_mmin F.1 F.2.1 (F.2.2.2.1.trans hl.1.symm) F.2.2.2.2.1 (F.w w1) (F.w w2) (F.w w3) (F.w w4) hfr (by rw [hcat]; exact hlo) h1 h2 d (kk p l e s m args below meth c H locs ls F R hS hl h1 h2)
theorem a_mabs {idx : Nat} {x : Int32} (hd : fD y pc (.invokestatic idx) 3 pc2) (w1 : Cond.methodLink y.1.cls idx Lib.Math.abs.name ∈ gw) (w2 : Cond.static Lib.Math.abs.name ∈ gw) (w3 : Cond.initialized "java/lang/Math" ∈ gw) (w4 : Cond.code Lib.Math.abs.name Lib.Math.abs.code 1 (some .int) ∈ gw) (hfr : 1 ≤ y.2.2.2.2.frames) (hlo : (st.map fun v => v.category).sum + 13 ≤ y.2.2.2.2.locals) (kk : fA y E Z k h nc ns pc2 L (.int (if 0 ≤ x then x else 0 - x) :: st)) : fA y E Z k h nc ns pc L (.int x :: st) := by
  intro p l e s m args below meth c H locs ls F R hS hl h1 h2
  obtain ⟨d, rfl⟩ := hd
  have hcat : ((st.map (e_sh E)).map fun v => v.category).sum = (st.map fun v => v.category).sum := by
    rw [List.map_map]; congr 1; apply List.map_congr_left; intro v _; exact e_sh_cat E v
  exact va_mabs F.1 F.2.1 (F.2.2.2.1.trans hl.1.symm) F.2.2.2.2.1 (F.w w1) (F.w w2) (F.w w3) (F.w w4) hfr (by rw [hcat]; exact hlo) h1 h2 d (kk p l e s m args below meth c H locs ls F R hS hl h1 h2)
theorem a_oi {idx q : Nat} (hd : fD y pc (.invokespecial idx) 3 pc2) (w1 : Cond.methodLink y.1.cls idx objectInit ∈ gw) (w2 : Cond.instanceMethod objectInit ∈ gw) (w3 : Cond.code objectInit ⟨#[0xb1]⟩ 1 none ∈ gw) (hfr : 1 ≤ y.2.2.2.2.frames) (hlo : (st.map fun v => v.category).sum + 12 ≤ y.2.2.2.2.locals) (kk : fA y E Z k h nc ns pc2 L st) : fA y E Z k h nc ns pc L (.ref q :: st) := by
  intro p l e s m args below meth c H locs ls F R hS hl h1 h2
  obtain ⟨d, rfl⟩ := hd
  have hcat : ((st.map (e_sh E)).map fun v => v.category).sum = (st.map fun v => v.category).sum := by
    rw [List.map_map]; congr 1; apply List.map_congr_left; intro v _; exact e_sh_cat E v
  exact W.objInit F.1 F.2.1 F.2.2.2.2.1 (F.w w1) (F.w w2) (F.w w3) rfl (by rw [F.2.2.2.1]; exact hl.1) rfl d hfr (by show 2 * 0 + _ + _ ≤ _; rw [hcat]; omega) (kk p l e s m args below meth c H locs ls F R hS hl h1 h2)
variable {Q : Option Value → Nat → hT → Prop}
theorem a_ri {v : Int32} (hd : fD y pc .ireturn 1 pc2) (hr : y.2.2.2.1 = some .int) (hq : Q (some (.int v)) k h) : fA y E (fZ y E Q) k h nc ns pc L [.int v] := by
  intro p l e s m args below meth c H locs ls F R hS hl h1 h2
  refine W.widen h1 h2 ?_
  exact W.iret F.1 F.2.1 (F.2.2.1.trans hr) (fun t ht hW => ⟨⟨some (.int v), k, h, rfl, hq, by rw [ht]; exact R.warm hW⟩, hS.F ht⟩) hS.2.2 hd.1 F.2.2.2.2.2.2.1
theorem a_rz {v : Int32} {ty : FieldType} (hd : fD y pc .ireturn 1 pc2) (hr : y.2.2.2.1 = some ty) (hn : narrow ty (.int v) = .int v) (hq : Q (some (.int v)) k h) : fA y E (fZ y E Q) k h nc ns pc L [.int v] := by
  intro p l e s m args below meth c H locs ls F R hS hl h1 h2
  refine W.widen h1 h2 ?_
  exact W.zret F.1 F.2.1 (F.2.2.1.trans hr) hn (fun t ht hW => ⟨⟨some (.int v), k, h, rfl, hq, by rw [ht]; exact R.warm hW⟩, hS.F ht⟩) hS.2.2 hd.1 F.2.2.2.2.2.2.1
theorem a_rl {v : Int64} (hd : fD y pc .lreturn 1 pc2) (hr : y.2.2.2.1 = some .long) (hq : Q (some (.long v)) k h) : fA y E (fZ y E Q) k h nc ns pc L [.long v] := by
  intro p l e s m args below meth c H locs ls F R hS hl h1 h2
  refine W.widen h1 h2 ?_
  exact W.lret F.1 F.2.1 (F.2.2.1.trans hr) (fun t ht hW => ⟨⟨some (.long v), k, h, rfl, hq, by rw [ht]; exact R.warm hW⟩, hS.F ht⟩) hS.2.2 hd.1 F.2.2.2.2.2.2.1
theorem a_rv (hd : fD y pc .return_ 1 pc2) (hr : y.2.2.2.1 = none) (hq : Q none k h) : fA y E (fZ y E Q) k h nc ns pc L [] := by
  intro p l e s m args below meth c H locs ls F R hS hl h1 h2
  refine W.widen h1 h2 ?_
  exact W.vret F.1 F.2.1 (F.2.2.1.trans hr) (fun t ht hW => ⟨⟨none, k, h, rfl, hq, by rw [ht]; exact R.warm hW⟩, hS.F ht⟩) hS.2.2 hd.1 F.2.2.2.2.2.2.1
/-- a method's contract out of its walk -/
theorem fE.of {As : List Value} (hp : plainName y.1.cls = true) (hn : (lg_sl As).length ≤ y.2.2.1) (hL : lv_args 0 As = e_lv (id, E.2) 0 L) (kk : fA y E (fZ y E Q) k h 0 0 0 L []) : fE y E As k h Q := by
  intro l
  refine Met.ofW (cc := y.2.1) (maxL := y.2.2.1) (ret := y.2.2.2.1) hp rfl ?_
  intro p e s m args below meth c s₁ B hml hv
  obtain ⟨rfl, R⟩ := hv
  have hts := atoms_spec (ws := mI_ws y) B.pre
  have hown : s.vm.findClass y.1.cls = some m.cls := findClass_of_methodNamed B.named
  have hin : meth.name = y.1.name := (name_of_methodNamed B.named B.method).1
  have hsl : ∀ As : List Value, (lg_sl (As.map (e_sh E))).length = (lg_sl As).length := by
    intro As
    induction As with
    | nil => rfl
    | cons v t ih => simp only [lg_sl, List.map_cons, List.flatMap_cons, List.length_append, e_sh_cat] at ih ⊢; split <;> simp_all
  have hA : ∀ (As : List Value) (i : Nat) , lv_args i (As.map (e_sh E)) = (lv_args i As).map (fun q => (q.1, e_sh E q.2)) := by
    intro As
    induction As with
    | nil => intro i; rfl
    | cons v t ih => intro i; simp only [List.map_cons, lv_args, e_sh_cat, ih]
  have hB : ∀ (L : lT) (i : Nat), (e_lv (id, E.2) i L).map (fun q => (q.1, e_sh E q.2)) = e_lv E i L := by
    intro L
    induction L with
    | nil => intro i; rfl
    | cons x t ih =>
      intro i
      cases x with
      | none => exact ih (i + 1)
      | some v =>
        simp only [e_lv, List.map_cons, ih]
        congr 2
        cases v <;> rfl
  have hl := lv_entry (As.map (e_sh E)) (n := y.2.2.1) (by rw [hsl]; exact hn)
  rw [lg_entry_eq]
  rw [hA As 0, hL, hB] at hl
  exact kk p l e s m _ below meth c s.heap [] _ ⟨B.exec, B.bytes, B.returns, hml, hown, hts, B.notSynchronized, hin⟩ R va_S.rf hl (Nat.zero_le _) (Nat.zero_le _)
theorem fE.mono {As : List Value} {Q2 : Option Value → Nat → hT → Prop} (hE : fE y E As k h Q) (hq : ∀ r k1 h1, Q r k1 h1 → Q2 r k1 h1) : fE y E As k h Q2 := by
  intro l p e ha hc hk s m args below hf happ hP hT
  obtain ⟨n, o, a1, a2, a3, ⟨⟨⟨r, k1, h1, b1, b2, b3⟩, b4⟩, b5⟩⟩ := hE l p e ha hc hk s m args below hf happ hP hT
  exact ⟨n, o, a1, a2, a3, ⟨⟨⟨r, k1, h1, b1, hq r k1 h1 b2, b3⟩, b4⟩, b5⟩⟩
end HQ
end
section
/-! calls -/
def fML (own : String) (idx : Nat) (z : mI) : Prop := Cond.methodLink own idx z.1 ∈ gw ∨ ∃ host, Cond.methodLinkNest own idx z.1 host ∈ gw
def fMC (z : mI) (n : Nat) : Prop := Cond.code z.1 z.2.1 z.2.2.1 z.2.2.2.1 ∈ gw ∧ Cond.initialized z.1.cls ∈ gw ∧ z.1.cls ≠ "java/lang/invoke/MethodHandle" ∧ z.1.cls ≠ "java/lang/invoke/VarHandle" ∧ (parseMethodDescriptor z.1.desc).map (fun d => d.parameters.length) = some n
def fMS (z : mI) (n : Nat) : Prop := Cond.static z.1 ∈ gw ∧ fMC z n
def fMV (z : mI) (n : Nat) : Prop := (Cond.instanceMethod z.1 ∈ gw ∧ Cond.selects z.1.cls z.1 z.1 ∈ gw) ∧ fMC z n
def fMN (z : mI) (n : Nat) : Prop := (z.1.name = "<init>" ∧ Cond.instanceMethod z.1 ∈ gw ∧ z.2.2.2.1 = none) ∧ fMC z n
def fRm (y z : mI) : Prop := z.2.2.2.2.frames + 1 ≤ y.2.2.2.2.frames ∧ 8 + (z.2.2.1 + 11) + z.2.2.2.2.locals ≤ y.2.2.2.2.locals
section CL
variable {y : mI} {E : eT} {Z : zT} {k : Nat} {h : hT} {nc ns pc pc2 tgt : Nat} {L L2 : lT} {st : List Value}
variable {Q : Option Value → Nat → hT → Prop} {z : mI} {n idx : Nat} {As : List Value}
theorem g_in (h : fMC z n) : GoodIn (mI_ws y) (mI_ws z) := fun w hw => by
  rcases List.mem_cons.mp hw with e | hw
  · subst e
    exact ⟨List.mem_cons_of_mem _ h.1, gw_good h.1⟩
  · exact ⟨List.mem_cons_of_mem _ hw, gw_good hw⟩
theorem g_cat (st : List Value) : ((st.map (e_sh E)).map fun v => v.category).sum = (st.map fun v => v.category).sum := by
  rw [List.map_map]; congr 1; apply List.map_congr_left; intro v _; exact e_sh_cat E v
theorem a_run {p : Program} {l : Launch} {e : Env} {RR : Room} {s : State} {m : MethodId} {args : Array Value} {below : List Frame} {meth : Method} {c : Code} {H : Heap} {locs : List Loc} {cells slots mc ms : Nat} {QQ : State → Prop} {ls : Array Slot} {st0 rest : List Value} {a : Array Value} (R : fR E k h s H) (hr : va_Run p l e RR s m args below meth c H locs cells slots mc ms (F0 m pc ls st0) rest (fQ E Q a) (e_A E)) (hS : va_S (e_A E) s.heap H locs)
    (kk : ∀ (r : Option Value) (k1 : Nat) (h1 : hT) (H1 : Heap) (locs1 : List Loc), Q r k1 h1 → fR E k1 h1 s H1 → va_S (e_A E) s.heap H1 locs1 → W p l e RR s m args below meth c H1 locs1 (cells + mc) (slots + ms) QQ (F0 m (pc + 3) ls ((r.map (e_sh E)).toList ++ rest))) : W p l e RR s m args below meth c H locs cells slots QQ (F0 m pc ls st0) := by
  intro T hT X
  obtain ⟨v, st₀, t, T1, Lc, h0, X1, hL, e1, e2, ⟨⟨r, k1, h1, hv, hq, R1⟩, hz, hk⟩, st⟩ := hr T hT X
  cases hv
  rw [h0] at hz hk
  have hlow : ∀ q, q < E.2.1 → T1.heap[q]? = H[q]? := fun q hq => by rw [e1]; exact hk q (by rw [R.1]; omega) (Nat.not_le.mpr hq)
  obtain ⟨t2, a1, b1⟩ := kk r k1 h1 T1.heap (locs ++ Lc) hq ⟨by rw [e1]; exact R1.1, R.2.1, R1.2.2.1, by rw [e1]; exact R1.2.2.2.1, R.2.2.2.2.1, R.2.2.2.2.2.kept (by rw [R.1]; omega) hlow⟩
    ⟨Nat.le_trans hS.1 (by rw [e1]; exact hz), fun q x1 x2 => by rw [e1, hk q (Nat.lt_of_lt_of_le x1 hS.1) x2]; exact hS.2.1 q x1 x2, fun q hq => by
      rcases List.mem_append.mp hq with h | h
      · exact hS.2.2 q h
      · exact hL q h⟩ T1 rfl X1
  exact ⟨t2, st t2 a1, b1⟩
theorem g_pre {s : State} {H : Heap} (R : fR E k h s H) : PreS s H (va_Pc (As.map (e_sh E)) (fun U => fR E k h U U.heap)) (As.map (e_sh E)) :=
  ⟨fun _ U _ _ q => ⟨q.1, fR.same (u := U) q.2 rfl⟩, fun U hU hW => ⟨rfl, by show fR E k h U U.heap; rw [hU]; exact R.warm hW⟩⟩
theorem a_cS0 (hd : fD y pc (.invokestatic idx) 3 pc2) (hl9 : fML y.1.cls idx z) (hm : fMS z n) (hrm : fRm y z) (hn : As.length = n) (hw : (st.map fun v => v.category).sum ≤ 8) (hc : nc + z.2.2.2.2.cells ≤ y.2.2.2.2.cells) (hs : ns + z.2.2.2.2.slots ≤ y.2.2.2.2.slots) (hE : fE z E As k h Q)
    (kk : ∀ r k1 h1, Q r k1 h1 → fA y E Z k1 h1 (nc + z.2.2.2.2.cells) (ns + z.2.2.2.2.slots) pc2 L (r.toList ++ st)) {sk : List Value} (hsk : sk = As.reverse ++ st) : fA y E Z k h nc ns pc L sk := by
  intro p l e s m args below meth c H locs ls F R hS hl h1 h2
  subst hsk
  obtain ⟨d, rfl⟩ := hd
  obtain ⟨hm1, hm2⟩ := hm
  have hsk2 : (As.reverse ++ st).map (e_sh E) = (As.map (e_sh E)).reverse ++ st.map (e_sh E) := by rw [List.map_append, List.map_reverse]
  rcases hl9 with hl9 | ⟨host, hl9⟩
  · refine a_run R (Q := Q) (rest := st.map (e_sh E)) (va_runS (As := As.map (e_sh E)) (Ts := mI_ws y) ⟨F.1, F.2.1, F.2.2.2.1, F.2.2.2.2.1, F.2.2.2.2.2.1⟩ (hE l) ⟨callB_of n F.2.2.2.2.2.1 (g_in hm2) rfl rfl rfl (F.w hm2.2.1) (F.w hl9) hm2.2.2 hrm, F.w hm1⟩ (g_pre R) rfl (by rw [List.length_map]; exact hn) hl.1 hsk2 (lv_room (by rw [g_cat]; exact hw)) d ⟨hc, hs⟩) hS (fun r k1 h9 H1 locs1 q R1 hS1 => ?_)
    have kk := kk r k1 h9 q p l e s m args below meth c H1 locs1 ls F R1 hS1 hl hc hs
    rw [List.map_append] at kk
    rw [show (r.map (e_sh E)).toList = r.toList.map (e_sh E) by cases r <;> rfl]
    exact kk
  · refine a_run R (Q := Q) (rest := st.map (e_sh E)) (va_runSN (As := As.map (e_sh E)) (Ts := mI_ws y) ⟨F.1, F.2.1, F.2.2.2.1, F.2.2.2.2.1, F.2.2.2.2.2.1⟩ (hE l) ⟨va_cnB n F.2.2.2.2.2.1 (g_in hm2) rfl rfl rfl (va_Nw.of rfl (F.w hl9)) (F.w hm2.2.1) hm2.2.2 hrm, F.w hm1, trivial⟩ (g_pre R) rfl (by rw [List.length_map]; exact hn) hl.1 hsk2 (lv_room (by rw [g_cat]; exact hw)) d ⟨hc, hs⟩) hS (fun r k1 h9 H1 locs1 q R1 hS1 => ?_)
    have kk := kk r k1 h9 q p l e s m args below meth c H1 locs1 ls F R1 hS1 hl hc hs
    rw [List.map_append] at kk
    rw [show (r.map (e_sh E)).toList = r.toList.map (e_sh E) by cases r <;> rfl]
    exact kk
theorem a_cV0 {q ci : Nat} {fs : List Value} {T : u_T} {N : Nat} (hd : fD y pc (.invokevirtual idx) 3 pc2) (hl9 : fML y.1.cls idx z) (hm : fMV z n) (hrm : fRm y z) (hn : As.length = n) (hq : h q = .inr (ci, fs)) (hcl : cls[ci]? = some (z.1.cls, T, N)) (hw : (st.map fun v => v.category).sum ≤ 8) (hc : nc + z.2.2.2.2.cells ≤ y.2.2.2.2.cells) (hs : ns + z.2.2.2.2.slots ≤ y.2.2.2.2.slots) (hE : fE z E (.ref q :: As) k h Q)
    (kk : ∀ r k1 h1, Q r k1 h1 → fA y E Z k1 h1 (nc + z.2.2.2.2.cells) (ns + z.2.2.2.2.slots) pc2 L (r.toList ++ st)) {sk : List Value} (hsk : sk = As.reverse ++ .ref q :: st) : fA y E Z k h nc ns pc L sk := by
  intro p l e s m args below meth c H locs ls F R hS hl h1 h2
  subst hsk
  obtain ⟨d, rfl⟩ := hd
  obtain ⟨⟨hm0, hm1⟩, hm2⟩ := hm
  obtain ⟨j, rfl, hj, hg⟩ := R.get hq (ne_dead_r hcl)
  have hsk2 : (As.reverse ++ .ref (j + 11) :: st).map (e_sh E) = (As.map (e_sh E)).reverse ++ .ref (E.1 (j + 11)) :: st.map (e_sh E) := by rw [List.map_append, List.map_reverse]; rfl
  have hp : PreV s H z.1.cls (E.1 (j + 11)) (va_Pc ((Value.ref (j + 11) :: As).map (e_sh E)) (fun U => fR E k h U U.heap)) (As.map (e_sh E)) := ⟨(g_pre (As := .ref (j + 11) :: As) R).1, va_recv R.2.2.2.2.1 R.2.2.2.1 hcl hg, (g_pre (As := .ref (j + 11) :: As) R).2⟩
  rcases hl9 with hl9 | ⟨host, hl9⟩
  · refine a_run R (Q := Q) (rest := st.map (e_sh E)) (va_runV (As := As.map (e_sh E)) (b := E.1 (j + 11)) (C := z.1.cls) (Ts := mI_ws y) ⟨F.1, F.2.1, F.2.2.2.1, F.2.2.2.2.1, F.2.2.2.2.2.1⟩ (hE l) ⟨callB_of n F.2.2.2.2.2.1 (g_in hm2) rfl rfl rfl (F.w hm2.2.1) (F.w hl9) hm2.2.2 hrm, F.w hm0, F.w hm1⟩ hp rfl (by rw [List.length_map]; exact hn) hl.1 hsk2 (lv_room (by rw [g_cat]; exact hw)) d ⟨hc, hs⟩) hS (fun r k1 h9 H1 locs1 q R1 hS1 => ?_)
    have kk := kk r k1 h9 q p l e s m args below meth c H1 locs1 ls F R1 hS1 hl hc hs
    rw [List.map_append] at kk
    rw [show (r.map (e_sh E)).toList = r.toList.map (e_sh E) by cases r <;> rfl]
    exact kk
  · refine a_run R (Q := Q) (rest := st.map (e_sh E)) (va_runVN (As := As.map (e_sh E)) (b := E.1 (j + 11)) (C := z.1.cls) (Ts := mI_ws y) ⟨F.1, F.2.1, F.2.2.2.1, F.2.2.2.2.1, F.2.2.2.2.2.1⟩ (hE l) ⟨va_cnB n F.2.2.2.2.2.1 (g_in hm2) rfl rfl rfl (va_Nw.of rfl (F.w hl9)) (F.w hm2.2.1) hm2.2.2 hrm, F.w hm0, F.w hm1⟩ hp rfl (by rw [List.length_map]; exact hn) hl.1 hsk2 (lv_room (by rw [g_cat]; exact hw)) d ⟨hc, hs⟩) hS (fun r k1 h9 H1 locs1 q R1 hS1 => ?_)
    have kk := kk r k1 h9 q p l e s m args below meth c H1 locs1 ls F R1 hS1 hl hc hs
    rw [List.map_append] at kk
    rw [show (r.map (e_sh E)).toList = r.toList.map (e_sh E) by cases r <;> rfl]
    exact kk
theorem a_cI0 {q : Nat} (hd : fD y pc (.invokespecial idx) 3 pc2) (hl9 : fML y.1.cls idx z) (hm : fMN z n) (hrm : fRm y z) (hn : As.length = n) (hw : (st.map fun v => v.category).sum ≤ 8) (hc : nc + z.2.2.2.2.cells ≤ y.2.2.2.2.cells) (hs : ns + z.2.2.2.2.slots ≤ y.2.2.2.2.slots) (hE : fE z E (.ref q :: As) k h Q)
    (kk : ∀ r k1 h1, Q r k1 h1 → fA y E Z k1 h1 (nc + z.2.2.2.2.cells) (ns + z.2.2.2.2.slots) pc2 L (r.toList ++ st)) {sk : List Value} (hsk : sk = As.reverse ++ .ref q :: st) : fA y E Z k h nc ns pc L sk := by
  intro p l e s m args below meth c H locs ls F R hS hl h1 h2
  subst hsk
  obtain ⟨d, rfl⟩ := hd
  obtain ⟨⟨hm0, hm1, hmr⟩, hm2⟩ := hm
  have hsk2 : (As.reverse ++ .ref q :: st).map (e_sh E) = (As.map (e_sh E)).reverse ++ .ref (E.1 q) :: st.map (e_sh E) := by rw [List.map_append, List.map_reverse]; rfl
  have hp : PreS s H (va_Pc ((Value.ref q :: As).map (e_sh E)) (fun U => fR E k h U U.heap)) (.ref (E.1 q) :: As.map (e_sh E)) := g_pre (As := .ref q :: As) R
  have hwz : mI_ws z = Cond.code z.1 z.2.1 z.2.2.1 none :: gw := by unfold mI_ws; rw [hmr]
  rcases hl9 with hl9 | ⟨host, hl9⟩
  · refine a_run R (Q := Q) (rest := st.map (e_sh E)) (va_runI (As := As.map (e_sh E)) (b := E.1 q) (Ts := mI_ws y) ⟨F.1, F.2.1, F.2.2.2.1, F.2.2.2.2.1, F.2.2.2.2.2.1⟩ (hE l) ⟨callB_of n F.2.2.2.2.2.1 (g_in hm2) hwz rfl rfl (F.w hm2.2.1) (F.w hl9) hm2.2.2 hrm, hm0, F.w hm1⟩ hp rfl (by rw [List.length_map]; exact hn) hl.1 hsk2 (lv_room (by rw [g_cat]; exact hw)) d ⟨hc, hs⟩) hS (fun r k1 h9 H1 locs1 q R1 hS1 => ?_)
    have kk := kk r k1 h9 q p l e s m args below meth c H1 locs1 ls F R1 hS1 hl hc hs
    rw [List.map_append] at kk
    rw [show (r.map (e_sh E)).toList = r.toList.map (e_sh E) by cases r <;> rfl]
    exact kk
  · refine a_run R (Q := Q) (rest := st.map (e_sh E)) (va_runIN (As := As.map (e_sh E)) (b := E.1 q) (Ts := mI_ws y) ⟨F.1, F.2.1, F.2.2.2.1, F.2.2.2.2.1, F.2.2.2.2.2.1⟩ (hE l) ⟨va_cnB n F.2.2.2.2.2.1 (g_in hm2) hwz rfl rfl (va_Nw.of rfl (F.w hl9)) (F.w hm2.2.1) hm2.2.2 hrm, hm0, F.w hm1⟩ hp rfl (by rw [List.length_map]; exact hn) hl.1 hsk2 (lv_room (by rw [g_cat]; exact hw)) d ⟨hc, hs⟩) hS (fun r k1 h9 H1 locs1 q R1 hS1 => ?_)
    have kk := kk r k1 h9 q p l e s m args below meth c H1 locs1 ls F R1 hS1 hl hc hs
    rw [List.map_append] at kk
    rw [show (r.map (e_sh E)).toList = r.toList.map (e_sh E) by cases r <;> rfl]
    exact kk
end CL
end
section
theorem tt1 : goodWord (.fieldLinkNest "A" 1 "B" "c" "I" "A") = true := by decide +kernel
theorem tt2 : goodWord (.methodLinkNest "A" 1 ⟨"B", "c", "()V"⟩ "A") = true := by decide +kernel
theorem tt3 : goodWord (.stringRef "A" 1 "B") = true := by decide +kernel
theorem tt4 : goodWord (.selects "A" ⟨"B", "c", "()V"⟩ ⟨"B", "c", "()V"⟩) = true := by decide +kernel
theorem tt5 : goodWord (.arrayOver (.object "A")) = true := by decide +kernel
theorem tt6 : goodWord (.constantLong "A" 1 4) = true := by decide +kernel
theorem tt7 : (tables_1.filter (fun w => !goodWord w)).length = 5 := by decide +kernel
end
