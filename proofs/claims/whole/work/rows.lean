section
-- ===== PART A: goes FIRST, ahead of the names: the tables' words, and 'selects' of the private methods out of them =====
/-- a private method of a class that the tables say can be made, by its rows of tables_1 -/
def lw_okq (q : MethodName × Nat) : Prop := (q.1.cls ≠ "java/lang/invoke/MethodHandle" ∧ q.1.cls ≠ "java/lang/invoke/VarHandle") ∧ Cond.instantiable q.1.cls q.2 ∈ tables_1 ∧ Cond.privateMethod q.1 ∈ tables_1 ∧ Cond.instanceMethod q.1 ∈ tables_1
theorem lw_p0 : lw_okq (⟨"FigureLeave$House", "begin", "()V"⟩, 6) := ⟨⟨by decide +kernel, by decide +kernel⟩, List.mem_of_getElem? (i := 29) (by decide +kernel), List.mem_of_getElem? (i := 319) (by decide +kernel), List.mem_of_getElem? (i := 320) (by decide +kernel)⟩
theorem lw_p1 : lw_okq (⟨"FigureLeave$Shift", "begin", "()V"⟩, 2) := ⟨⟨by decide +kernel, by decide +kernel⟩, List.mem_of_getElem? (i := 35) (by decide +kernel), List.mem_of_getElem? (i := 323) (by decide +kernel), List.mem_of_getElem? (i := 324) (by decide +kernel)⟩
theorem lw_p2 : lw_okq (⟨"FigureLeave$Bills", "begin", "()V"⟩, 5) := ⟨⟨by decide +kernel, by decide +kernel⟩, List.mem_of_getElem? (i := 58) (by decide +kernel), List.mem_of_getElem? (i := 328) (by decide +kernel), List.mem_of_getElem? (i := 329) (by decide +kernel)⟩
theorem lw_p3 : lw_okq (⟨"FigureLeave$Clues", "dropTraces", "()I"⟩, 8) := ⟨⟨by decide +kernel, by decide +kernel⟩, List.mem_of_getElem? (i := 95) (by decide +kernel), List.mem_of_getElem? (i := 332) (by decide +kernel), List.mem_of_getElem? (i := 333) (by decide +kernel)⟩
theorem lw_p4 : lw_okq (⟨"FigureLeave$Clues", "dropNotes", "()I"⟩, 8) := ⟨⟨by decide +kernel, by decide +kernel⟩, List.mem_of_getElem? (i := 95) (by decide +kernel), List.mem_of_getElem? (i := 336) (by decide +kernel), List.mem_of_getElem? (i := 337) (by decide +kernel)⟩
theorem lw_p5 : lw_okq (⟨"FigureLeave", "bad", "()I"⟩, 12) := ⟨⟨by decide +kernel, by decide +kernel⟩, List.mem_of_getElem? (i := 21) (by decide +kernel), List.mem_of_getElem? (i := 350) (by decide +kernel), List.mem_of_getElem? (i := 351) (by decide +kernel)⟩
theorem lw_p6 : lw_okq (⟨"FigureLeave$House", "tellFigure", "(III)V"⟩, 6) := ⟨⟨by decide +kernel, by decide +kernel⟩, List.mem_of_getElem? (i := 29) (by decide +kernel), List.mem_of_getElem? (i := 354) (by decide +kernel), List.mem_of_getElem? (i := 355) (by decide +kernel)⟩
theorem lw_p7 : lw_okq (⟨"FigureLeave", "full", "()I"⟩, 12) := ⟨⟨by decide +kernel, by decide +kernel⟩, List.mem_of_getElem? (i := 21) (by decide +kernel), List.mem_of_getElem? (i := 366) (by decide +kernel), List.mem_of_getElem? (i := 367) (by decide +kernel)⟩
theorem lw_p8 : lw_okq (⟨"FigureLeave$House", "tellBill", "(II)V"⟩, 6) := ⟨⟨by decide +kernel, by decide +kernel⟩, List.mem_of_getElem? (i := 29) (by decide +kernel), List.mem_of_getElem? (i := 370) (by decide +kernel), List.mem_of_getElem? (i := 371) (by decide +kernel)⟩
theorem lw_p9 : lw_okq (⟨"FigureLeave$Bills", "add", "(II)V"⟩, 5) := ⟨⟨by decide +kernel, by decide +kernel⟩, List.mem_of_getElem? (i := 58) (by decide +kernel), List.mem_of_getElem? (i := 374) (by decide +kernel), List.mem_of_getElem? (i := 375) (by decide +kernel)⟩
theorem lw_p10 : lw_okq (⟨"FigureLeave$Text", "readInto", "(LFigureLeave$House;)I"⟩, 7) := ⟨⟨by decide +kernel, by decide +kernel⟩, List.mem_of_getElem? (i := 243) (by decide +kernel), List.mem_of_getElem? (i := 390) (by decide +kernel), List.mem_of_getElem? (i := 391) (by decide +kernel)⟩
theorem lw_p11 : lw_okq (⟨"FigureLeave$Text", "nextToken", "()V"⟩, 7) := ⟨⟨by decide +kernel, by decide +kernel⟩, List.mem_of_getElem? (i := 243) (by decide +kernel), List.mem_of_getElem? (i := 395) (by decide +kernel), List.mem_of_getElem? (i := 396) (by decide +kernel)⟩
theorem lw_p12 : lw_okq (⟨"FigureLeave$Text", "sortAt", "(I)I"⟩, 7) := ⟨⟨by decide +kernel, by decide +kernel⟩, List.mem_of_getElem? (i := 243) (by decide +kernel), List.mem_of_getElem? (i := 399) (by decide +kernel), List.mem_of_getElem? (i := 400) (by decide +kernel)⟩
theorem lw_p13 : lw_okq (⟨"FigureLeave$Text", "weighNumber", "()V"⟩, 7) := ⟨⟨by decide +kernel, by decide +kernel⟩, List.mem_of_getElem? (i := 243) (by decide +kernel), List.mem_of_getElem? (i := 403) (by decide +kernel), List.mem_of_getElem? (i := 404) (by decide +kernel)⟩
theorem lw_p14 : lw_okq (⟨"FigureLeave$Text", "readItem", "(LFigureLeave$House;Z)Z"⟩, 7) := ⟨⟨by decide +kernel, by decide +kernel⟩, List.mem_of_getElem? (i := 243) (by decide +kernel), List.mem_of_getElem? (i := 407) (by decide +kernel), List.mem_of_getElem? (i := 408) (by decide +kernel)⟩
theorem lw_p15 : lw_okq (⟨"FigureLeave$Text", "isWord", "(Ljava/lang/String;)Z"⟩, 7) := ⟨⟨by decide +kernel, by decide +kernel⟩, List.mem_of_getElem? (i := 243) (by decide +kernel), List.mem_of_getElem? (i := 412) (by decide +kernel), List.mem_of_getElem? (i := 413) (by decide +kernel)⟩
def lw_privs_1 : List (MethodName × Nat) := [(⟨"FigureLeave$House", "begin", "()V"⟩, 6), (⟨"FigureLeave$Shift", "begin", "()V"⟩, 2), (⟨"FigureLeave$Bills", "begin", "()V"⟩, 5), (⟨"FigureLeave$Clues", "dropTraces", "()I"⟩, 8), (⟨"FigureLeave$Clues", "dropNotes", "()I"⟩, 8), (⟨"FigureLeave", "bad", "()I"⟩, 12), (⟨"FigureLeave$House", "tellFigure", "(III)V"⟩, 6), (⟨"FigureLeave", "full", "()I"⟩, 12), (⟨"FigureLeave$House", "tellBill", "(II)V"⟩, 6), (⟨"FigureLeave$Bills", "add", "(II)V"⟩, 5), (⟨"FigureLeave$Text", "readInto", "(LFigureLeave$House;)I"⟩, 7), (⟨"FigureLeave$Text", "nextToken", "()V"⟩, 7), (⟨"FigureLeave$Text", "sortAt", "(I)I"⟩, 7), (⟨"FigureLeave$Text", "weighNumber", "()V"⟩, 7), (⟨"FigureLeave$Text", "readItem", "(LFigureLeave$House;Z)Z"⟩, 7), (⟨"FigureLeave$Text", "isWord", "(Ljava/lang/String;)Z"⟩, 7)]
theorem lw_r1 : ∀ q ∈ lw_privs_1, lw_okq q := List.forall_mem_cons.mpr ⟨lw_p0, List.forall_mem_cons.mpr ⟨lw_p1, List.forall_mem_cons.mpr ⟨lw_p2, List.forall_mem_cons.mpr ⟨lw_p3, List.forall_mem_cons.mpr ⟨lw_p4, List.forall_mem_cons.mpr ⟨lw_p5, List.forall_mem_cons.mpr ⟨lw_p6, List.forall_mem_cons.mpr ⟨lw_p7, List.forall_mem_cons.mpr ⟨lw_p8, List.forall_mem_cons.mpr ⟨lw_p9, List.forall_mem_cons.mpr ⟨lw_p10, List.forall_mem_cons.mpr ⟨lw_p11, List.forall_mem_cons.mpr ⟨lw_p12, List.forall_mem_cons.mpr ⟨lw_p13, List.forall_mem_cons.mpr ⟨lw_p14, List.forall_mem_cons.mpr ⟨lw_p15, fun _ h => absurd h List.not_mem_nil⟩⟩⟩⟩⟩⟩⟩⟩⟩⟩⟩⟩⟩⟩⟩⟩
theorem lw_p16 : lw_okq (⟨"FigureLeave$Text", "readFigure", "(LFigureLeave$House;)Z"⟩, 7) := ⟨⟨by decide +kernel, by decide +kernel⟩, List.mem_of_getElem? (i := 243) (by decide +kernel), List.mem_of_getElem? (i := 465) (by decide +kernel), List.mem_of_getElem? (i := 466) (by decide +kernel)⟩
theorem lw_p17 : lw_okq (⟨"FigureLeave$Text", "nextIsNumber", "(II)Z"⟩, 7) := ⟨⟨by decide +kernel, by decide +kernel⟩, List.mem_of_getElem? (i := 243) (by decide +kernel), List.mem_of_getElem? (i := 469) (by decide +kernel), List.mem_of_getElem? (i := 470) (by decide +kernel)⟩
theorem lw_p18 : lw_okq (⟨"FigureLeave$Text", "readBill", "(LFigureLeave$House;)Z"⟩, 7) := ⟨⟨by decide +kernel, by decide +kernel⟩, List.mem_of_getElem? (i := 243) (by decide +kernel), List.mem_of_getElem? (i := 476) (by decide +kernel), List.mem_of_getElem? (i := 477) (by decide +kernel)⟩
theorem lw_p19 : lw_okq (⟨"FigureLeave$Text", "readWrite", "(LFigureLeave$House;)Z"⟩, 7) := ⟨⟨by decide +kernel, by decide +kernel⟩, List.mem_of_getElem? (i := 243) (by decide +kernel), List.mem_of_getElem? (i := 482) (by decide +kernel), List.mem_of_getElem? (i := 483) (by decide +kernel)⟩
theorem lw_p20 : lw_okq (⟨"FigureLeave$Line", "tell", "(II)V"⟩, 2) := ⟨⟨by decide +kernel, by decide +kernel⟩, List.mem_of_getElem? (i := 190) (by decide +kernel), List.mem_of_getElem? (i := 486) (by decide +kernel), List.mem_of_getElem? (i := 487) (by decide +kernel)⟩
theorem lw_p21 : lw_okq (⟨"FigureLeave$Line", "addNumber", "(I)V"⟩, 2) := ⟨⟨by decide +kernel, by decide +kernel⟩, List.mem_of_getElem? (i := 190) (by decide +kernel), List.mem_of_getElem? (i := 490) (by decide +kernel), List.mem_of_getElem? (i := 491) (by decide +kernel)⟩
theorem lw_p22 : lw_okq (⟨"FigureLeave$House", "puts", "(LFigureLeave$Shift;LFigureLeave$Line;)Z"⟩, 6) := ⟨⟨by decide +kernel, by decide +kernel⟩, List.mem_of_getElem? (i := 29) (by decide +kernel), List.mem_of_getElem? (i := 497) (by decide +kernel), List.mem_of_getElem? (i := 498) (by decide +kernel)⟩
theorem lw_p23 : lw_okq (⟨"FigureLeave$House", "wearBy", "(LFigureLeave$Shift;LFigureLeave$Line;I)V"⟩, 6) := ⟨⟨by decide +kernel, by decide +kernel⟩, List.mem_of_getElem? (i := 29) (by decide +kernel), List.mem_of_getElem? (i := 501) (by decide +kernel), List.mem_of_getElem? (i := 502) (by decide +kernel)⟩
theorem lw_p24 : lw_okq (⟨"FigureLeave$House", "bears", "(LFigureLeave$Shift;LFigureLeave$Line;)Z"⟩, 6) := ⟨⟨by decide +kernel, by decide +kernel⟩, List.mem_of_getElem? (i := 29) (by decide +kernel), List.mem_of_getElem? (i := 508) (by decide +kernel), List.mem_of_getElem? (i := 509) (by decide +kernel)⟩
theorem lw_p25 : lw_okq (⟨"FigureLeave$Text", "readNight", "(LFigureLeave$House;)Z"⟩, 7) := ⟨⟨by decide +kernel, by decide +kernel⟩, List.mem_of_getElem? (i := 243) (by decide +kernel), List.mem_of_getElem? (i := 513) (by decide +kernel), List.mem_of_getElem? (i := 514) (by decide +kernel)⟩
theorem lw_p26 : lw_okq (⟨"FigureLeave$House", "sleep", "(I)V"⟩, 6) := ⟨⟨by decide +kernel, by decide +kernel⟩, List.mem_of_getElem? (i := 29) (by decide +kernel), List.mem_of_getElem? (i := 517) (by decide +kernel), List.mem_of_getElem? (i := 518) (by decide +kernel)⟩
theorem lw_p27 : lw_okq (⟨"FigureLeave$House", "rests", "(LFigureLeave$Shift;)V"⟩, 6) := ⟨⟨by decide +kernel, by decide +kernel⟩, List.mem_of_getElem? (i := 29) (by decide +kernel), List.mem_of_getElem? (i := 521) (by decide +kernel), List.mem_of_getElem? (i := 522) (by decide +kernel)⟩
theorem lw_p28 : lw_okq (⟨"FigureLeave$Text", "nextIsStop", "()Z"⟩, 7) := ⟨⟨by decide +kernel, by decide +kernel⟩, List.mem_of_getElem? (i := 243) (by decide +kernel), List.mem_of_getElem? (i := 535) (by decide +kernel), List.mem_of_getElem? (i := 536) (by decide +kernel)⟩
theorem lw_p29 : lw_okq (⟨"FigureLeave$House", "become", "(LFigureLeave$House;)V"⟩, 6) := ⟨⟨by decide +kernel, by decide +kernel⟩, List.mem_of_getElem? (i := 29) (by decide +kernel), List.mem_of_getElem? (i := 539) (by decide +kernel), List.mem_of_getElem? (i := 540) (by decide +kernel)⟩
theorem lw_p30 : lw_okq (⟨"FigureLeave$Shift", "become", "(LFigureLeave$Shift;)V"⟩, 2) := ⟨⟨by decide +kernel, by decide +kernel⟩, List.mem_of_getElem? (i := 35) (by decide +kernel), List.mem_of_getElem? (i := 546) (by decide +kernel), List.mem_of_getElem? (i := 547) (by decide +kernel)⟩
theorem lw_p31 : lw_okq (⟨"FigureLeave$Bills", "become", "(LFigureLeave$Bills;)V"⟩, 5) := ⟨⟨by decide +kernel, by decide +kernel⟩, List.mem_of_getElem? (i := 58) (by decide +kernel), List.mem_of_getElem? (i := 551) (by decide +kernel), List.mem_of_getElem? (i := 552) (by decide +kernel)⟩
def lw_privs_2 : List (MethodName × Nat) := [(⟨"FigureLeave$Text", "readFigure", "(LFigureLeave$House;)Z"⟩, 7), (⟨"FigureLeave$Text", "nextIsNumber", "(II)Z"⟩, 7), (⟨"FigureLeave$Text", "readBill", "(LFigureLeave$House;)Z"⟩, 7), (⟨"FigureLeave$Text", "readWrite", "(LFigureLeave$House;)Z"⟩, 7), (⟨"FigureLeave$Line", "tell", "(II)V"⟩, 2), (⟨"FigureLeave$Line", "addNumber", "(I)V"⟩, 2), (⟨"FigureLeave$House", "puts", "(LFigureLeave$Shift;LFigureLeave$Line;)Z"⟩, 6), (⟨"FigureLeave$House", "wearBy", "(LFigureLeave$Shift;LFigureLeave$Line;I)V"⟩, 6), (⟨"FigureLeave$House", "bears", "(LFigureLeave$Shift;LFigureLeave$Line;)Z"⟩, 6), (⟨"FigureLeave$Text", "readNight", "(LFigureLeave$House;)Z"⟩, 7), (⟨"FigureLeave$House", "sleep", "(I)V"⟩, 6), (⟨"FigureLeave$House", "rests", "(LFigureLeave$Shift;)V"⟩, 6), (⟨"FigureLeave$Text", "nextIsStop", "()Z"⟩, 7), (⟨"FigureLeave$House", "become", "(LFigureLeave$House;)V"⟩, 6), (⟨"FigureLeave$Shift", "become", "(LFigureLeave$Shift;)V"⟩, 2), (⟨"FigureLeave$Bills", "become", "(LFigureLeave$Bills;)V"⟩, 5)]
theorem lw_r2 : ∀ q ∈ lw_privs_2, lw_okq q := List.forall_mem_cons.mpr ⟨lw_p16, List.forall_mem_cons.mpr ⟨lw_p17, List.forall_mem_cons.mpr ⟨lw_p18, List.forall_mem_cons.mpr ⟨lw_p19, List.forall_mem_cons.mpr ⟨lw_p20, List.forall_mem_cons.mpr ⟨lw_p21, List.forall_mem_cons.mpr ⟨lw_p22, List.forall_mem_cons.mpr ⟨lw_p23, List.forall_mem_cons.mpr ⟨lw_p24, List.forall_mem_cons.mpr ⟨lw_p25, List.forall_mem_cons.mpr ⟨lw_p26, List.forall_mem_cons.mpr ⟨lw_p27, List.forall_mem_cons.mpr ⟨lw_p28, List.forall_mem_cons.mpr ⟨lw_p29, List.forall_mem_cons.mpr ⟨lw_p30, List.forall_mem_cons.mpr ⟨lw_p31, fun _ h => absurd h List.not_mem_nil⟩⟩⟩⟩⟩⟩⟩⟩⟩⟩⟩⟩⟩⟩⟩⟩
theorem lw_p32 : lw_okq (⟨"FigureLeave$Clues", "become", "(LFigureLeave$Clues;)V"⟩, 8) := ⟨⟨by decide +kernel, by decide +kernel⟩, List.mem_of_getElem? (i := 95) (by decide +kernel), List.mem_of_getElem? (i := 556) (by decide +kernel), List.mem_of_getElem? (i := 557) (by decide +kernel)⟩
theorem lw_p33 : lw_okq (⟨"FigureLeave$Past", "become", "(LFigureLeave$Past;)V"⟩, 2) := ⟨⟨by decide +kernel, by decide +kernel⟩, List.mem_of_getElem? (i := 131) (by decide +kernel), List.mem_of_getElem? (i := 561) (by decide +kernel), List.mem_of_getElem? (i := 562) (by decide +kernel)⟩
theorem lw_p34 : lw_okq (⟨"FigureLeave$House", "takes", "(LFigureLeave$Shift;LFigureLeave$Line;)Z"⟩, 6) := ⟨⟨by decide +kernel, by decide +kernel⟩, List.mem_of_getElem? (i := 29) (by decide +kernel), List.mem_of_getElem? (i := 572) (by decide +kernel), List.mem_of_getElem? (i := 573) (by decide +kernel)⟩
theorem lw_p35 : lw_okq (⟨"FigureLeave", "no", "()I"⟩, 12) := ⟨⟨by decide +kernel, by decide +kernel⟩, List.mem_of_getElem? (i := 21) (by decide +kernel), List.mem_of_getElem? (i := 576) (by decide +kernel), List.mem_of_getElem? (i := 577) (by decide +kernel)⟩
theorem lw_p36 : lw_okq (⟨"FigureLeave$House", "remember", "()V"⟩, 6) := ⟨⟨by decide +kernel, by decide +kernel⟩, List.mem_of_getElem? (i := 29) (by decide +kernel), List.mem_of_getElem? (i := 580) (by decide +kernel), List.mem_of_getElem? (i := 581) (by decide +kernel)⟩
theorem lw_p37 : lw_okq (⟨"FigureLeave$Past", "push", "(LFigureLeave$Shift;LFigureLeave$Bills;)V"⟩, 2) := ⟨⟨by decide +kernel, by decide +kernel⟩, List.mem_of_getElem? (i := 131) (by decide +kernel), List.mem_of_getElem? (i := 584) (by decide +kernel), List.mem_of_getElem? (i := 585) (by decide +kernel)⟩
theorem lw_p38 : lw_okq (⟨"FigureLeave$House", "costOf", "(LFigureLeave$Line;)I"⟩, 6) := ⟨⟨by decide +kernel, by decide +kernel⟩, List.mem_of_getElem? (i := 29) (by decide +kernel), List.mem_of_getElem? (i := 589) (by decide +kernel), List.mem_of_getElem? (i := 590) (by decide +kernel)⟩
theorem lw_p39 : lw_okq (⟨"FigureLeave$Bills", "holds", "(I)Z"⟩, 5) := ⟨⟨by decide +kernel, by decide +kernel⟩, List.mem_of_getElem? (i := 58) (by decide +kernel), List.mem_of_getElem? (i := 597) (by decide +kernel), List.mem_of_getElem? (i := 598) (by decide +kernel)⟩
theorem lw_p40 : lw_okq (⟨"FigureLeave$Bills", "isPaid", "(I)Z"⟩, 5) := ⟨⟨by decide +kernel, by decide +kernel⟩, List.mem_of_getElem? (i := 58) (by decide +kernel), List.mem_of_getElem? (i := 601) (by decide +kernel), List.mem_of_getElem? (i := 602) (by decide +kernel)⟩
theorem lw_p41 : lw_okq (⟨"FigureLeave$Bills", "settle", "(I)V"⟩, 5) := ⟨⟨by decide +kernel, by decide +kernel⟩, List.mem_of_getElem? (i := 58) (by decide +kernel), List.mem_of_getElem? (i := 605) (by decide +kernel), List.mem_of_getElem? (i := 606) (by decide +kernel)⟩
theorem lw_p42 : lw_okq (⟨"FigureLeave$House", "goBack", "()V"⟩, 6) := ⟨⟨by decide +kernel, by decide +kernel⟩, List.mem_of_getElem? (i := 29) (by decide +kernel), List.mem_of_getElem? (i := 619) (by decide +kernel), List.mem_of_getElem? (i := 620) (by decide +kernel)⟩
theorem lw_p43 : lw_okq (⟨"FigureLeave$Past", "pop", "(LFigureLeave$Shift;LFigureLeave$Bills;)V"⟩, 2) := ⟨⟨by decide +kernel, by decide +kernel⟩, List.mem_of_getElem? (i := 131) (by decide +kernel), List.mem_of_getElem? (i := 623) (by decide +kernel), List.mem_of_getElem? (i := 624) (by decide +kernel)⟩
theorem lw_p44 : lw_okq (⟨"FigureLeave$House", "leftOf", "(I)I"⟩, 6) := ⟨⟨by decide +kernel, by decide +kernel⟩, List.mem_of_getElem? (i := 29) (by decide +kernel), List.mem_of_getElem? (i := 631) (by decide +kernel), List.mem_of_getElem? (i := 632) (by decide +kernel)⟩
theorem lw_p45 : lw_okq (⟨"FigureLeave$Clerk", "cheapest", "(LFigureLeave$House;I)I"⟩, 6) := ⟨⟨by decide +kernel, by decide +kernel⟩, List.mem_of_getElem? (i := 184) (by decide +kernel), List.mem_of_getElem? (i := 660) (by decide +kernel), List.mem_of_getElem? (i := 661) (by decide +kernel)⟩
theorem lw_p46 : lw_okq (⟨"FigureLeave$Clerk", "firstWithout", "(LFigureLeave$House;)I"⟩, 6) := ⟨⟨by decide +kernel, by decide +kernel⟩, List.mem_of_getElem? (i := 184) (by decide +kernel), List.mem_of_getElem? (i := 671) (by decide +kernel), List.mem_of_getElem? (i := 672) (by decide +kernel)⟩
theorem lw_p47 : lw_okq (⟨"FigureLeave$Clerk", "byAny", "(LFigureLeave$House;I)Z"⟩, 6) := ⟨⟨by decide +kernel, by decide +kernel⟩, List.mem_of_getElem? (i := 184) (by decide +kernel), List.mem_of_getElem? (i := 675) (by decide +kernel), List.mem_of_getElem? (i := 676) (by decide +kernel)⟩
def lw_privs_3 : List (MethodName × Nat) := [(⟨"FigureLeave$Clues", "become", "(LFigureLeave$Clues;)V"⟩, 8), (⟨"FigureLeave$Past", "become", "(LFigureLeave$Past;)V"⟩, 2), (⟨"FigureLeave$House", "takes", "(LFigureLeave$Shift;LFigureLeave$Line;)Z"⟩, 6), (⟨"FigureLeave", "no", "()I"⟩, 12), (⟨"FigureLeave$House", "remember", "()V"⟩, 6), (⟨"FigureLeave$Past", "push", "(LFigureLeave$Shift;LFigureLeave$Bills;)V"⟩, 2), (⟨"FigureLeave$House", "costOf", "(LFigureLeave$Line;)I"⟩, 6), (⟨"FigureLeave$Bills", "holds", "(I)Z"⟩, 5), (⟨"FigureLeave$Bills", "isPaid", "(I)Z"⟩, 5), (⟨"FigureLeave$Bills", "settle", "(I)V"⟩, 5), (⟨"FigureLeave$House", "goBack", "()V"⟩, 6), (⟨"FigureLeave$Past", "pop", "(LFigureLeave$Shift;LFigureLeave$Bills;)V"⟩, 2), (⟨"FigureLeave$House", "leftOf", "(I)I"⟩, 6), (⟨"FigureLeave$Clerk", "cheapest", "(LFigureLeave$House;I)I"⟩, 6), (⟨"FigureLeave$Clerk", "firstWithout", "(LFigureLeave$House;)I"⟩, 6), (⟨"FigureLeave$Clerk", "byAny", "(LFigureLeave$House;I)Z"⟩, 6)]
theorem lw_r3 : ∀ q ∈ lw_privs_3, lw_okq q := List.forall_mem_cons.mpr ⟨lw_p32, List.forall_mem_cons.mpr ⟨lw_p33, List.forall_mem_cons.mpr ⟨lw_p34, List.forall_mem_cons.mpr ⟨lw_p35, List.forall_mem_cons.mpr ⟨lw_p36, List.forall_mem_cons.mpr ⟨lw_p37, List.forall_mem_cons.mpr ⟨lw_p38, List.forall_mem_cons.mpr ⟨lw_p39, List.forall_mem_cons.mpr ⟨lw_p40, List.forall_mem_cons.mpr ⟨lw_p41, List.forall_mem_cons.mpr ⟨lw_p42, List.forall_mem_cons.mpr ⟨lw_p43, List.forall_mem_cons.mpr ⟨lw_p44, List.forall_mem_cons.mpr ⟨lw_p45, List.forall_mem_cons.mpr ⟨lw_p46, List.forall_mem_cons.mpr ⟨lw_p47, fun _ h => absurd h List.not_mem_nil⟩⟩⟩⟩⟩⟩⟩⟩⟩⟩⟩⟩⟩⟩⟩⟩
theorem lw_p48 : lw_okq (⟨"FigureLeave$Clerk", "countOn", "(LFigureLeave$House;)I"⟩, 6) := ⟨⟨by decide +kernel, by decide +kernel⟩, List.mem_of_getElem? (i := 184) (by decide +kernel), List.mem_of_getElem? (i := 683) (by decide +kernel), List.mem_of_getElem? (i := 684) (by decide +kernel)⟩
theorem lw_p49 : lw_okq (⟨"FigureLeave$Clerk", "nightsTill", "(LFigureLeave$House;II)I"⟩, 6) := ⟨⟨by decide +kernel, by decide +kernel⟩, List.mem_of_getElem? (i := 184) (by decide +kernel), List.mem_of_getElem? (i := 693) (by decide +kernel), List.mem_of_getElem? (i := 694) (by decide +kernel)⟩
theorem lw_p50 : lw_okq (⟨"FigureLeave$Clerk", "dearestBills", "(LFigureLeave$House;)I"⟩, 6) := ⟨⟨by decide +kernel, by decide +kernel⟩, List.mem_of_getElem? (i := 184) (by decide +kernel), List.mem_of_getElem? (i := 702) (by decide +kernel), List.mem_of_getElem? (i := 703) (by decide +kernel)⟩
theorem lw_p51 : lw_okq (⟨"FigureLeave$Bills", "worthOf", "(I)I"⟩, 5) := ⟨⟨by decide +kernel, by decide +kernel⟩, List.mem_of_getElem? (i := 58) (by decide +kernel), List.mem_of_getElem? (i := 706) (by decide +kernel), List.mem_of_getElem? (i := 707) (by decide +kernel)⟩
theorem lw_p52 : lw_okq (⟨"FigureLeave$Clerk", "goTogether", "(LFigureLeave$House;I)Z"⟩, 6) := ⟨⟨by decide +kernel, by decide +kernel⟩, List.mem_of_getElem? (i := 184) (by decide +kernel), List.mem_of_getElem? (i := 710) (by decide +kernel), List.mem_of_getElem? (i := 711) (by decide +kernel)⟩
theorem lw_p53 : lw_okq (⟨"FigureLeave$Clerk", "planDays", "(LFigureLeave$House;)I"⟩, 6) := ⟨⟨by decide +kernel, by decide +kernel⟩, List.mem_of_getElem? (i := 184) (by decide +kernel), List.mem_of_getElem? (i := 719) (by decide +kernel), List.mem_of_getElem? (i := 720) (by decide +kernel)⟩
theorem lw_p54 : lw_okq (⟨"FigureLeave$Clerk", "planWithin", "(LFigureLeave$House;I)Z"⟩, 6) := ⟨⟨by decide +kernel, by decide +kernel⟩, List.mem_of_getElem? (i := 184) (by decide +kernel), List.mem_of_getElem? (i := 724) (by decide +kernel), List.mem_of_getElem? (i := 725) (by decide +kernel)⟩
theorem lw_p55 : lw_okq (⟨"FigureLeave$Clerk", "holdsSoFar", "(LFigureLeave$House;II)Z"⟩, 6) := ⟨⟨by decide +kernel, by decide +kernel⟩, List.mem_of_getElem? (i := 184) (by decide +kernel), List.mem_of_getElem? (i := 729) (by decide +kernel), List.mem_of_getElem? (i := 730) (by decide +kernel)⟩
theorem lw_p56 : lw_okq (⟨"FigureLeave$Clerk", "plannedDay", "(I)I"⟩, 6) := ⟨⟨by decide +kernel, by decide +kernel⟩, List.mem_of_getElem? (i := 184) (by decide +kernel), List.mem_of_getElem? (i := 733) (by decide +kernel), List.mem_of_getElem? (i := 734) (by decide +kernel)⟩
theorem lw_p57 : lw_okq (⟨"FigureLeave$Clerk", "mostWanted", "(LFigureLeave$House;)I"⟩, 6) := ⟨⟨by decide +kernel, by decide +kernel⟩, List.mem_of_getElem? (i := 184) (by decide +kernel), List.mem_of_getElem? (i := 741) (by decide +kernel), List.mem_of_getElem? (i := 742) (by decide +kernel)⟩
theorem lw_p58 : lw_okq (⟨"FigureLeave$Clerk", "numbersWith", "(LFigureLeave$House;I)I"⟩, 6) := ⟨⟨by decide +kernel, by decide +kernel⟩, List.mem_of_getElem? (i := 184) (by decide +kernel), List.mem_of_getElem? (i := 745) (by decide +kernel), List.mem_of_getElem? (i := 746) (by decide +kernel)⟩
theorem lw_p59 : lw_okq (⟨"FigureLeave$Clues", "addTrace", "(II)V"⟩, 8) := ⟨⟨by decide +kernel, by decide +kernel⟩, List.mem_of_getElem? (i := 95) (by decide +kernel), List.mem_of_getElem? (i := 755) (by decide +kernel), List.mem_of_getElem? (i := 756) (by decide +kernel)⟩
theorem lw_p60 : lw_okq (⟨"FigureLeave$Sleuth", "howManyLines", "(LFigureLeave$House;)I"⟩, 1) := ⟨⟨by decide +kernel, by decide +kernel⟩, List.mem_of_getElem? (i := 231) (by decide +kernel), List.mem_of_getElem? (i := 763) (by decide +kernel), List.mem_of_getElem? (i := 764) (by decide +kernel)⟩
theorem lw_p61 : lw_okq (⟨"FigureLeave$Sleuth", "fitsTraces", "(LFigureLeave$House;I)Z"⟩, 1) := ⟨⟨by decide +kernel, by decide +kernel⟩, List.mem_of_getElem? (i := 231) (by decide +kernel), List.mem_of_getElem? (i := 767) (by decide +kernel), List.mem_of_getElem? (i := 768) (by decide +kernel)⟩
theorem lw_p62 : lw_okq (⟨"FigureLeave$Sleuth", "moreWorn", "(LFigureLeave$House;I)I"⟩, 1) := ⟨⟨by decide +kernel, by decide +kernel⟩, List.mem_of_getElem? (i := 231) (by decide +kernel), List.mem_of_getElem? (i := 772) (by decide +kernel), List.mem_of_getElem? (i := 773) (by decide +kernel)⟩
theorem lw_p63 : lw_okq (⟨"FigureLeave$Sleuth", "lineAt", "(LFigureLeave$House;I)I"⟩, 1) := ⟨⟨by decide +kernel, by decide +kernel⟩, List.mem_of_getElem? (i := 231) (by decide +kernel), List.mem_of_getElem? (i := 777) (by decide +kernel), List.mem_of_getElem? (i := 778) (by decide +kernel)⟩
def lw_privs_4 : List (MethodName × Nat) := [(⟨"FigureLeave$Clerk", "countOn", "(LFigureLeave$House;)I"⟩, 6), (⟨"FigureLeave$Clerk", "nightsTill", "(LFigureLeave$House;II)I"⟩, 6), (⟨"FigureLeave$Clerk", "dearestBills", "(LFigureLeave$House;)I"⟩, 6), (⟨"FigureLeave$Bills", "worthOf", "(I)I"⟩, 5), (⟨"FigureLeave$Clerk", "goTogether", "(LFigureLeave$House;I)Z"⟩, 6), (⟨"FigureLeave$Clerk", "planDays", "(LFigureLeave$House;)I"⟩, 6), (⟨"FigureLeave$Clerk", "planWithin", "(LFigureLeave$House;I)Z"⟩, 6), (⟨"FigureLeave$Clerk", "holdsSoFar", "(LFigureLeave$House;II)Z"⟩, 6), (⟨"FigureLeave$Clerk", "plannedDay", "(I)I"⟩, 6), (⟨"FigureLeave$Clerk", "mostWanted", "(LFigureLeave$House;)I"⟩, 6), (⟨"FigureLeave$Clerk", "numbersWith", "(LFigureLeave$House;I)I"⟩, 6), (⟨"FigureLeave$Clues", "addTrace", "(II)V"⟩, 8), (⟨"FigureLeave$Sleuth", "howManyLines", "(LFigureLeave$House;)I"⟩, 1), (⟨"FigureLeave$Sleuth", "fitsTraces", "(LFigureLeave$House;I)Z"⟩, 1), (⟨"FigureLeave$Sleuth", "moreWorn", "(LFigureLeave$House;I)I"⟩, 1), (⟨"FigureLeave$Sleuth", "lineAt", "(LFigureLeave$House;I)I"⟩, 1)]
theorem lw_r4 : ∀ q ∈ lw_privs_4, lw_okq q := List.forall_mem_cons.mpr ⟨lw_p48, List.forall_mem_cons.mpr ⟨lw_p49, List.forall_mem_cons.mpr ⟨lw_p50, List.forall_mem_cons.mpr ⟨lw_p51, List.forall_mem_cons.mpr ⟨lw_p52, List.forall_mem_cons.mpr ⟨lw_p53, List.forall_mem_cons.mpr ⟨lw_p54, List.forall_mem_cons.mpr ⟨lw_p55, List.forall_mem_cons.mpr ⟨lw_p56, List.forall_mem_cons.mpr ⟨lw_p57, List.forall_mem_cons.mpr ⟨lw_p58, List.forall_mem_cons.mpr ⟨lw_p59, List.forall_mem_cons.mpr ⟨lw_p60, List.forall_mem_cons.mpr ⟨lw_p61, List.forall_mem_cons.mpr ⟨lw_p62, List.forall_mem_cons.mpr ⟨lw_p63, fun _ h => absurd h List.not_mem_nil⟩⟩⟩⟩⟩⟩⟩⟩⟩⟩⟩⟩⟩⟩⟩⟩
theorem lw_p64 : lw_okq (⟨"FigureLeave$Clues", "addNote", "(IIII)V"⟩, 8) := ⟨⟨by decide +kernel, by decide +kernel⟩, List.mem_of_getElem? (i := 95) (by decide +kernel), List.mem_of_getElem? (i := 785) (by decide +kernel), List.mem_of_getElem? (i := 786) (by decide +kernel)⟩
theorem lw_p65 : lw_okq (⟨"FigureLeave$Clues", "kindsOf", "(I)I"⟩, 8) := ⟨⟨by decide +kernel, by decide +kernel⟩, List.mem_of_getElem? (i := 95) (by decide +kernel), List.mem_of_getElem? (i := 799) (by decide +kernel), List.mem_of_getElem? (i := 800) (by decide +kernel)⟩
theorem lw_p66 : lw_okq (⟨"FigureLeave$Clues", "mayBe", "(II)Z"⟩, 8) := ⟨⟨by decide +kernel, by decide +kernel⟩, List.mem_of_getElem? (i := 95) (by decide +kernel), List.mem_of_getElem? (i := 803) (by decide +kernel), List.mem_of_getElem? (i := 804) (by decide +kernel)⟩
theorem lw_p67 : lw_okq (⟨"FigureLeave$Sleuth", "nextLook", "(I)I"⟩, 1) := ⟨⟨by decide +kernel, by decide +kernel⟩, List.mem_of_getElem? (i := 231) (by decide +kernel), List.mem_of_getElem? (i := 812) (by decide +kernel), List.mem_of_getElem? (i := 813) (by decide +kernel)⟩
theorem lw_p68 : lw_okq (⟨"FigureLeave$Sleuth", "mostAlike", "(III)I"⟩, 1) := ⟨⟨by decide +kernel, by decide +kernel⟩, List.mem_of_getElem? (i := 231) (by decide +kernel), List.mem_of_getElem? (i := 816) (by decide +kernel), List.mem_of_getElem? (i := 817) (by decide +kernel)⟩
theorem lw_p69 : lw_okq (⟨"FigureLeave$Clerk", "restingPairs", "(LFigureLeave$House;II)I"⟩, 6) := ⟨⟨by decide +kernel, by decide +kernel⟩, List.mem_of_getElem? (i := 184) (by decide +kernel), List.mem_of_getElem? (i := 825) (by decide +kernel), List.mem_of_getElem? (i := 826) (by decide +kernel)⟩
theorem lw_p70 : lw_okq (⟨"FigureLeave$Clerk", "gain", "(LFigureLeave$House;IIII)I"⟩, 6) := ⟨⟨by decide +kernel, by decide +kernel⟩, List.mem_of_getElem? (i := 184) (by decide +kernel), List.mem_of_getElem? (i := 829) (by decide +kernel), List.mem_of_getElem? (i := 830) (by decide +kernel)⟩
theorem lw_p71 : lw_okq (⟨"FigureLeave$Clerk", "luckyWays", "(LFigureLeave$House;LFigureLeave$Line;I)I"⟩, 6) := ⟨⟨by decide +kernel, by decide +kernel⟩, List.mem_of_getElem? (i := 184) (by decide +kernel), List.mem_of_getElem? (i := 837) (by decide +kernel), List.mem_of_getElem? (i := 838) (by decide +kernel)⟩
theorem lw_p72 : lw_okq (⟨"FigureLeave$Clerk", "bearsFree", "(LFigureLeave$House;LFigureLeave$Line;I)Z"⟩, 6) := ⟨⟨by decide +kernel, by decide +kernel⟩, List.mem_of_getElem? (i := 184) (by decide +kernel), List.mem_of_getElem? (i := 841) (by decide +kernel), List.mem_of_getElem? (i := 842) (by decide +kernel)⟩
theorem lw_p73 : lw_okq (⟨"FigureLeave$Clerk", "waysOf", "(III)I"⟩, 6) := ⟨⟨by decide +kernel, by decide +kernel⟩, List.mem_of_getElem? (i := 184) (by decide +kernel), List.mem_of_getElem? (i := 847) (by decide +kernel), List.mem_of_getElem? (i := 848) (by decide +kernel)⟩
theorem lw_p74 : lw_okq (⟨"FigureLeave", "setFraction", "(II)V"⟩, 12) := ⟨⟨by decide +kernel, by decide +kernel⟩, List.mem_of_getElem? (i := 21) (by decide +kernel), List.mem_of_getElem? (i := 851) (by decide +kernel), List.mem_of_getElem? (i := 852) (by decide +kernel)⟩
theorem lw_p75 : lw_okq (⟨"FigureLeave$Clerk", "writtenBySeed", "(LFigureLeave$House;II)I"⟩, 6) := ⟨⟨by decide +kernel, by decide +kernel⟩, List.mem_of_getElem? (i := 184) (by decide +kernel), List.mem_of_getElem? (i := 860) (by decide +kernel), List.mem_of_getElem? (i := 861) (by decide +kernel)⟩
theorem lw_p76 : lw_okq (⟨"FigureLeave", "howMany", "(I)I"⟩, 12) := ⟨⟨by decide +kernel, by decide +kernel⟩, List.mem_of_getElem? (i := 21) (by decide +kernel), List.mem_of_getElem? (i := 889) (by decide +kernel), List.mem_of_getElem? (i := 890) (by decide +kernel)⟩
theorem lw_p77 : lw_okq (⟨"FigureLeave$Shift", "wornTogether", "()I"⟩, 2) := ⟨⟨by decide +kernel, by decide +kernel⟩, List.mem_of_getElem? (i := 35) (by decide +kernel), List.mem_of_getElem? (i := 893) (by decide +kernel), List.mem_of_getElem? (i := 894) (by decide +kernel)⟩
theorem lw_p78 : lw_okq (⟨"FigureLeave$House", "mixInto", "(J)J"⟩, 6) := ⟨⟨by decide +kernel, by decide +kernel⟩, List.mem_of_getElem? (i := 29) (by decide +kernel), List.mem_of_getElem? (i := 903) (by decide +kernel), List.mem_of_getElem? (i := 904) (by decide +kernel)⟩
theorem lw_p79 : lw_okq (⟨"FigureLeave$Clues", "mixInto", "(J)J"⟩, 8) := ⟨⟨by decide +kernel, by decide +kernel⟩, List.mem_of_getElem? (i := 95) (by decide +kernel), List.mem_of_getElem? (i := 908) (by decide +kernel), List.mem_of_getElem? (i := 909) (by decide +kernel)⟩
def lw_privs_5 : List (MethodName × Nat) := [(⟨"FigureLeave$Clues", "addNote", "(IIII)V"⟩, 8), (⟨"FigureLeave$Clues", "kindsOf", "(I)I"⟩, 8), (⟨"FigureLeave$Clues", "mayBe", "(II)Z"⟩, 8), (⟨"FigureLeave$Sleuth", "nextLook", "(I)I"⟩, 1), (⟨"FigureLeave$Sleuth", "mostAlike", "(III)I"⟩, 1), (⟨"FigureLeave$Clerk", "restingPairs", "(LFigureLeave$House;II)I"⟩, 6), (⟨"FigureLeave$Clerk", "gain", "(LFigureLeave$House;IIII)I"⟩, 6), (⟨"FigureLeave$Clerk", "luckyWays", "(LFigureLeave$House;LFigureLeave$Line;I)I"⟩, 6), (⟨"FigureLeave$Clerk", "bearsFree", "(LFigureLeave$House;LFigureLeave$Line;I)Z"⟩, 6), (⟨"FigureLeave$Clerk", "waysOf", "(III)I"⟩, 6), (⟨"FigureLeave", "setFraction", "(II)V"⟩, 12), (⟨"FigureLeave$Clerk", "writtenBySeed", "(LFigureLeave$House;II)I"⟩, 6), (⟨"FigureLeave", "howMany", "(I)I"⟩, 12), (⟨"FigureLeave$Shift", "wornTogether", "()I"⟩, 2), (⟨"FigureLeave$House", "mixInto", "(J)J"⟩, 6), (⟨"FigureLeave$Clues", "mixInto", "(J)J"⟩, 8)]
theorem lw_r5 : ∀ q ∈ lw_privs_5, lw_okq q := List.forall_mem_cons.mpr ⟨lw_p64, List.forall_mem_cons.mpr ⟨lw_p65, List.forall_mem_cons.mpr ⟨lw_p66, List.forall_mem_cons.mpr ⟨lw_p67, List.forall_mem_cons.mpr ⟨lw_p68, List.forall_mem_cons.mpr ⟨lw_p69, List.forall_mem_cons.mpr ⟨lw_p70, List.forall_mem_cons.mpr ⟨lw_p71, List.forall_mem_cons.mpr ⟨lw_p72, List.forall_mem_cons.mpr ⟨lw_p73, List.forall_mem_cons.mpr ⟨lw_p74, List.forall_mem_cons.mpr ⟨lw_p75, List.forall_mem_cons.mpr ⟨lw_p76, List.forall_mem_cons.mpr ⟨lw_p77, List.forall_mem_cons.mpr ⟨lw_p78, List.forall_mem_cons.mpr ⟨lw_p79, fun _ h => absurd h List.not_mem_nil⟩⟩⟩⟩⟩⟩⟩⟩⟩⟩⟩⟩⟩⟩⟩⟩
theorem lw_p80 : lw_okq (⟨"FigureLeaveModel", "refuses", "(I)I"⟩, 17) := ⟨⟨by decide +kernel, by decide +kernel⟩, List.mem_of_getElem? (i := 913) (by decide +kernel), List.mem_of_getElem? (i := 986) (by decide +kernel), List.mem_of_getElem? (i := 987) (by decide +kernel)⟩
theorem lw_p81 : lw_okq (⟨"FigureLeaveModel", "advances", "()V"⟩, 17) := ⟨⟨by decide +kernel, by decide +kernel⟩, List.mem_of_getElem? (i := 913) (by decide +kernel), List.mem_of_getElem? (i := 1009) (by decide +kernel), List.mem_of_getElem? (i := 1010) (by decide +kernel)⟩
theorem lw_p82 : lw_okq (⟨"FigureLeaveModel", "at", "(I)I"⟩, 17) := ⟨⟨by decide +kernel, by decide +kernel⟩, List.mem_of_getElem? (i := 913) (by decide +kernel), List.mem_of_getElem? (i := 1013) (by decide +kernel), List.mem_of_getElem? (i := 1014) (by decide +kernel)⟩
theorem lw_p83 : lw_okq (⟨"FigureLeaveModel", "word", "()I"⟩, 17) := ⟨⟨by decide +kernel, by decide +kernel⟩, List.mem_of_getElem? (i := 913) (by decide +kernel), List.mem_of_getElem? (i := 1020) (by decide +kernel), List.mem_of_getElem? (i := 1021) (by decide +kernel)⟩
theorem lw_p84 : lw_okq (⟨"FigureLeaveModel", "isWell", "()Z"⟩, 17) := ⟨⟨by decide +kernel, by decide +kernel⟩, List.mem_of_getElem? (i := 913) (by decide +kernel), List.mem_of_getElem? (i := 1024) (by decide +kernel), List.mem_of_getElem? (i := 1025) (by decide +kernel)⟩
theorem lw_p85 : lw_okq (⟨"FigureLeaveModel", "wordIs", "()I"⟩, 17) := ⟨⟨by decide +kernel, by decide +kernel⟩, List.mem_of_getElem? (i := 913) (by decide +kernel), List.mem_of_getElem? (i := 1028) (by decide +kernel), List.mem_of_getElem? (i := 1029) (by decide +kernel)⟩
theorem lw_p86 : lw_okq (⟨"FigureLeaveModel", "takes", "(Z)I"⟩, 17) := ⟨⟨by decide +kernel, by decide +kernel⟩, List.mem_of_getElem? (i := 913) (by decide +kernel), List.mem_of_getElem? (i := 1035) (by decide +kernel), List.mem_of_getElem? (i := 1036) (by decide +kernel)⟩
theorem lw_p87 : lw_okq (⟨"FigureLeaveModel", "reads", "(I)V"⟩, 17) := ⟨⟨by decide +kernel, by decide +kernel⟩, List.mem_of_getElem? (i := 913) (by decide +kernel), List.mem_of_getElem? (i := 1039) (by decide +kernel), List.mem_of_getElem? (i := 1040) (by decide +kernel)⟩
theorem lw_p88 : lw_okq (⟨"FigureLeaveModel", "number", "(II)I"⟩, 17) := ⟨⟨by decide +kernel, by decide +kernel⟩, List.mem_of_getElem? (i := 913) (by decide +kernel), List.mem_of_getElem? (i := 1043) (by decide +kernel), List.mem_of_getElem? (i := 1044) (by decide +kernel)⟩
theorem lw_p89 : lw_okq (⟨"FigureLeaveModel", "canOf", "([III)Z"⟩, 17) := ⟨⟨by decide +kernel, by decide +kernel⟩, List.mem_of_getElem? (i := 913) (by decide +kernel), List.mem_of_getElem? (i := 1047) (by decide +kernel), List.mem_of_getElem? (i := 1048) (by decide +kernel)⟩
theorem lw_p90 : lw_okq (⟨"FigureLeaveModel", "line", "(II)V"⟩, 17) := ⟨⟨by decide +kernel, by decide +kernel⟩, List.mem_of_getElem? (i := 913) (by decide +kernel), List.mem_of_getElem? (i := 1051) (by decide +kernel), List.mem_of_getElem? (i := 1052) (by decide +kernel)⟩
theorem lw_p91 : lw_okq (⟨"FigureLeaveModel", "adds", "(I)V"⟩, 17) := ⟨⟨by decide +kernel, by decide +kernel⟩, List.mem_of_getElem? (i := 913) (by decide +kernel), List.mem_of_getElem? (i := 1055) (by decide +kernel), List.mem_of_getElem? (i := 1056) (by decide +kernel)⟩
theorem lw_p92 : lw_okq (⟨"FigureLeaveModel", "wearsBy", "([III)I"⟩, 17) := ⟨⟨by decide +kernel, by decide +kernel⟩, List.mem_of_getElem? (i := 913) (by decide +kernel), List.mem_of_getElem? (i := 1059) (by decide +kernel), List.mem_of_getElem? (i := 1060) (by decide +kernel)⟩
theorem lw_p93 : lw_okq (⟨"FigureLeaveModel", "writes", "([III)V"⟩, 17) := ⟨⟨by decide +kernel, by decide +kernel⟩, List.mem_of_getElem? (i := 913) (by decide +kernel), List.mem_of_getElem? (i := 1066) (by decide +kernel), List.mem_of_getElem? (i := 1067) (by decide +kernel)⟩
theorem lw_p94 : lw_okq (⟨"FigureLeaveModel", "notes", "()V"⟩, 17) := ⟨⟨by decide +kernel, by decide +kernel⟩, List.mem_of_getElem? (i := 913) (by decide +kernel), List.mem_of_getElem? (i := 1083) (by decide +kernel), List.mem_of_getElem? (i := 1084) (by decide +kernel)⟩
theorem lw_p95 : lw_okq (⟨"FigureLeaveModel", "costOf", "(II)I"⟩, 17) := ⟨⟨by decide +kernel, by decide +kernel⟩, List.mem_of_getElem? (i := 913) (by decide +kernel), List.mem_of_getElem? (i := 1087) (by decide +kernel), List.mem_of_getElem? (i := 1088) (by decide +kernel)⟩
def lw_privs_6 : List (MethodName × Nat) := [(⟨"FigureLeaveModel", "refuses", "(I)I"⟩, 17), (⟨"FigureLeaveModel", "advances", "()V"⟩, 17), (⟨"FigureLeaveModel", "at", "(I)I"⟩, 17), (⟨"FigureLeaveModel", "word", "()I"⟩, 17), (⟨"FigureLeaveModel", "isWell", "()Z"⟩, 17), (⟨"FigureLeaveModel", "wordIs", "()I"⟩, 17), (⟨"FigureLeaveModel", "takes", "(Z)I"⟩, 17), (⟨"FigureLeaveModel", "reads", "(I)V"⟩, 17), (⟨"FigureLeaveModel", "number", "(II)I"⟩, 17), (⟨"FigureLeaveModel", "canOf", "([III)Z"⟩, 17), (⟨"FigureLeaveModel", "line", "(II)V"⟩, 17), (⟨"FigureLeaveModel", "adds", "(I)V"⟩, 17), (⟨"FigureLeaveModel", "wearsBy", "([III)I"⟩, 17), (⟨"FigureLeaveModel", "writes", "([III)V"⟩, 17), (⟨"FigureLeaveModel", "notes", "()V"⟩, 17), (⟨"FigureLeaveModel", "costOf", "(II)I"⟩, 17)]
theorem lw_r6 : ∀ q ∈ lw_privs_6, lw_okq q := List.forall_mem_cons.mpr ⟨lw_p80, List.forall_mem_cons.mpr ⟨lw_p81, List.forall_mem_cons.mpr ⟨lw_p82, List.forall_mem_cons.mpr ⟨lw_p83, List.forall_mem_cons.mpr ⟨lw_p84, List.forall_mem_cons.mpr ⟨lw_p85, List.forall_mem_cons.mpr ⟨lw_p86, List.forall_mem_cons.mpr ⟨lw_p87, List.forall_mem_cons.mpr ⟨lw_p88, List.forall_mem_cons.mpr ⟨lw_p89, List.forall_mem_cons.mpr ⟨lw_p90, List.forall_mem_cons.mpr ⟨lw_p91, List.forall_mem_cons.mpr ⟨lw_p92, List.forall_mem_cons.mpr ⟨lw_p93, List.forall_mem_cons.mpr ⟨lw_p94, List.forall_mem_cons.mpr ⟨lw_p95, fun _ h => absurd h List.not_mem_nil⟩⟩⟩⟩⟩⟩⟩⟩⟩⟩⟩⟩⟩⟩⟩⟩
theorem lw_p96 : lw_okq (⟨"FigureLeaveModel", "isBill", "(I)Z"⟩, 17) := ⟨⟨by decide +kernel, by decide +kernel⟩, List.mem_of_getElem? (i := 913) (by decide +kernel), List.mem_of_getElem? (i := 1095) (by decide +kernel), List.mem_of_getElem? (i := 1096) (by decide +kernel)⟩
theorem lw_p97 : lw_okq (⟨"FigureLeaveModel", "isPaid", "(I)Z"⟩, 17) := ⟨⟨by decide +kernel, by decide +kernel⟩, List.mem_of_getElem? (i := 913) (by decide +kernel), List.mem_of_getElem? (i := 1099) (by decide +kernel), List.mem_of_getElem? (i := 1100) (by decide +kernel)⟩
theorem lw_p98 : lw_okq (⟨"FigureLeaveModel", "leftOf", "(I)I"⟩, 17) := ⟨⟨by decide +kernel, by decide +kernel⟩, List.mem_of_getElem? (i := 913) (by decide +kernel), List.mem_of_getElem? (i := 1115) (by decide +kernel), List.mem_of_getElem? (i := 1116) (by decide +kernel)⟩
theorem lw_p99 : lw_okq (⟨"FigureLeaveModel", "bestOf", "(I)I"⟩, 17) := ⟨⟨by decide +kernel, by decide +kernel⟩, List.mem_of_getElem? (i := 913) (by decide +kernel), List.mem_of_getElem? (i := 1139) (by decide +kernel), List.mem_of_getElem? (i := 1140) (by decide +kernel)⟩
theorem lw_p100 : lw_okq (⟨"FigureLeaveModel", "wornNow", "()V"⟩, 17) := ⟨⟨by decide +kernel, by decide +kernel⟩, List.mem_of_getElem? (i := 913) (by decide +kernel), List.mem_of_getElem? (i := 1151) (by decide +kernel), List.mem_of_getElem? (i := 1152) (by decide +kernel)⟩
theorem lw_p101 : lw_okq (⟨"FigureLeaveModel", "asideBy", "(II)V"⟩, 17) := ⟨⟨by decide +kernel, by decide +kernel⟩, List.mem_of_getElem? (i := 913) (by decide +kernel), List.mem_of_getElem? (i := 1155) (by decide +kernel), List.mem_of_getElem? (i := 1156) (by decide +kernel)⟩
theorem lw_p102 : lw_okq (⟨"FigureLeaveModel", "isWithin", "(I)Z"⟩, 17) := ⟨⟨by decide +kernel, by decide +kernel⟩, List.mem_of_getElem? (i := 913) (by decide +kernel), List.mem_of_getElem? (i := 1159) (by decide +kernel), List.mem_of_getElem? (i := 1160) (by decide +kernel)⟩
theorem lw_p103 : lw_okq (⟨"FigureLeaveModel", "rests", "()V"⟩, 17) := ⟨⟨by decide +kernel, by decide +kernel⟩, List.mem_of_getElem? (i := 913) (by decide +kernel), List.mem_of_getElem? (i := 1167) (by decide +kernel), List.mem_of_getElem? (i := 1168) (by decide +kernel)⟩
theorem lw_p104 : lw_okq (⟨"FigureLeaveModel", "unpaid", "()I"⟩, 17) := ⟨⟨by decide +kernel, by decide +kernel⟩, List.mem_of_getElem? (i := 913) (by decide +kernel), List.mem_of_getElem? (i := 1175) (by decide +kernel), List.mem_of_getElem? (i := 1176) (by decide +kernel)⟩
theorem lw_p105 : lw_okq (⟨"FigureLeaveModel", "worthOf", "(I)I"⟩, 17) := ⟨⟨by decide +kernel, by decide +kernel⟩, List.mem_of_getElem? (i := 913) (by decide +kernel), List.mem_of_getElem? (i := 1179) (by decide +kernel), List.mem_of_getElem? (i := 1180) (by decide +kernel)⟩
theorem lw_p106 : lw_okq (⟨"FigureLeaveModel", "canAll", "(I)Z"⟩, 17) := ⟨⟨by decide +kernel, by decide +kernel⟩, List.mem_of_getElem? (i := 913) (by decide +kernel), List.mem_of_getElem? (i := 1183) (by decide +kernel), List.mem_of_getElem? (i := 1184) (by decide +kernel)⟩
theorem lw_p107 : lw_okq (⟨"FigureLeaveModel", "areWithin", "(I)Z"⟩, 17) := ⟨⟨by decide +kernel, by decide +kernel⟩, List.mem_of_getElem? (i := 913) (by decide +kernel), List.mem_of_getElem? (i := 1187) (by decide +kernel), List.mem_of_getElem? (i := 1188) (by decide +kernel)⟩
theorem lw_p108 : lw_okq (⟨"FigureLeaveModel", "refusesAs", "(I)I"⟩, 17) := ⟨⟨by decide +kernel, by decide +kernel⟩, List.mem_of_getElem? (i := 913) (by decide +kernel), List.mem_of_getElem? (i := 1195) (by decide +kernel), List.mem_of_getElem? (i := 1196) (by decide +kernel)⟩
theorem lw_p109 : lw_okq (⟨"FigureLeaveModel", "daysOf", "(I)I"⟩, 17) := ⟨⟨by decide +kernel, by decide +kernel⟩, List.mem_of_getElem? (i := 913) (by decide +kernel), List.mem_of_getElem? (i := 1202) (by decide +kernel), List.mem_of_getElem? (i := 1203) (by decide +kernel)⟩
theorem lw_p110 : lw_okq (⟨"FigureLeaveModel", "manyCan", "()I"⟩, 17) := ⟨⟨by decide +kernel, by decide +kernel⟩, List.mem_of_getElem? (i := 913) (by decide +kernel), List.mem_of_getElem? (i := 1210) (by decide +kernel), List.mem_of_getElem? (i := 1211) (by decide +kernel)⟩
theorem lw_p111 : lw_okq (⟨"FigureLeaveModel", "isTraced", "(II)Z"⟩, 17) := ⟨⟨by decide +kernel, by decide +kernel⟩, List.mem_of_getElem? (i := 913) (by decide +kernel), List.mem_of_getElem? (i := 1222) (by decide +kernel), List.mem_of_getElem? (i := 1223) (by decide +kernel)⟩
def lw_privs_7 : List (MethodName × Nat) := [(⟨"FigureLeaveModel", "isBill", "(I)Z"⟩, 17), (⟨"FigureLeaveModel", "isPaid", "(I)Z"⟩, 17), (⟨"FigureLeaveModel", "leftOf", "(I)I"⟩, 17), (⟨"FigureLeaveModel", "bestOf", "(I)I"⟩, 17), (⟨"FigureLeaveModel", "wornNow", "()V"⟩, 17), (⟨"FigureLeaveModel", "asideBy", "(II)V"⟩, 17), (⟨"FigureLeaveModel", "isWithin", "(I)Z"⟩, 17), (⟨"FigureLeaveModel", "rests", "()V"⟩, 17), (⟨"FigureLeaveModel", "unpaid", "()I"⟩, 17), (⟨"FigureLeaveModel", "worthOf", "(I)I"⟩, 17), (⟨"FigureLeaveModel", "canAll", "(I)Z"⟩, 17), (⟨"FigureLeaveModel", "areWithin", "(I)Z"⟩, 17), (⟨"FigureLeaveModel", "refusesAs", "(I)I"⟩, 17), (⟨"FigureLeaveModel", "daysOf", "(I)I"⟩, 17), (⟨"FigureLeaveModel", "manyCan", "()I"⟩, 17), (⟨"FigureLeaveModel", "isTraced", "(II)Z"⟩, 17)]
theorem lw_r7 : ∀ q ∈ lw_privs_7, lw_okq q := List.forall_mem_cons.mpr ⟨lw_p96, List.forall_mem_cons.mpr ⟨lw_p97, List.forall_mem_cons.mpr ⟨lw_p98, List.forall_mem_cons.mpr ⟨lw_p99, List.forall_mem_cons.mpr ⟨lw_p100, List.forall_mem_cons.mpr ⟨lw_p101, List.forall_mem_cons.mpr ⟨lw_p102, List.forall_mem_cons.mpr ⟨lw_p103, List.forall_mem_cons.mpr ⟨lw_p104, List.forall_mem_cons.mpr ⟨lw_p105, List.forall_mem_cons.mpr ⟨lw_p106, List.forall_mem_cons.mpr ⟨lw_p107, List.forall_mem_cons.mpr ⟨lw_p108, List.forall_mem_cons.mpr ⟨lw_p109, List.forall_mem_cons.mpr ⟨lw_p110, List.forall_mem_cons.mpr ⟨lw_p111, fun _ h => absurd h List.not_mem_nil⟩⟩⟩⟩⟩⟩⟩⟩⟩⟩⟩⟩⟩⟩⟩⟩
theorem lw_p112 : lw_okq (⟨"FigureLeaveModel", "wornBy", "(I)I"⟩, 17) := ⟨⟨by decide +kernel, by decide +kernel⟩, List.mem_of_getElem? (i := 913) (by decide +kernel), List.mem_of_getElem? (i := 1226) (by decide +kernel), List.mem_of_getElem? (i := 1227) (by decide +kernel)⟩
theorem lw_p113 : lw_okq (⟨"FigureLeaveModel", "kindsOf", "(I)I"⟩, 17) := ⟨⟨by decide +kernel, by decide +kernel⟩, List.mem_of_getElem? (i := 913) (by decide +kernel), List.mem_of_getElem? (i := 1242) (by decide +kernel), List.mem_of_getElem? (i := 1243) (by decide +kernel)⟩
theorem lw_p114 : lw_okq (⟨"FigureLeaveModel", "has", "(II)I"⟩, 17) := ⟨⟨by decide +kernel, by decide +kernel⟩, List.mem_of_getElem? (i := 913) (by decide +kernel), List.mem_of_getElem? (i := 1254) (by decide +kernel), List.mem_of_getElem? (i := 1255) (by decide +kernel)⟩
theorem lw_p115 : lw_okq (⟨"FigureLeaveModel", "canFree", "(III)Z"⟩, 17) := ⟨⟨by decide +kernel, by decide +kernel⟩, List.mem_of_getElem? (i := 913) (by decide +kernel), List.mem_of_getElem? (i := 1263) (by decide +kernel), List.mem_of_getElem? (i := 1264) (by decide +kernel)⟩
theorem lw_p116 : lw_okq (⟨"FigureLeaveModel", "takesBack", "(II)V"⟩, 17) := ⟨⟨by decide +kernel, by decide +kernel⟩, List.mem_of_getElem? (i := 913) (by decide +kernel), List.mem_of_getElem? (i := 1280) (by decide +kernel), List.mem_of_getElem? (i := 1281) (by decide +kernel)⟩
theorem lw_p117 : lw_okq (⟨"FigureLeaveModel", "counted", "(I)I"⟩, 17) := ⟨⟨by decide +kernel, by decide +kernel⟩, List.mem_of_getElem? (i := 913) (by decide +kernel), List.mem_of_getElem? (i := 1304) (by decide +kernel), List.mem_of_getElem? (i := 1305) (by decide +kernel)⟩
def lw_privs_8 : List (MethodName × Nat) := [(⟨"FigureLeaveModel", "wornBy", "(I)I"⟩, 17), (⟨"FigureLeaveModel", "kindsOf", "(I)I"⟩, 17), (⟨"FigureLeaveModel", "has", "(II)I"⟩, 17), (⟨"FigureLeaveModel", "canFree", "(III)Z"⟩, 17), (⟨"FigureLeaveModel", "takesBack", "(II)V"⟩, 17), (⟨"FigureLeaveModel", "counted", "(I)I"⟩, 17)]
theorem lw_r8 : ∀ q ∈ lw_privs_8, lw_okq q := List.forall_mem_cons.mpr ⟨lw_p112, List.forall_mem_cons.mpr ⟨lw_p113, List.forall_mem_cons.mpr ⟨lw_p114, List.forall_mem_cons.mpr ⟨lw_p115, List.forall_mem_cons.mpr ⟨lw_p116, List.forall_mem_cons.mpr ⟨lw_p117, fun _ h => absurd h List.not_mem_nil⟩⟩⟩⟩⟩⟩
def lw_privs : List (MethodName × Nat) := lw_privs_1 ++ (lw_privs_2 ++ (lw_privs_3 ++ (lw_privs_4 ++ (lw_privs_5 ++ (lw_privs_6 ++ (lw_privs_7 ++ (lw_privs_8)))))))
def lw_tbl : List Cond := k2_sels lw_privs ++ tables_1
theorem lw_privs_ok : ∀ q ∈ lw_privs, lw_okq q := by
  show ∀ q ∈ lw_privs_1 ++ (lw_privs_2 ++ (lw_privs_3 ++ (lw_privs_4 ++ (lw_privs_5 ++ (lw_privs_6 ++ (lw_privs_7 ++ (lw_privs_8))))))), lw_okq q
  exact List.forall_mem_append.mpr ⟨lw_r1, List.forall_mem_append.mpr ⟨lw_r2, List.forall_mem_append.mpr ⟨lw_r3, List.forall_mem_append.mpr ⟨lw_r4, List.forall_mem_append.mpr ⟨lw_r5, List.forall_mem_append.mpr ⟨lw_r6, List.forall_mem_append.mpr ⟨lw_r7, lw_r8⟩⟩⟩⟩⟩⟩⟩
-- ===== end of PART A; then your names; then what follows =====
def gw : List Cond := lw_tbl.filter goodWord
theorem gw_in {w : Cond} (h : w ∈ lw_tbl) (g : goodWord w = true) : w ∈ gw := List.mem_filter.mpr ⟨h, g⟩
theorem gw_at {w : Cond} (i : Nat) (h : lw_tbl[i]? = some w) (g : goodWord w = true) : w ∈ gw := gw_in (List.mem_of_getElem? h) g
theorem gw_good {w : Cond} (h : w ∈ gw) : (w.onTables && w.keeps) = true ∨ ∃ ty, w = .arrayClass ty := good_of_word (List.mem_filter.mp h).2
theorem gw_tbl {w : Cond} (h : w ∈ gw) : w ∈ lw_tbl := (List.mem_filter.mp h).1
end
section
def cT_F : u_T := fun k => match k with
  | 0 => ("FigureLeave", "now", "LFigureLeave$House;", true)
  | 1 => ("FigureLeave", "draft", "LFigureLeave$House;", true)
  | 2 => ("FigureLeave", "images", "[LFigureLeave$House;", true)
  | 3 => ("FigureLeave", "clerk", "LFigureLeave$Clerk;", true)
  | 4 => ("FigureLeave", "sleuth", "LFigureLeave$Sleuth;", true)
  | 5 => ("FigureLeave", "text", "LFigureLeave$Text;", true)
  | 6 => ("FigureLeave", "line", "LFigureLeave$Line;", true)
  | 7 => ("FigureLeave", "above", "I", false)
  | 8 => ("FigureLeave", "below", "I", false)
  | 9 => ("FigureLeave", "refusedBad", "I", false)
  | 10 => ("FigureLeave", "refusedNo", "I", false)
  | _ => ("FigureLeave", "refusedFull", "I", false)
def cy_F : Nat → FieldType := fun k => match k with
  | 0 => .object "FigureLeave$House"
  | 1 => .object "FigureLeave$House"
  | 2 => .array (.object "FigureLeave$House")
  | 3 => .object "FigureLeave$Clerk"
  | 4 => .object "FigureLeave$Sleuth"
  | 5 => .object "FigureLeave$Text"
  | 6 => .object "FigureLeave$Line"
  | 7 => .int
  | 8 => .int
  | 9 => .int
  | 10 => .int
  | _ => .int
theorem cn_F : ∀ a, a < 12 → ∀ b, b < 12 → a ≠ b → (cT_F a).2.1 ≠ (cT_F b).2.1 := by decide +kernel
theorem cp_F : ∀ k, k < 12 → parseFieldDescriptor (cT_F k).2.2.1 = some (cy_F k) := by decide +kernel
theorem cw_F : ∀ w ∈ u_ws "FigureLeave" cT_F 12, w ∈ gw := fun w hw => by
  have h : (u_ws "FigureLeave" cT_F 12).all (fun w => decide (w ∈ lw_tbl) && goodWord w) = true := by decide +kernel
  have h1 := List.all_eq_true.mp h w hw
  simp only [Bool.and_eq_true, decide_eq_true_eq] at h1
  exact gw_in h1.1 h1.2
def cT_H : u_T := fun k => match k with
  | 0 => ("FigureLeave$House", "kind", "[I", true)
  | 1 => ("FigureLeave$House", "strength", "[I", true)
  | 2 => ("FigureLeave$House", "shift", "LFigureLeave$Shift;", true)
  | 3 => ("FigureLeave$House", "bills", "LFigureLeave$Bills;", true)
  | 4 => ("FigureLeave$House", "clues", "LFigureLeave$Clues;", true)
  | _ => ("FigureLeave$House", "past", "LFigureLeave$Past;", true)
def cy_H : Nat → FieldType := fun k => match k with
  | 0 => .array .int
  | 1 => .array .int
  | 2 => .object "FigureLeave$Shift"
  | 3 => .object "FigureLeave$Bills"
  | 4 => .object "FigureLeave$Clues"
  | _ => .object "FigureLeave$Past"
theorem cn_H : ∀ a, a < 6 → ∀ b, b < 6 → a ≠ b → (cT_H a).2.1 ≠ (cT_H b).2.1 := by decide +kernel
theorem cp_H : ∀ k, k < 6 → parseFieldDescriptor (cT_H k).2.2.1 = some (cy_H k) := by decide +kernel
theorem cw_H : ∀ w ∈ u_ws "FigureLeave$House" cT_H 6, w ∈ gw := fun w hw => by
  have h : (u_ws "FigureLeave$House" cT_H 6).all (fun w => decide (w ∈ lw_tbl) && goodWord w) = true := by decide +kernel
  have h1 := List.all_eq_true.mp h w hw
  simp only [Bool.and_eq_true, decide_eq_true_eq] at h1
  exact gw_in h1.1 h1.2
def cT_S : u_T := fun k => match k with
  | 0 => ("FigureLeave$Shift", "worn", "[I", true)
  | _ => ("FigureLeave$Shift", "day", "I", false)
def cy_S : Nat → FieldType := fun k => match k with
  | 0 => .array .int
  | _ => .int
theorem cn_S : ∀ a, a < 2 → ∀ b, b < 2 → a ≠ b → (cT_S a).2.1 ≠ (cT_S b).2.1 := by decide +kernel
theorem cp_S : ∀ k, k < 2 → parseFieldDescriptor (cT_S k).2.2.1 = some (cy_S k) := by decide +kernel
theorem cw_S : ∀ w ∈ u_ws "FigureLeave$Shift" cT_S 2, w ∈ gw := fun w hw => by
  have h : (u_ws "FigureLeave$Shift" cT_S 2).all (fun w => decide (w ∈ lw_tbl) && goodWord w) = true := by decide +kernel
  have h1 := List.all_eq_true.mp h w hw
  simp only [Bool.and_eq_true, decide_eq_true_eq] at h1
  exact gw_in h1.1 h1.2
def cT_B : u_T := fun k => match k with
  | 0 => ("FigureLeave$Bills", "number", "[I", true)
  | 1 => ("FigureLeave$Bills", "worth", "[I", true)
  | 2 => ("FigureLeave$Bills", "size", "I", false)
  | 3 => ("FigureLeave$Bills", "paid", "I", false)
  | _ => ("FigureLeave$Bills", "earned", "I", false)
def cy_B : Nat → FieldType := fun k => match k with
  | 0 => .array .int
  | 1 => .array .int
  | 2 => .int
  | 3 => .int
  | _ => .int
theorem cn_B : ∀ a, a < 5 → ∀ b, b < 5 → a ≠ b → (cT_B a).2.1 ≠ (cT_B b).2.1 := by decide +kernel
theorem cp_B : ∀ k, k < 5 → parseFieldDescriptor (cT_B k).2.2.1 = some (cy_B k) := by decide +kernel
theorem cw_B : ∀ w ∈ u_ws "FigureLeave$Bills" cT_B 5, w ∈ gw := fun w hw => by
  have h : (u_ws "FigureLeave$Bills" cT_B 5).all (fun w => decide (w ∈ lw_tbl) && goodWord w) = true := by decide +kernel
  have h1 := List.all_eq_true.mp h w hw
  simp only [Bool.and_eq_true, decide_eq_true_eq] at h1
  exact gw_in h1.1 h1.2
def cT_C : u_T := fun k => match k with
  | 0 => ("FigureLeave$Clues", "traceFigure", "[I", true)
  | 1 => ("FigureLeave$Clues", "traceMore", "[I", true)
  | 2 => ("FigureLeave$Clues", "traces", "I", false)
  | 3 => ("FigureLeave$Clues", "noteFigure", "[I", true)
  | 4 => ("FigureLeave$Clues", "noteSign", "[I", true)
  | 5 => ("FigureLeave$Clues", "noteDay", "[I", true)
  | 6 => ("FigureLeave$Clues", "noteMore", "[I", true)
  | _ => ("FigureLeave$Clues", "notes", "I", false)
def cy_C : Nat → FieldType := fun k => match k with
  | 0 => .array .int
  | 1 => .array .int
  | 2 => .int
  | 3 => .array .int
  | 4 => .array .int
  | 5 => .array .int
  | 6 => .array .int
  | _ => .int
theorem cn_C : ∀ a, a < 8 → ∀ b, b < 8 → a ≠ b → (cT_C a).2.1 ≠ (cT_C b).2.1 := by decide +kernel
theorem cp_C : ∀ k, k < 8 → parseFieldDescriptor (cT_C k).2.2.1 = some (cy_C k) := by decide +kernel
theorem cw_C : ∀ w ∈ u_ws "FigureLeave$Clues" cT_C 8, w ∈ gw := fun w hw => by
  have h : (u_ws "FigureLeave$Clues" cT_C 8).all (fun w => decide (w ∈ lw_tbl) && goodWord w) = true := by decide +kernel
  have h1 := List.all_eq_true.mp h w hw
  simp only [Bool.and_eq_true, decide_eq_true_eq] at h1
  exact gw_in h1.1 h1.2
def cT_P : u_T := fun k => match k with
  | 0 => ("FigureLeave$Past", "rows", "[I", true)
  | _ => ("FigureLeave$Past", "size", "I", false)
def cy_P : Nat → FieldType := fun k => match k with
  | 0 => .array .int
  | _ => .int
theorem cn_P : ∀ a, a < 2 → ∀ b, b < 2 → a ≠ b → (cT_P a).2.1 ≠ (cT_P b).2.1 := by decide +kernel
theorem cp_P : ∀ k, k < 2 → parseFieldDescriptor (cT_P k).2.2.1 = some (cy_P k) := by decide +kernel
theorem cw_P : ∀ w ∈ u_ws "FigureLeave$Past" cT_P 2, w ∈ gw := fun w hw => by
  have h : (u_ws "FigureLeave$Past" cT_P 2).all (fun w => decide (w ∈ lw_tbl) && goodWord w) = true := by decide +kernel
  have h1 := List.all_eq_true.mp h w hw
  simp only [Bool.and_eq_true, decide_eq_true_eq] at h1
  exact gw_in h1.1 h1.2
def cT_L : u_T := fun k => match k with
  | 0 => ("FigureLeave$Line", "signs", "[I", true)
  | _ => ("FigureLeave$Line", "size", "I", false)
def cy_L : Nat → FieldType := fun k => match k with
  | 0 => .array .int
  | _ => .int
theorem cn_L : ∀ a, a < 2 → ∀ b, b < 2 → a ≠ b → (cT_L a).2.1 ≠ (cT_L b).2.1 := by decide +kernel
theorem cp_L : ∀ k, k < 2 → parseFieldDescriptor (cT_L k).2.2.1 = some (cy_L k) := by decide +kernel
theorem cw_L : ∀ w ∈ u_ws "FigureLeave$Line" cT_L 2, w ∈ gw := fun w hw => by
  have h : (u_ws "FigureLeave$Line" cT_L 2).all (fun w => decide (w ∈ lw_tbl) && goodWord w) = true := by decide +kernel
  have h1 := List.all_eq_true.mp h w hw
  simp only [Bool.and_eq_true, decide_eq_true_eq] at h1
  exact gw_in h1.1 h1.2
def cT_K : u_T := fun k => match k with
  | 0 => ("FigureLeave$Clerk", "line", "LFigureLeave$Line;", true)
  | 1 => ("FigureLeave$Clerk", "trial", "LFigureLeave$Shift;", true)
  | 2 => ("FigureLeave$Clerk", "openBills", "[I", true)
  | 3 => ("FigureLeave$Clerk", "chosenDay", "[I", true)
  | 4 => ("FigureLeave$Clerk", "opens", "I", false)
  | _ => ("FigureLeave$Clerk", "daysPlanned", "I", false)
def cy_K : Nat → FieldType := fun k => match k with
  | 0 => .object "FigureLeave$Line"
  | 1 => .object "FigureLeave$Shift"
  | 2 => .array .int
  | 3 => .array .int
  | 4 => .int
  | _ => .int
theorem cn_K : ∀ a, a < 6 → ∀ b, b < 6 → a ≠ b → (cT_K a).2.1 ≠ (cT_K b).2.1 := by decide +kernel
theorem cp_K : ∀ k, k < 6 → parseFieldDescriptor (cT_K k).2.2.1 = some (cy_K k) := by decide +kernel
theorem cw_K : ∀ w ∈ u_ws "FigureLeave$Clerk" cT_K 6, w ∈ gw := fun w hw => by
  have h : (u_ws "FigureLeave$Clerk" cT_K 6).all (fun w => decide (w ∈ lw_tbl) && goodWord w) = true := by decide +kernel
  have h1 := List.all_eq_true.mp h w hw
  simp only [Bool.and_eq_true, decide_eq_true_eq] at h1
  exact gw_in h1.1 h1.2
def cT_U : u_T := fun k => match k with
  | _ => ("FigureLeave$Sleuth", "line", "LFigureLeave$Line;", true)
def cy_U : Nat → FieldType := fun k => match k with
  | _ => .object "FigureLeave$Line"
theorem cn_U : ∀ a, a < 1 → ∀ b, b < 1 → a ≠ b → (cT_U a).2.1 ≠ (cT_U b).2.1 := by decide +kernel
theorem cp_U : ∀ k, k < 1 → parseFieldDescriptor (cT_U k).2.2.1 = some (cy_U k) := by decide +kernel
theorem cw_U : ∀ w ∈ u_ws "FigureLeave$Sleuth" cT_U 1, w ∈ gw := fun w hw => by
  have h : (u_ws "FigureLeave$Sleuth" cT_U 1).all (fun w => decide (w ∈ lw_tbl) && goodWord w) = true := by decide +kernel
  have h1 := List.all_eq_true.mp h w hw
  simp only [Bool.and_eq_true, decide_eq_true_eq] at h1
  exact gw_in h1.1 h1.2
def cT_T : u_T := fun k => match k with
  | 0 => ("FigureLeave$Text", "bytes", "[I", true)
  | 1 => ("FigureLeave$Text", "line", "LFigureLeave$Line;", true)
  | 2 => ("FigureLeave$Text", "size", "I", false)
  | 3 => ("FigureLeave$Text", "at", "I", false)
  | 4 => ("FigureLeave$Text", "place", "I", false)
  | 5 => ("FigureLeave$Text", "sort", "I", false)
  | _ => ("FigureLeave$Text", "value", "I", false)
def cy_T : Nat → FieldType := fun k => match k with
  | 0 => .array .int
  | 1 => .object "FigureLeave$Line"
  | 2 => .int
  | 3 => .int
  | 4 => .int
  | 5 => .int
  | _ => .int
theorem cn_T : ∀ a, a < 7 → ∀ b, b < 7 → a ≠ b → (cT_T a).2.1 ≠ (cT_T b).2.1 := by decide +kernel
theorem cp_T : ∀ k, k < 7 → parseFieldDescriptor (cT_T k).2.2.1 = some (cy_T k) := by decide +kernel
theorem cw_T : ∀ w ∈ u_ws "FigureLeave$Text" cT_T 7, w ∈ gw := fun w hw => by
  have h : (u_ws "FigureLeave$Text" cT_T 7).all (fun w => decide (w ∈ lw_tbl) && goodWord w) = true := by decide +kernel
  have h1 := List.all_eq_true.mp h w hw
  simp only [Bool.and_eq_true, decide_eq_true_eq] at h1
  exact gw_in h1.1 h1.2
def cT_M : u_T := fun k => match k with
  | 0 => ("FigureLeaveModel", "thrown", "I", false)
  | 1 => ("FigureLeaveModel", "now", "[I", true)
  | 2 => ("FigureLeaveModel", "draft", "[I", true)
  | 3 => ("FigureLeaveModel", "kept", "[I", true)
  | 4 => ("FigureLeaveModel", "isKept", "[Z", true)
  | 5 => ("FigureLeaveModel", "text", "[I", true)
  | 6 => ("FigureLeaveModel", "typed", "I", false)
  | 7 => ("FigureLeaveModel", "next", "I", false)
  | 8 => ("FigureLeaveModel", "place", "I", false)
  | 9 => ("FigureLeaveModel", "token", "I", false)
  | 10 => ("FigureLeaveModel", "fault", "I", false)
  | 11 => ("FigureLeaveModel", "refused", "[I", true)
  | 12 => ("FigureLeaveModel", "up", "J", false)
  | 13 => ("FigureLeaveModel", "low", "J", false)
  | 14 => ("FigureLeaveModel", "worn", "[I", true)
  | 15 => ("FigureLeaveModel", "signs", "[I", true)
  | _ => ("FigureLeaveModel", "many", "I", false)
def cy_M : Nat → FieldType := fun k => match k with
  | 0 => .int
  | 1 => .array .int
  | 2 => .array .int
  | 3 => .array .int
  | 4 => .array .boolean
  | 5 => .array .int
  | 6 => .int
  | 7 => .int
  | 8 => .int
  | 9 => .int
  | 10 => .int
  | 11 => .array .int
  | 12 => .long
  | 13 => .long
  | 14 => .array .int
  | 15 => .array .int
  | _ => .int
theorem cn_M : ∀ a, a < 17 → ∀ b, b < 17 → a ≠ b → (cT_M a).2.1 ≠ (cT_M b).2.1 := by decide +kernel
theorem cp_M : ∀ k, k < 17 → parseFieldDescriptor (cT_M k).2.2.1 = some (cy_M k) := by decide +kernel
theorem cw_M : ∀ w ∈ u_ws "FigureLeaveModel" cT_M 17, w ∈ gw := fun w hw => by
  have h : (u_ws "FigureLeaveModel" cT_M 17).all (fun w => decide (w ∈ lw_tbl) && goodWord w) = true := by decide +kernel
  have h1 := List.all_eq_true.mp h w hw
  simp only [Bool.and_eq_true, decide_eq_true_eq] at h1
  exact gw_in h1.1 h1.2
abbrev cls : List vw_C := [("FigureLeave", cT_F, 12), ("FigureLeave$House", cT_H, 6), ("FigureLeave$Shift", cT_S, 2), ("FigureLeave$Bills", cT_B, 5), ("FigureLeave$Clues", cT_C, 8), ("FigureLeave$Past", cT_P, 2), ("FigureLeave$Line", cT_L, 2), ("FigureLeave$Clerk", cT_K, 6), ("FigureLeave$Sleuth", cT_U, 1), ("FigureLeave$Text", cT_T, 7), ("FigureLeaveModel", cT_M, 17)]
theorem cl_facts : ∀ (ci : Nat) (C : String) (T : u_T) (N : Nat), cls[ci]? = some (C, T, N) → (∀ w ∈ u_ws C T N, w ∈ gw) ∧ (∃ ty0 : Nat → FieldType, ∀ k, k < N → parseFieldDescriptor (T k).2.2.1 = some (ty0 k)) ∧ (∀ a, a < N → ∀ b, b < N → a ≠ b → (T a).2.1 ≠ (T b).2.1) := by
  intro ci C T N h
  match ci, h with
  | 0, h => cases h; exact ⟨cw_F, ⟨cy_F, cp_F⟩, cn_F⟩
  | 1, h => cases h; exact ⟨cw_H, ⟨cy_H, cp_H⟩, cn_H⟩
  | 2, h => cases h; exact ⟨cw_S, ⟨cy_S, cp_S⟩, cn_S⟩
  | 3, h => cases h; exact ⟨cw_B, ⟨cy_B, cp_B⟩, cn_B⟩
  | 4, h => cases h; exact ⟨cw_C, ⟨cy_C, cp_C⟩, cn_C⟩
  | 5, h => cases h; exact ⟨cw_P, ⟨cy_P, cp_P⟩, cn_P⟩
  | 6, h => cases h; exact ⟨cw_L, ⟨cy_L, cp_L⟩, cn_L⟩
  | 7, h => cases h; exact ⟨cw_K, ⟨cy_K, cp_K⟩, cn_K⟩
  | 8, h => cases h; exact ⟨cw_U, ⟨cy_U, cp_U⟩, cn_U⟩
  | 9, h => cases h; exact ⟨cw_T, ⟨cy_T, cp_T⟩, cn_T⟩
  | 10, h => cases h; exact ⟨cw_M, ⟨cy_M, cp_M⟩, cn_M⟩
  | n + 11, h => simp [cls] at h
end
section
/-! words that only hold as the machine goes on: links to private members of a nest mate, the array of houses -/
def nwk : Cond → Bool
  | .fieldLinkNest _ _ _ _ _ _ => true
  | .methodLinkNest _ _ _ _ => true
  | _ => false
def nw : List Cond := lw_tbl.filter nwk
theorem nw_at {w : Cond} (i : Nat) (h : lw_tbl[i]? = some w) (g : nwk w = true) : w ∈ nw := List.mem_filter.mpr ⟨List.mem_of_getElem? h, g⟩
theorem nw_tbl {w : Cond} (h : w ∈ nw) : w ∈ lw_tbl := (List.mem_filter.mp h).1
theorem nw_tab {w : Cond} (hw : w ∈ nw) : w.onTables = true := by
  have h := (List.mem_filter.mp hw).2
  unfold nwk at h
  split at h <;> first | rfl | cases h
theorem nw_warm {w : Cond} (hw : w ∈ nw) {s U : State} (hW : s.WarmedH U.vm) (h : va_Nw w s) : va_Nw w U := by
  have g := (List.mem_filter.mp hw).2
  unfold nwk at g
  split at g
  · exact va_Nw.warmF hW h
  · exact va_Nw.warmM hW h
  · cases g
theorem nw_same {w : Cond} (hw : w ∈ nw) {u U : State} (hv : u.vm = U.vm) (h : va_Nw w u) : va_Nw w U := va_Nw.same (nw_tab hw) hv h
/-! THE LAYER: methods by a plain heap of places. A place is a number; 0 is the script, 1 .. 5 the five texts, 6 .. 10 their bytes, 11 on the cells that the run makes, in their order. -/
abbrev mI : Type := MethodName × ByteArray × Nat × Option FieldType × Room
def mI_ws (y : mI) : List Cond := Cond.code y.1 y.2.1 y.2.2.1 y.2.2.2.1 :: gw
/-- addresses of places, the first own address, class and slot numbers, array classes, the script's length and ints -/
abbrev eT : Type := (Nat → Nat) × Nat × va_G × (Nat → ClassId) × Nat × (Nat → Int32)
abbrev cT : Type := (Nat × vp_A) ⊕ (Nat × List Value)
abbrev hT : Type := Nat → cT
abbrev lT : Type := List (Option Value)
def e_sh (E : eT) (v : Value) : Value := match v with
  | .ref a => .ref (E.1 a)
  | v => v
def e_ar (E : eT) (a : vp_A) : vp_A := (a.1, match a.2 with
  | .inr (.inr (.inr (.inr f))) => .inr (.inr (.inr (.inr (fun j => (f j).map E.1))))
  | x => x)
def e_ce (E : eT) (c : cT) : va_E := match c with
  | .inl a => .inl (E.2.2.2.1 a.1, e_ar E a.2)
  | .inr o => .inr (o.1, o.2.map (e_sh E))
def e_W (E : eT) (k : Nat) (h : hT) : va_W := (List.range k).map (fun i => (E.1 (i + 11), e_ce E (h (i + 11))))
abbrev dead : cT := .inr (99, [])
def e_ty (E : eT) : List (ClassId × FieldType) := [(E.2.2.2.1 0, .int), (E.2.2.2.1 1, .boolean), (E.2.2.2.1 2, .object "FigureLeave$House")]
def e_lv (E : eT) : Nat → lT → List (Nat × Value)
  | _, [] => []
  | i, none :: t => e_lv E (i + 1) t
  | i, some v :: t => (i, e_sh E v) :: e_lv E (i + 1) t
abbrev e_A (E : eT) : Nat → Prop := fun q => E.2.1 ≤ q
def sJ_len : List Nat := [5, 6, 4, 5, 5]
def sJ_byt : List (List Int32) := [[104, 111, 117, 115, 101], [102, 105, 103, 117, 114, 101], [98, 105, 108, 108], [119, 114, 105, 116, 101], [110, 105, 103, 104, 116]]
/-- what isn't ours: the script, the texts -/
def fX (E : eT) (U : State) (H : Heap) : Prop := (va_X (E.1 0) E.2.2.2.2.1 E.2.2.2.2.2 U H ∧ E.1 0 < E.2.1) ∧ vk_S 5 sJ_len sJ_byt (fun i => E.1 (i + 1)) (fun i => E.1 (i + 6)) (e_A E) U H ∧
  vk_R "FigureLeave$Text" 50 "house" (E.1 1) U ∧ vk_R "FigureLeave$Text" 56 "figure" (E.1 2) U ∧ vk_R "FigureLeave$Text" 62 "bill" (E.1 3) U ∧ vk_R "FigureLeave$Text" 67 "write" (E.1 4) U ∧ vk_R "FigureLeave$Text" 72 "night" (E.1 5) U ∧ va_AO "FigureLeave$House" U ∧ ∀ w ∈ nw, va_Nw w U
theorem fX.kept {E : eT} {U : State} {H H1 : Heap} (h : fX E U H) (hz : E.2.1 ≤ H.size) (hq : ∀ q : Nat, q < E.2.1 → H1[q]? = H[q]?) : fX E U H1 :=
  ⟨⟨h.1.1.kept (hq _ h.1.2), h.1.2⟩, h.2.1.kept (fun a _ hA => hq a (Nat.not_le.mp hA)), h.2.2⟩
theorem fX.moved {E : eT} {u U : State} {H : Heap} (hW : u.WarmedH U.vm) (h : fX E u H) : fX E U H :=
  ⟨⟨h.1.1.moved hW.alike, h.1.2⟩, h.2.1.moved hW.alike, h.2.2.1.warm hW, h.2.2.2.1.warm hW, h.2.2.2.2.1.warm hW, h.2.2.2.2.2.1.warm hW, h.2.2.2.2.2.2.1.warm hW, h.2.2.2.2.2.2.2.1.moved hW.alike, fun w hw => nw_warm hw hW (h.2.2.2.2.2.2.2.2 w hw)⟩
theorem fX.same {E : eT} {u U : State} {H : Heap} (hv : U.vm = u.vm) (h : fX E u H) : fX E U H :=
  ⟨⟨h.1.1.moved (by rw [hv]; exact Vm.Alike.refl _), h.1.2⟩, h.2.1.moved (by rw [hv]; exact Vm.Alike.refl _), h.2.2.1.same hv, h.2.2.2.1.same hv, h.2.2.2.2.1.same hv, h.2.2.2.2.2.1.same hv, h.2.2.2.2.2.2.1.same hv, h.2.2.2.2.2.2.2.1.moved (by rw [hv]; exact Vm.Alike.refl _), fun w hw => nw_same hw hv.symm (h.2.2.2.2.2.2.2.2 w hw)⟩
/-- the machine's heap H holds the k cells of h -/
def fR (E : eT) (k : Nat) (h : hT) (U : State) (H : Heap) : Prop :=
  H.size = E.2.1 + k ∧ (∀ i, E.1 (i + 11) = E.2.1 + i) ∧ (∀ i, i < 11 ∨ k + 11 ≤ i → h i = dead) ∧ va_P E.2.2.1 cls (e_W E k h) H ∧ va_K E.2.2.1 cls (e_ty E) U ∧ fX E U H
theorem fR.n {E : eT} {k : Nat} {h : hT} {U : State} {H : Heap} (R : fR E k h U H) {w : Cond} (hw : w ∈ nw) {a : Array Value} : w.before a U = true := va_Nw.use (nw_tab hw) (R.2.2.2.2.2.2.2.2.2.2.2.2.2 w hw)
def fQ (E : eT) (Q : Option Value → Nat → hT → Prop) : Array Value → State → Outcome → State → Prop := fun _ st o t => (∃ (r : Option Value) (k : Nat) (h : hT), o = .returned (r.map (e_sh E)) ∧ Q r k h ∧ fR E k h t t.heap) ∧ va_F (e_A E) st t
def fF (y : mI) (E : eT) (p : Program) (s : State) (m : MethodId) (args : Array Value) (meth : Method) (c : Code) : Prop := p.tables.exec = Jvm.exec ∧ c.code = y.2.1 ∧ meth.sig.returnType = y.2.2.2.1 ∧ c.maxLocals = y.2.2.1 ∧ s.vm.findClass y.1.cls = some m.cls ∧ (∀ w ∈ gw, w.before args s = true) ∧ meth.locks = false ∧ meth.name = y.1.name
abbrev zT : Type := List Frame → Array Value → State → State → Prop
/-- from place pc on, with locals L and operands st, over the heap h of k cells (nc cells and ns slots made so far): the machine comes to an end that Z allows -/
def fA (y : mI) (E : eT) (Z : zT) (k : Nat) (h : hT) (nc ns pc : Nat) (L : lT) (st : List Value) : Prop :=
  ∀ (p : Program) (l : Launch) (e : Env) (s : State) (m : MethodId) (args : Array Value) (below : List Frame) (meth : Method) (c : Code) (H : Heap) (locs : List Loc) (ls : Array Slot),
    fF y E p s m args meth c → fR E k h s H → va_S (e_A E) s.heap H locs → lv_has ls y.2.2.1 (e_lv E 0 L) → nc ≤ y.2.2.2.2.cells → ns ≤ y.2.2.2.2.slots →
    W p l e y.2.2.2.2 s m args below meth c H locs nc ns (Z below args s) (F0 m pc ls (st.map (e_sh E)))
def fZ (y : mI) (E : eT) (Q : Option Value → Nat → hT → Prop) : zT := fun below args s => MQ below (fQ E Q) args s y.2.2.2.2.cells y.2.2.2.2.slots (e_A E)
/-- method y, called with As over the heap h of k cells, returns r and leaves the heap h' of k' cells, with Q r k' h' -/
def fE (y : mI) (E : eT) (As : List Value) (k : Nat) (h : hT) (Q : Option Value → Nat → hT → Prop) : Prop :=
  ∀ l : Launch, Met l y.1 (mI_ws y) y.2.2.2.2 (va_Pc (As.map (e_sh E)) (fun U => fR E k h U U.heap)) (fQ E Q) y.2.2.2.2.cells y.2.2.2.2.slots (e_A E)
abbrev eV (v : Value) (k : Nat) (h : hT) : Option Value → Nat → hT → Prop := fun r k' h' => r = some v ∧ k' = k ∧ h' = h
abbrev eN (k : Nat) (h : hT) : Option Value → Nat → hT → Prop := fun r k' h' => r = none ∧ k' = k ∧ h' = h
-- ===== the heap as a list of cells =====
theorem e_W_len (E : eT) (k : Nat) (h : hT) : (e_W E k h).length = k := by simp [e_W]
theorem e_W_get {E : eT} {k : Nat} {h : hT} {j : Nat} (hj : j < k) : (e_W E k h)[j]? = some (E.1 (j + 11), e_ce E (h (j + 11))) := by
  simp [e_W, hj]
theorem e_W_inv {E : eT} {k : Nat} {h : hT} {j : Nat} {q : Nat × va_E} (hq : (e_W E k h)[j]? = some q) : j < k ∧ q = (E.1 (j + 11), e_ce E (h (j + 11))) := by
  have hj : j < k := by
    have := (List.getElem?_eq_some_iff.mp hq).1
    rwa [e_W_len] at this
  rw [e_W_get hj] at hq
  exact ⟨hj, (Option.some.inj hq).symm⟩
theorem e_W_set {E : eT} {k : Nat} {h : hT} {j : Nat} (hj : j < k) (c : cT) : (e_W E k h).set j (E.1 (j + 11), e_ce E c) = e_W E k (va_up h (j + 11) c) := by
  apply List.ext_getElem?
  intro i
  by_cases hi : i = j
  · subst hi
    rw [List.getElem?_set_self (by rw [e_W_len]; exact hj), e_W_get hj]
    simp [va_up]
  · rw [List.getElem?_set_ne (Ne.symm hi)]
    by_cases hk : i < k
    · rw [e_W_get hk, e_W_get hk]
      simp [va_up, hi]
    · rw [List.getElem?_eq_none (by rw [e_W_len]; omega), List.getElem?_eq_none (by rw [e_W_len]; omega)]
theorem e_W_push {E : eT} {k : Nat} {h : hT} (c : cT) : e_W E (k + 1) (va_up h (k + 11) c) = e_W E k h ++ [(E.1 (k + 11), e_ce E c)] := by
  apply List.ext_getElem?
  intro i
  by_cases hi : i < k
  · rw [e_W_get (by omega), List.getElem?_append_left (by rw [e_W_len]; exact hi), e_W_get hi]
    have : i ≠ k := by omega
    simp [va_up, this]
  · by_cases hk : i = k
    · subst hk
      rw [e_W_get (by omega), List.getElem?_append_right (by rw [e_W_len]; omega), e_W_len]
      simp [va_up]
    · rw [List.getElem?_eq_none (by rw [e_W_len]; omega), List.getElem?_eq_none (by simp [e_W_len]; omega)]
theorem e_D {E : eT} {k : Nat} {h : hT} (ha : ∀ i, E.1 (i + 11) = E.2.1 + i) : va_D (e_A E) (e_W E k h) := by
  refine ⟨fun i j p q hi hj hpq => ?_, fun i q hi => ?_⟩
  · obtain ⟨-, rfl⟩ := e_W_inv hi
    obtain ⟨-, rfl⟩ := e_W_inv hj
    simp only [ha] at hpq
    omega
  · obtain ⟨-, rfl⟩ := e_W_inv hi
    show E.2.1 ≤ E.1 (i + 11)
    rw [ha]
    omega
/-- a cell that isn't dead is one of the list -/
theorem fR.get {E : eT} {k : Nat} {h : hT} {U : State} {H : Heap} (R : fR E k h U H) {q : Nat} {c : cT} (hq : h q = c) (hc : c ≠ dead) : ∃ j, q = j + 11 ∧ j < k ∧ (e_W E k h)[j]? = some (E.1 q, e_ce E c) := by
  have h1 : ¬ (q < 11 ∨ k + 11 ≤ q) := fun z => hc (hq.symm.trans (R.2.2.1 q z))
  refine ⟨q - 11, by omega, by omega, ?_⟩
  rw [e_W_get (by omega), show q - 11 + 11 = q by omega, hq]
theorem ne_dead_l {a : Nat × vp_A} : (Sum.inl a : cT) ≠ dead := fun h => by cases h
theorem ne_dead_r {ci : Nat} {fs : List Value} {q : vw_C} (h : cls[ci]? = some q) : (Sum.inr (ci, fs) : cT) ≠ dead := fun z => by
  cases z
  simp [cls] at h
/-- a cell is written -/
theorem fR.set {E : eT} {k : Nat} {h : hT} {U : State} {H H1 : Heap} (R : fR E k h U H) {j : Nat} (hj : j < k) {c : cT} (hz : H1.size = H.size) (hP : va_P E.2.2.1 cls ((e_W E k h).set j (E.1 (j + 11), e_ce E c)) H1) (ho : ∀ q, q < E.2.1 → H1[q]? = H[q]?) : fR E k (va_up h (j + 11) c) U H1 := by
  refine ⟨hz.trans R.1, R.2.1, fun i hi => ?_, ?_, R.2.2.2.2.1, R.2.2.2.2.2.kept (by rw [R.1]; omega) ho⟩
  · have : i ≠ j + 11 := by omega
    show va_up h (j + 11) c i = dead
    rw [va_up, if_neg this]
    exact R.2.2.1 i hi
  · rw [← e_W_set hj]
    exact hP
/-- a cell is made -/
theorem fR.push {E : eT} {k : Nat} {h : hT} {U : State} {H H1 : Heap} (R : fR E k h U H) {c : cT} (hz : H1.size = H.size + 1) (hP : va_P E.2.2.1 cls (e_W E k h ++ [(E.1 (k + 11), e_ce E c)]) H1) (ho : ∀ q, q < H.size → H1[q]? = H[q]?) : fR E (k + 1) (va_up h (k + 11) c) U H1 := by
  refine ⟨by rw [hz, R.1]; omega, R.2.1, fun i hi => ?_, ?_, R.2.2.2.2.1, R.2.2.2.2.2.kept (by rw [R.1]; omega) (fun q hq => ho q (by rw [R.1]; omega))⟩
  · have : i ≠ k + 11 := by omega
    show va_up h (k + 11) c i = dead
    rw [va_up, if_neg this]
    exact R.2.2.1 i (by omega)
  · rw [e_W_push]
    exact hP
theorem fR.same {E : eT} {k : Nat} {h : hT} {u U : State} {H : Heap} (R : fR E k h u H) (hv : U.vm = u.vm) : fR E k h U H := ⟨R.1, R.2.1, R.2.2.1, R.2.2.2.1, va_K.moved (by rw [hv]; exact Vm.Alike.refl _) R.2.2.2.2.1, R.2.2.2.2.2.same hv⟩
theorem fR.warm {E : eT} {k : Nat} {h : hT} {u U : State} {H : Heap} (R : fR E k h u H) (hW : u.WarmedH U.vm) : fR E k h U H := ⟨R.1, R.2.1, R.2.2.1, R.2.2.2.1, va_K.moved hW.alike R.2.2.2.2.1, R.2.2.2.2.2.moved hW⟩
-- ===== locals =====
theorem e_lv_mem {E : eT} {q : Nat × Value} : ∀ {L : lT} {i : Nat}, q ∈ e_lv E i L ↔ ∃ (j : Nat) (v : Value), L[j]? = some (some v) ∧ q = (i + j, e_sh E v) := by
  intro L
  induction L with
  | nil => intro i; simp [e_lv]
  | cons x t ih =>
    intro i
    cases x with
    | none =>
      simp only [e_lv, ih]
      constructor
      · rintro ⟨j, v, h1, h2⟩
        exact ⟨j + 1, v, by simpa using h1, by rw [h2]; congr 1; omega⟩
      · rintro ⟨j, v, h1, h2⟩
        cases j with
        | zero => simp at h1
        | succ j => exact ⟨j, v, by simpa using h1, by rw [h2]; congr 1; omega⟩
    | some w =>
      simp only [e_lv, List.mem_cons, ih]
      constructor
      · rintro (h | ⟨j, v, h1, h2⟩)
        · exact ⟨0, w, rfl, h⟩
        · exact ⟨j + 1, v, by simpa using h1, by rw [h2]; congr 1; omega⟩
      · rintro ⟨j, v, h1, h2⟩
        cases j with
        | zero =>
          left
          have : w = v := by simpa using h1
          rw [h2, this]; rfl
        | succ j => right; exact ⟨j, v, by simpa using h1, by rw [h2]; congr 1; omega⟩
theorem e_lv_at {E : eT} {L : lT} {ls : Array Slot} {n : Nat} (hl : lv_has ls n (e_lv E 0 L)) {j : Nat} {v : Value} (h : L[j]? = some (some v)) : ls[j]? = some (.val (e_sh E v)) :=
  hl.2.2 (j, e_sh E v) (e_lv_mem.mpr ⟨j, v, h, by simp⟩)
theorem e_sh_cat (E : eT) (v : Value) : (e_sh E v).category = v.category := by cases v <;> rfl
/-- a store of one slot: the place left of it holds no long -/
def c1 (x : Option Value) : Bool := match x with
  | some v => v.category != 2
  | none => true
theorem e_lv_put {E : eT} {L L' : lT} {ls : Array Slot} {n i : Nat} {v : Value} (hl : lv_has ls n ((i, e_sh E v) :: (e_lv E 0 L).filter (fun q => !(q.1 == i) && !(q.1 + 1 == i && q.2.category == 2)))) (hL : L' = L.set i (some v)) (hc : ∀ j x, j + 1 = i → L[j]? = some x → c1 x = true) : lv_has ls n (e_lv E 0 L') := by
  refine ⟨hl.1, hl.2.1, fun q hq => ?_⟩
  obtain ⟨j, w, h1, h2⟩ := e_lv_mem.mp hq
  rw [hL] at h1
  rw [h2]
  by_cases hj : j = i
  · subst hj
    have hlt : j < (L.set j (some v)).length := (List.getElem?_eq_some_iff.mp h1).1
    rw [List.getElem?_set_self (by simpa using hlt)] at h1
    cases h1
    have := hl.2.2 (j, e_sh E v) List.mem_cons_self
    simpa using this
  · rw [List.getElem?_set_ne (Ne.symm hj)] at h1
    refine hl.2.2 (0 + j, e_sh E w) (List.mem_cons_of_mem _ (List.mem_filter.mpr ⟨e_lv_mem.mpr ⟨j, w, h1, rfl⟩, ?_⟩))
    have e1 : (0 + j == i) = false := by simp; omega
    simp only [e1, Bool.not_false, Bool.true_and]
    by_cases hji : j + 1 = i
    · have := hc j _ hji h1
      simp only [c1, bne_iff_ne, ne_eq] at this
      simp [e_sh_cat, this]
    · simp; exact Or.inl hji
theorem e_lv_put2 {E : eT} {L L' : lT} {ls : Array Slot} {n i : Nat} {v : Value} (hl : lv_has ls n ((i, e_sh E v) :: (e_lv E 0 L).filter (fun q => !(q.1 == i) && (!(q.1 == i + 1) && !(q.1 + 1 == i && q.2.category == 2))))) (hL : L' = (L.set i (some v)).set (i + 1) none) (hc : ∀ j x, j + 1 = i → L[j]? = some x → c1 x = true) : lv_has ls n (e_lv E 0 L') := by
  refine ⟨hl.1, hl.2.1, fun q hq => ?_⟩
  obtain ⟨j, w, h1, h2⟩ := e_lv_mem.mp hq
  rw [hL] at h1
  rw [h2]
  have hj2 : j ≠ i + 1 := by
    intro e
    subst e
    have hlt : i + 1 < ((L.set i (some v)).set (i + 1) none).length := (List.getElem?_eq_some_iff.mp h1).1
    rw [List.getElem?_set_self (by simpa using hlt)] at h1
    cases h1
  rw [List.getElem?_set_ne (Ne.symm hj2)] at h1
  by_cases hj : j = i
  · subst hj
    have hlt : j < (L.set j (some v)).length := (List.getElem?_eq_some_iff.mp h1).1
    rw [List.getElem?_set_self (by simpa using hlt)] at h1
    cases h1
    have := hl.2.2 (j, e_sh E v) List.mem_cons_self
    simpa using this
  · rw [List.getElem?_set_ne (Ne.symm hj)] at h1
    refine hl.2.2 (0 + j, e_sh E w) (List.mem_cons_of_mem _ (List.mem_filter.mpr ⟨e_lv_mem.mpr ⟨j, w, h1, rfl⟩, ?_⟩))
    have e1 : (0 + j == i) = false := by simp; omega
    have e2 : (0 + j == i + 1) = false := by simp; omega
    simp only [e1, e2, Bool.not_false, Bool.true_and]
    by_cases hji : j + 1 = i
    · have := hc j _ hji h1
      simp only [c1, bne_iff_ne, ne_eq] at this
      simp [e_sh_cat, this]
    · simp; exact Or.inl hji
end
section
/-! instructions, a row each -/
def fD (y : mI) (pc : Nat) (i : Instr) (n pc2 : Nat) : Prop := decode y.2.1 pc = .ok (i, n) ∧ pc + n = pc2
def fB (y : mI) (pc : Nat) (i : Instr) (off : Int) (pc2 tgt : Nat) : Prop := decode y.2.1 pc = .ok (i, 3) ∧ pc + 3 = pc2 ∧ (pc : Int) + off = (tgt : Int)
def fIL (y : mI) (pc k pc2 : Nat) : Prop := (∃ j : Fin 4, decode y.2.1 pc = .ok (.iload_n j, 1) ∧ (j : Nat) = k ∧ pc + 1 = pc2) ∨ (decode y.2.1 pc = .ok (.iload k, 2) ∧ pc + 2 = pc2)
def fIS (y : mI) (pc k pc2 : Nat) : Prop := (∃ j : Fin 4, decode y.2.1 pc = .ok (.istore_n j, 1) ∧ (j : Nat) = k ∧ pc + 1 = pc2) ∨ (decode y.2.1 pc = .ok (.istore k, 2) ∧ pc + 2 = pc2)
def fAL (y : mI) (pc k pc2 : Nat) : Prop := (∃ j : Fin 4, decode y.2.1 pc = .ok (.aload_n j, 1) ∧ (j : Nat) = k ∧ pc + 1 = pc2) ∨ (decode y.2.1 pc = .ok (.aload k, 2) ∧ pc + 2 = pc2)
def fAS (y : mI) (pc k pc2 : Nat) : Prop := (∃ j : Fin 4, decode y.2.1 pc = .ok (.astore_n j, 1) ∧ (j : Nat) = k ∧ pc + 1 = pc2) ∨ (decode y.2.1 pc = .ok (.astore k, 2) ∧ pc + 2 = pc2)
def fLL (y : mI) (pc k pc2 : Nat) : Prop := (∃ j : Fin 4, decode y.2.1 pc = .ok (.lload_n j, 1) ∧ (j : Nat) = k ∧ pc + 1 = pc2) ∨ (decode y.2.1 pc = .ok (.lload k, 2) ∧ pc + 2 = pc2)
def fLS (y : mI) (pc k pc2 : Nat) : Prop := (∃ j : Fin 4, decode y.2.1 pc = .ok (.lstore_n j, 1) ∧ (j : Nat) = k ∧ pc + 1 = pc2) ∨ (decode y.2.1 pc = .ok (.lstore k, 2) ∧ pc + 2 = pc2)
def fIC (y : mI) (pc : Nat) (v : Int32) (pc2 : Nat) : Prop := (∃ n : Int, decode y.2.1 pc = .ok (.iconst n, 1) ∧ Int32.ofInt n = v ∧ pc + 1 = pc2) ∨ (∃ n : Int, decode y.2.1 pc = .ok (.bipush n, 2) ∧ (Int8.ofInt n).toInt32 = v ∧ pc + 2 = pc2) ∨ (∃ n : Int, decode y.2.1 pc = .ok (.sipush n, 3) ∧ (Int16.ofInt n).toInt32 = v ∧ pc + 3 = pc2) ∨ (∃ i : Nat, decode y.2.1 pc = .ok (.ldc i, 2) ∧ Cond.constant y.1.cls i v ∈ gw ∧ pc + 2 = pc2) ∨ (∃ i : Nat, decode y.2.1 pc = .ok (.ldc_w i, 3) ∧ Cond.constant y.1.cls i v ∈ gw ∧ pc + 3 = pc2)
def fLC (y : mI) (pc : Nat) (v : Int64) (pc2 : Nat) : Prop := (∃ n : Fin 2, decode y.2.1 pc = .ok (.lconst n, 1) ∧ Int64.ofNat (n : Nat) = v ∧ pc + 1 = pc2) ∨ (∃ i : Nat, decode y.2.1 pc = .ok (.ldc2_w i, 3) ∧ Cond.constantLong y.1.cls i v ∈ gw ∧ pc + 3 = pc2)
section IN
variable {y : mI} {E : eT} {Z : zT} {k : Nat} {h : hT} {nc ns pc pc2 tgt : Nat} {L L2 : lT} {st : List Value}
theorem fF.w {p : Program} {s : State} {m : MethodId} {args : Array Value} {meth : Method} {c : Code} (F : fF y E p s m args meth c) {w : Cond} (hw : w ∈ gw) : w.before args s = true := F.2.2.2.2.2.1 w hw
theorem a_ic {v : Int32} (hd : fIC y pc v pc2) (kk : fA y E Z k h nc ns pc2 L (.int v :: st)) : fA y E Z k h nc ns pc L st := by
  intro p l e s m args below meth c H locs ls F R hS hl h1 h2
  have kk := kk p l e s m args below meth c H locs ls F R hS hl h1 h2
  rcases hd with ⟨n, d, e1, rfl⟩ | ⟨n, d, e1, rfl⟩ | ⟨n, d, e1, rfl⟩ | ⟨i, d, e1, rfl⟩ | ⟨i, d, e1, rfl⟩
  · exact lv_iconst F.1 F.2.1 d e1 kk
  · exact lv_bipush F.1 F.2.1 d e1 kk
  · exact lv_sipush F.1 F.2.1 d e1 kk
  · exact lv_ldc F.1 F.2.1 F.2.2.2.2.1 (F.w e1) d kk
  · exact lv_ldcw F.1 F.2.1 F.2.2.2.2.1 (F.w e1) d kk
theorem a_lc {v : Int64} (hd : fLC y pc v pc2) (kk : fA y E Z k h nc ns pc2 L (.long v :: st)) : fA y E Z k h nc ns pc L st := by
  intro p l e s m args below meth c H locs ls F R hS hl h1 h2
  have kk := kk p l e s m args below meth c H locs ls F R hS hl h1 h2
  rcases hd with ⟨n, d, e1, rfl⟩ | ⟨i, d, e1, rfl⟩
  · exact lv_lconst F.1 F.2.1 d e1 kk
  · exact lv_ldc2 F.1 F.2.1 F.2.2.2.2.1 (F.w e1) d kk
theorem a_il {j : Nat} {v : Int32} (hd : fIL y pc j pc2) (hj : L[j]? = some (some (.int v))) (kk : fA y E Z k h nc ns pc2 L (.int v :: st)) : fA y E Z k h nc ns pc L st := by
  intro p l e s m args below meth c H locs ls F R hS hl h1 h2
  have kk := kk p l e s m args below meth c H locs ls F R hS hl h1 h2
  have hv := e_lv_at hl hj
  rcases hd with ⟨n, d, e1, rfl⟩ | ⟨d, rfl⟩
  · exact lv_iload_n F.1 F.2.1 d e1 hv kk
  · exact lv_iload F.1 F.2.1 d hv kk
theorem a_ll {j : Nat} {v : Int64} (hd : fLL y pc j pc2) (hj : L[j]? = some (some (.long v))) (kk : fA y E Z k h nc ns pc2 L (.long v :: st)) : fA y E Z k h nc ns pc L st := by
  intro p l e s m args below meth c H locs ls F R hS hl h1 h2
  have kk := kk p l e s m args below meth c H locs ls F R hS hl h1 h2
  have hv := e_lv_at hl hj
  rcases hd with ⟨n, d, e1, rfl⟩ | ⟨d, rfl⟩
  · exact lv_lload_n F.1 F.2.1 d e1 hv kk
  · exact lv_lload F.1 F.2.1 d hv kk
theorem a_al {j : Nat} {v : Nat} (hd : fAL y pc j pc2) (hj : L[j]? = some (some (.ref v))) (kk : fA y E Z k h nc ns pc2 L (.ref v :: st)) : fA y E Z k h nc ns pc L st := by
  intro p l e s m args below meth c H locs ls F R hS hl h1 h2
  have kk := kk p l e s m args below meth c H locs ls F R hS hl h1 h2
  have hv := e_lv_at hl hj
  rcases hd with ⟨n, d, e1, rfl⟩ | ⟨d, rfl⟩
  · exact lv_aload_n F.1 F.2.1 d e1 hv kk
  · exact lv_aload F.1 F.2.1 d hv kk
theorem a_nl {j : Nat} (hd : fAL y pc j pc2) (hj : L[j]? = some (some .null)) (kk : fA y E Z k h nc ns pc2 L (.null :: st)) : fA y E Z k h nc ns pc L st := by
  intro p l e s m args below meth c H locs ls F R hS hl h1 h2
  have kk := kk p l e s m args below meth c H locs ls F R hS hl h1 h2
  have hv := e_lv_at hl hj
  rcases hd with ⟨n, d, e1, rfl⟩ | ⟨d, rfl⟩
  · exact lv_aload_nN F.1 F.2.1 d e1 hv kk
  · exact lv_aloadN F.1 F.2.1 d hv kk
theorem a_is {j : Nat} {v : Int32} (hd : fIS y pc j pc2) (hj : j < y.2.2.1) (hL : L2 = L.set j (some (.int v))) (hc : ∀ i x, i + 1 = j → L[i]? = some x → c1 x = true) (kk : fA y E Z k h nc ns pc2 L2 st) : fA y E Z k h nc ns pc L (.int v :: st) := by
  intro p l e s m args below meth c H locs ls F R hS hl h1 h2
  have kk := fun ls hl => kk p l e s m args below meth c H locs ls F R hS hl h1 h2
  rcases hd with ⟨n, d, e1, rfl⟩ | ⟨d, rfl⟩
  · exact lv_istore_n F.1 F.2.1 d e1 hl hj rfl (fun ls hl => kk ls (e_lv_put (v := .int v) hl hL hc))
  · exact lv_istore F.1 F.2.1 d hl hj rfl (fun ls hl => kk ls (e_lv_put (v := .int v) hl hL hc))
theorem a_as {j : Nat} {v : Nat} (hd : fAS y pc j pc2) (hj : j < y.2.2.1) (hL : L2 = L.set j (some (.ref v))) (hc : ∀ i x, i + 1 = j → L[i]? = some x → c1 x = true) (kk : fA y E Z k h nc ns pc2 L2 st) : fA y E Z k h nc ns pc L (.ref v :: st) := by
  intro p l e s m args below meth c H locs ls F R hS hl h1 h2
  have kk := fun ls hl => kk p l e s m args below meth c H locs ls F R hS hl h1 h2
  rcases hd with ⟨n, d, e1, rfl⟩ | ⟨d, rfl⟩
  · exact lv_astore_n F.1 F.2.1 d e1 hl hj rfl (fun ls hl => kk ls (e_lv_put (v := .ref v) hl hL hc))
  · exact lv_astore F.1 F.2.1 d hl hj rfl (fun ls hl => kk ls (e_lv_put (v := .ref v) hl hL hc))
theorem a_ns {j : Nat} (hd : fAS y pc j pc2) (hj : j < y.2.2.1) (hL : L2 = L.set j (some .null)) (hc : ∀ i x, i + 1 = j → L[i]? = some x → c1 x = true) (kk : fA y E Z k h nc ns pc2 L2 st) : fA y E Z k h nc ns pc L (.null :: st) := by
  intro p l e s m args below meth c H locs ls F R hS hl h1 h2
  have kk := fun ls hl => kk p l e s m args below meth c H locs ls F R hS hl h1 h2
  rcases hd with ⟨n, d, e1, rfl⟩ | ⟨d, rfl⟩
  · exact lv_astore_nN F.1 F.2.1 d e1 hl hj rfl (fun ls hl => kk ls (e_lv_put (v := .null) hl hL hc))
  · exact lv_astoreN F.1 F.2.1 d hl hj rfl (fun ls hl => kk ls (e_lv_put (v := .null) hl hL hc))
theorem a_ls {j : Nat} {v : Int64} (hd : fLS y pc j pc2) (hj : j + 1 < y.2.2.1) (hL : L2 = (L.set j (some (.long v))).set (j + 1) none) (hc : ∀ i x, i + 1 = j → L[i]? = some x → c1 x = true) (kk : fA y E Z k h nc ns pc2 L2 st) : fA y E Z k h nc ns pc L (.long v :: st) := by
  intro p l e s m args below meth c H locs ls F R hS hl h1 h2
  have kk := fun ls hl => kk p l e s m args below meth c H locs ls F R hS hl h1 h2
  rcases hd with ⟨n, d, e1, rfl⟩ | ⟨d, rfl⟩
  · exact lv_lstore_n F.1 F.2.1 d e1 hl hj rfl (fun ls hl => kk ls (e_lv_put2 (v := .long v) hl hL hc))
  · exact lv_lstore F.1 F.2.1 d hl hj rfl (fun ls hl => kk ls (e_lv_put2 (v := .long v) hl hL hc))
theorem a_iinc {j : Nat} {n : Int} {x v : Int32} (hd : fD y pc (.iinc j n) 3 pc2) (hx : L[j]? = some (some (.int x))) (hv : x + Int32.ofInt n = v) (hj : j < y.2.2.1) (hL : L2 = L.set j (some (.int v))) (hc : ∀ i x, i + 1 = j → L[i]? = some x → c1 x = true) (kk : fA y E Z k h nc ns pc2 L2 st) : fA y E Z k h nc ns pc L st := by
  intro p l e s m args below meth c H locs ls F R hS hl h1 h2
  obtain ⟨d, rfl⟩ := hd
  have kk := fun ls hl => kk p l e s m args below meth c H locs ls F R hS hl h1 h2
  obtain ⟨i, hi⟩ := List.getElem?_of_mem (e_lv_mem.mpr ⟨j, .int x, hx, rfl⟩ : (0 + j, e_sh E (.int x)) ∈ e_lv E 0 L)
  rw [Nat.zero_add] at hi
  exact lv_iinc F.1 F.2.1 d hl hi hv hj rfl (fun ls hl => kk ls (e_lv_put (v := .int v) hl hL hc))
theorem a_iadd {x z : Int32} (hd : fD y pc .iadd 1 pc2) (kk : fA y E Z k h nc ns pc2 L (.int (x + z) :: st)) : fA y E Z k h nc ns pc L (.int z :: .int x :: st) := by
  intro p l e s m args below meth c H locs ls F R hS hl h1 h2
  obtain ⟨d, rfl⟩ := hd
  exact lv_iadd F.1 F.2.1 d (kk p l e s m args below meth c H locs ls F R hS hl h1 h2)
theorem a_isub {x z : Int32} (hd : fD y pc .isub 1 pc2) (kk : fA y E Z k h nc ns pc2 L (.int (x - z) :: st)) : fA y E Z k h nc ns pc L (.int z :: .int x :: st) := by
  intro p l e s m args below meth c H locs ls F R hS hl h1 h2
  obtain ⟨d, rfl⟩ := hd
  exact lv_isub F.1 F.2.1 d (kk p l e s m args below meth c H locs ls F R hS hl h1 h2)
theorem a_imul {x z : Int32} (hd : fD y pc .imul 1 pc2) (kk : fA y E Z k h nc ns pc2 L (.int (x * z) :: st)) : fA y E Z k h nc ns pc L (.int z :: .int x :: st) := by
  intro p l e s m args below meth c H locs ls F R hS hl h1 h2
  obtain ⟨d, rfl⟩ := hd
  exact lv_imul F.1 F.2.1 d (kk p l e s m args below meth c H locs ls F R hS hl h1 h2)
theorem a_iand {x z : Int32} (hd : fD y pc .iand 1 pc2) (kk : fA y E Z k h nc ns pc2 L (.int (x &&& z) :: st)) : fA y E Z k h nc ns pc L (.int z :: .int x :: st) := by
  intro p l e s m args below meth c H locs ls F R hS hl h1 h2
  obtain ⟨d, rfl⟩ := hd
  exact lv_iand F.1 F.2.1 d (kk p l e s m args below meth c H locs ls F R hS hl h1 h2)
theorem a_ior {x z : Int32} (hd : fD y pc .ior 1 pc2) (kk : fA y E Z k h nc ns pc2 L (.int (x ||| z) :: st)) : fA y E Z k h nc ns pc L (.int z :: .int x :: st) := by
  intro p l e s m args below meth c H locs ls F R hS hl h1 h2
  obtain ⟨d, rfl⟩ := hd
  exact lv_ior F.1 F.2.1 d (kk p l e s m args below meth c H locs ls F R hS hl h1 h2)
theorem a_ixor {x z : Int32} (hd : fD y pc .ixor 1 pc2) (kk : fA y E Z k h nc ns pc2 L (.int (x ^^^ z) :: st)) : fA y E Z k h nc ns pc L (.int z :: .int x :: st) := by
  intro p l e s m args below meth c H locs ls F R hS hl h1 h2
  obtain ⟨d, rfl⟩ := hd
  exact lv_ixor F.1 F.2.1 d (kk p l e s m args below meth c H locs ls F R hS hl h1 h2)
theorem a_ishl {x z : Int32} (hd : fD y pc .ishl 1 pc2) (kk : fA y E Z k h nc ns pc2 L (.int (x <<< (z &&& 31)) :: st)) : fA y E Z k h nc ns pc L (.int z :: .int x :: st) := by
  intro p l e s m args below meth c H locs ls F R hS hl h1 h2
  obtain ⟨d, rfl⟩ := hd
  exact lv_ishl F.1 F.2.1 d (kk p l e s m args below meth c H locs ls F R hS hl h1 h2)
theorem a_ishr {x z : Int32} (hd : fD y pc .ishr 1 pc2) (kk : fA y E Z k h nc ns pc2 L (.int (x >>> (z &&& 31)) :: st)) : fA y E Z k h nc ns pc L (.int z :: .int x :: st) := by
  intro p l e s m args below meth c H locs ls F R hS hl h1 h2
  obtain ⟨d, rfl⟩ := hd
  exact lv_ishr F.1 F.2.1 d (kk p l e s m args below meth c H locs ls F R hS hl h1 h2)
theorem a_idiv {x z : Int32} (hd : fD y pc .idiv 1 pc2) (hz : ¬ z = 0) (kk : fA y E Z k h nc ns pc2 L (.int (x / z) :: st)) : fA y E Z k h nc ns pc L (.int z :: .int x :: st) := by
  intro p l e s m args below meth c H locs ls F R hS hl h1 h2
  obtain ⟨d, rfl⟩ := hd
  exact lv_idiv F.1 F.2.1 d hz (kk p l e s m args below meth c H locs ls F R hS hl h1 h2)
theorem a_irem {x z : Int32} (hd : fD y pc .irem 1 pc2) (hz : ¬ z = 0) (kk : fA y E Z k h nc ns pc2 L (.int (x - x / z * z) :: st)) : fA y E Z k h nc ns pc L (.int z :: .int x :: st) := by
  intro p l e s m args below meth c H locs ls F R hS hl h1 h2
  obtain ⟨d, rfl⟩ := hd
  exact lv_irem F.1 F.2.1 d hz (kk p l e s m args below meth c H locs ls F R hS hl h1 h2)
theorem a_ladd {x z : Int64} (hd : fD y pc .ladd 1 pc2) (kk : fA y E Z k h nc ns pc2 L (.long (x + z) :: st)) : fA y E Z k h nc ns pc L (.long z :: .long x :: st) := by
  intro p l e s m args below meth c H locs ls F R hS hl h1 h2
  obtain ⟨d, rfl⟩ := hd
  exact lv_ladd F.1 F.2.1 d (kk p l e s m args below meth c H locs ls F R hS hl h1 h2)
theorem a_lsub {x z : Int64} (hd : fD y pc .lsub 1 pc2) (kk : fA y E Z k h nc ns pc2 L (.long (x - z) :: st)) : fA y E Z k h nc ns pc L (.long z :: .long x :: st) := by
  intro p l e s m args below meth c H locs ls F R hS hl h1 h2
  obtain ⟨d, rfl⟩ := hd
  exact lv_lsub F.1 F.2.1 d (kk p l e s m args below meth c H locs ls F R hS hl h1 h2)
theorem a_lmul {x z : Int64} (hd : fD y pc .lmul 1 pc2) (kk : fA y E Z k h nc ns pc2 L (.long (x * z) :: st)) : fA y E Z k h nc ns pc L (.long z :: .long x :: st) := by
  intro p l e s m args below meth c H locs ls F R hS hl h1 h2
  obtain ⟨d, rfl⟩ := hd
  exact lv_lmul F.1 F.2.1 d (kk p l e s m args below meth c H locs ls F R hS hl h1 h2)
theorem a_ldiv {x z : Int64} (hd : fD y pc .ldiv 1 pc2) (hz : ¬ z = 0) (kk : fA y E Z k h nc ns pc2 L (.long (x / z) :: st)) : fA y E Z k h nc ns pc L (.long z :: .long x :: st) := by
  intro p l e s m args below meth c H locs ls F R hS hl h1 h2
  obtain ⟨d, rfl⟩ := hd
  exact lv_ldiv F.1 F.2.1 d hz (kk p l e s m args below meth c H locs ls F R hS hl h1 h2)
theorem a_lrem {x z : Int64} (hd : fD y pc .lrem 1 pc2) (hz : ¬ z = 0) (kk : fA y E Z k h nc ns pc2 L (.long (x - x / z * z) :: st)) : fA y E Z k h nc ns pc L (.long z :: .long x :: st) := by
  intro p l e s m args below meth c H locs ls F R hS hl h1 h2
  obtain ⟨d, rfl⟩ := hd
  exact lv_lrem F.1 F.2.1 d hz (kk p l e s m args below meth c H locs ls F R hS hl h1 h2)
theorem a_i2l {x : Int32} (hd : fD y pc .i2l 1 pc2) (kk : fA y E Z k h nc ns pc2 L (.long x.toInt64 :: st)) : fA y E Z k h nc ns pc L (.int x :: st) := by
  intro p l e s m args below meth c H locs ls F R hS hl h1 h2
  obtain ⟨d, rfl⟩ := hd
  exact lv_i2l F.1 F.2.1 d rfl (kk p l e s m args below meth c H locs ls F R hS hl h1 h2)
theorem a_l2i {x : Int64} (hd : fD y pc .l2i 1 pc2) (kk : fA y E Z k h nc ns pc2 L (.int x.toInt32 :: st)) : fA y E Z k h nc ns pc L (.long x :: st) := by
  intro p l e s m args below meth c H locs ls F R hS hl h1 h2
  obtain ⟨d, rfl⟩ := hd
  exact lv_l2i F.1 F.2.1 d rfl (kk p l e s m args below meth c H locs ls F R hS hl h1 h2)
theorem a_lcmp {x z : Int64} (hd : fD y pc .lcmp 1 pc2) (kk : fA y E Z k h nc ns pc2 L (.int (lg_cmp x z) :: st)) : fA y E Z k h nc ns pc L (.long z :: .long x :: st) := by
  intro p l e s m args below meth c H locs ls F R hS hl h1 h2
  obtain ⟨d, rfl⟩ := hd
  exact W.lcmp F.1 F.2.1 d (kk p l e s m args below meth c H locs ls F R hS hl h1 h2)
theorem a_dup {v : Value} (hd : fD y pc .dup 1 pc2) (hv : v.category = 1) (kk : fA y E Z k h nc ns pc2 L (v :: v :: st)) : fA y E Z k h nc ns pc L (v :: st) := by
  intro p l e s m args below meth c H locs ls F R hS hl h1 h2
  obtain ⟨d, rfl⟩ := hd
  exact lv_dup F.1 F.2.1 d (by rw [e_sh_cat]; exact hv) (kk p l e s m args below meth c H locs ls F R hS hl h1 h2)
theorem a_pop {v : Value} (hd : fD y pc .pop 1 pc2) (hv : v.category = 1) (kk : fA y E Z k h nc ns pc2 L st) : fA y E Z k h nc ns pc L (v :: st) := by
  intro p l e s m args below meth c H locs ls F R hS hl h1 h2
  obtain ⟨d, rfl⟩ := hd
  exact lv_pop F.1 F.2.1 d (by rw [e_sh_cat]; exact hv) (kk p l e s m args below meth c H locs ls F R hS hl h1 h2)
theorem a_dup2 {v w : Value} (hd : fD y pc .dup2 1 pc2) (hv : v.category = 1) (hw : w.category = 1) (kk : fA y E Z k h nc ns pc2 L (v :: w :: v :: w :: st)) : fA y E Z k h nc ns pc L (v :: w :: st) := by
  intro p l e s m args below meth c H locs ls F R hS hl h1 h2
  obtain ⟨d, rfl⟩ := hd
  exact lv_dup2_11 F.1 F.2.1 d (by rw [e_sh_cat]; exact hv) (by rw [e_sh_cat]; exact hw) (kk p l e s m args below meth c H locs ls F R hS hl h1 h2)
theorem a_if_eq {x : Int32} {off : Int} (hd : fB y pc (.ifCond .eq off) off pc2 tgt) (kt : x = 0 → fA y E Z k h nc ns tgt L st) (kf : ¬ x = 0 → fA y E Z k h nc ns pc2 L st) : fA y E Z k h nc ns pc L (.int x :: st) := by
  intro p l e s m args below meth c H locs ls F R hS hl h1 h2
  obtain ⟨d, rfl, d2⟩ := hd
  exact lv_if_eq F.1 F.2.1 d d2 (fun q => kt q p l e s m args below meth c H locs ls F R hS hl h1 h2) (fun q => kf q p l e s m args below meth c H locs ls F R hS hl h1 h2)
theorem a_if_ne {x : Int32} {off : Int} (hd : fB y pc (.ifCond .ne off) off pc2 tgt) (kt : ¬ x = 0 → fA y E Z k h nc ns tgt L st) (kf : x = 0 → fA y E Z k h nc ns pc2 L st) : fA y E Z k h nc ns pc L (.int x :: st) := by
  intro p l e s m args below meth c H locs ls F R hS hl h1 h2
  obtain ⟨d, rfl, d2⟩ := hd
  exact lv_if_ne F.1 F.2.1 d d2 (fun q => kt q p l e s m args below meth c H locs ls F R hS hl h1 h2) (fun q => kf q p l e s m args below meth c H locs ls F R hS hl h1 h2)
theorem a_if_lt {x : Int32} {off : Int} (hd : fB y pc (.ifCond .lt off) off pc2 tgt) (kt : x < 0 → fA y E Z k h nc ns tgt L st) (kf : ¬ x < 0 → fA y E Z k h nc ns pc2 L st) : fA y E Z k h nc ns pc L (.int x :: st) := by
  intro p l e s m args below meth c H locs ls F R hS hl h1 h2
  obtain ⟨d, rfl, d2⟩ := hd
  exact lv_if_lt F.1 F.2.1 d d2 (fun q => kt q p l e s m args below meth c H locs ls F R hS hl h1 h2) (fun q => kf q p l e s m args below meth c H locs ls F R hS hl h1 h2)
theorem a_if_ge {x : Int32} {off : Int} (hd : fB y pc (.ifCond .ge off) off pc2 tgt) (kt : 0 ≤ x → fA y E Z k h nc ns tgt L st) (kf : ¬ 0 ≤ x → fA y E Z k h nc ns pc2 L st) : fA y E Z k h nc ns pc L (.int x :: st) := by
  intro p l e s m args below meth c H locs ls F R hS hl h1 h2
  obtain ⟨d, rfl, d2⟩ := hd
  exact lv_if_ge F.1 F.2.1 d d2 (fun q => kt q p l e s m args below meth c H locs ls F R hS hl h1 h2) (fun q => kf q p l e s m args below meth c H locs ls F R hS hl h1 h2)
theorem a_if_gt {x : Int32} {off : Int} (hd : fB y pc (.ifCond .gt off) off pc2 tgt) (kt : 0 < x → fA y E Z k h nc ns tgt L st) (kf : ¬ 0 < x → fA y E Z k h nc ns pc2 L st) : fA y E Z k h nc ns pc L (.int x :: st) := by
  intro p l e s m args below meth c H locs ls F R hS hl h1 h2
  obtain ⟨d, rfl, d2⟩ := hd
  exact lv_if_gt F.1 F.2.1 d d2 (fun q => kt q p l e s m args below meth c H locs ls F R hS hl h1 h2) (fun q => kf q p l e s m args below meth c H locs ls F R hS hl h1 h2)
theorem a_if_le {x : Int32} {off : Int} (hd : fB y pc (.ifCond .le off) off pc2 tgt) (kt : x ≤ 0 → fA y E Z k h nc ns tgt L st) (kf : ¬ x ≤ 0 → fA y E Z k h nc ns pc2 L st) : fA y E Z k h nc ns pc L (.int x :: st) := by
  intro p l e s m args below meth c H locs ls F R hS hl h1 h2
  obtain ⟨d, rfl, d2⟩ := hd
  exact lv_if_le F.1 F.2.1 d d2 (fun q => kt q p l e s m args below meth c H locs ls F R hS hl h1 h2) (fun q => kf q p l e s m args below meth c H locs ls F R hS hl h1 h2)
theorem a_ic_eq {x z : Int32} {off : Int} (hd : fB y pc (.if_icmp .eq off) off pc2 tgt) (kt : x = z → fA y E Z k h nc ns tgt L st) (kf : ¬ x = z → fA y E Z k h nc ns pc2 L st) : fA y E Z k h nc ns pc L (.int z :: .int x :: st) := by
  intro p l e s m args below meth c H locs ls F R hS hl h1 h2
  obtain ⟨d, rfl, d2⟩ := hd
  exact lv_icmp_eq F.1 F.2.1 d d2 (fun q => kt q p l e s m args below meth c H locs ls F R hS hl h1 h2) (fun q => kf q p l e s m args below meth c H locs ls F R hS hl h1 h2)
theorem a_ic_ne {x z : Int32} {off : Int} (hd : fB y pc (.if_icmp .ne off) off pc2 tgt) (kt : ¬ x = z → fA y E Z k h nc ns tgt L st) (kf : x = z → fA y E Z k h nc ns pc2 L st) : fA y E Z k h nc ns pc L (.int z :: .int x :: st) := by
  intro p l e s m args below meth c H locs ls F R hS hl h1 h2
  obtain ⟨d, rfl, d2⟩ := hd
  exact lv_icmp_ne F.1 F.2.1 d d2 (fun q => kt q p l e s m args below meth c H locs ls F R hS hl h1 h2) (fun q => kf q p l e s m args below meth c H locs ls F R hS hl h1 h2)
theorem a_ic_lt {x z : Int32} {off : Int} (hd : fB y pc (.if_icmp .lt off) off pc2 tgt) (kt : x < z → fA y E Z k h nc ns tgt L st) (kf : ¬ x < z → fA y E Z k h nc ns pc2 L st) : fA y E Z k h nc ns pc L (.int z :: .int x :: st) := by
  intro p l e s m args below meth c H locs ls F R hS hl h1 h2
  obtain ⟨d, rfl, d2⟩ := hd
  exact lv_icmp_lt F.1 F.2.1 d d2 (fun q => kt q p l e s m args below meth c H locs ls F R hS hl h1 h2) (fun q => kf q p l e s m args below meth c H locs ls F R hS hl h1 h2)
theorem a_ic_ge {x z : Int32} {off : Int} (hd : fB y pc (.if_icmp .ge off) off pc2 tgt) (kt : z ≤ x → fA y E Z k h nc ns tgt L st) (kf : ¬ z ≤ x → fA y E Z k h nc ns pc2 L st) : fA y E Z k h nc ns pc L (.int z :: .int x :: st) := by
  intro p l e s m args below meth c H locs ls F R hS hl h1 h2
  obtain ⟨d, rfl, d2⟩ := hd
  exact lv_icmp_ge F.1 F.2.1 d d2 (fun q => kt q p l e s m args below meth c H locs ls F R hS hl h1 h2) (fun q => kf q p l e s m args below meth c H locs ls F R hS hl h1 h2)
theorem a_ic_gt {x z : Int32} {off : Int} (hd : fB y pc (.if_icmp .gt off) off pc2 tgt) (kt : z < x → fA y E Z k h nc ns tgt L st) (kf : ¬ z < x → fA y E Z k h nc ns pc2 L st) : fA y E Z k h nc ns pc L (.int z :: .int x :: st) := by
  intro p l e s m args below meth c H locs ls F R hS hl h1 h2
  obtain ⟨d, rfl, d2⟩ := hd
  exact lv_icmp_gt F.1 F.2.1 d d2 (fun q => kt q p l e s m args below meth c H locs ls F R hS hl h1 h2) (fun q => kf q p l e s m args below meth c H locs ls F R hS hl h1 h2)
theorem a_ic_le {x z : Int32} {off : Int} (hd : fB y pc (.if_icmp .le off) off pc2 tgt) (kt : x ≤ z → fA y E Z k h nc ns tgt L st) (kf : ¬ x ≤ z → fA y E Z k h nc ns pc2 L st) : fA y E Z k h nc ns pc L (.int z :: .int x :: st) := by
  intro p l e s m args below meth c H locs ls F R hS hl h1 h2
  obtain ⟨d, rfl, d2⟩ := hd
  exact lv_icmp_le F.1 F.2.1 d d2 (fun q => kt q p l e s m args below meth c H locs ls F R hS hl h1 h2) (fun q => kf q p l e s m args below meth c H locs ls F R hS hl h1 h2)
theorem a_goto {off : Int} (hd : fB y pc (.goto off) off pc2 tgt) (kk : fA y E Z k h nc ns tgt L st) : fA y E Z k h nc ns pc L st := by
  intro p l e s m args below meth c H locs ls F R hS hl h1 h2
  obtain ⟨d, rfl, d2⟩ := hd
  exact lv_goto F.1 F.2.1 d d2 (kk p l e s m args below meth c H locs ls F R hS hl h1 h2)
theorem a_nnR {off : Int} {v : Nat} (hd : fB y pc (.ifnonnull off) off pc2 tgt) (kk : fA y E Z k h nc ns tgt L st) : fA y E Z k h nc ns pc L (.ref v :: st) := by
  intro p l e s m args below meth c H locs ls F R hS hl h1 h2
  obtain ⟨d, rfl, d2⟩ := hd
  exact lv_ifnonnull F.1 F.2.1 d d2 (kk p l e s m args below meth c H locs ls F R hS hl h1 h2)
theorem a_nnN {off : Int} (hd : fB y pc (.ifnonnull off) off pc2 tgt) (kk : fA y E Z k h nc ns pc2 L st) : fA y E Z k h nc ns pc L (.null :: st) := by
  intro p l e s m args below meth c H locs ls F R hS hl h1 h2
  obtain ⟨d, rfl, d2⟩ := hd
  exact lv_ifnonnullN F.1 F.2.1 d (kk p l e s m args below meth c H locs ls F R hS hl h1 h2)
theorem a_tsO {x : Int32} {df lo hi : Int} {offs : Array Int} {n : Nat} (hd : fD y pc (.tableswitch df lo hi offs) n pc2) (hx : x.toInt < lo ∨ hi < x.toInt) (ht : (pc : Int) + df = (tgt : Int)) (kk : fA y E Z k h nc ns tgt L st) : fA y E Z k h nc ns pc L (.int x :: st) := by
  intro p l e s m args below meth c H locs ls F R hS hl h1 h2
  obtain ⟨d, rfl⟩ := hd
  exact lv_tableOut F.1 F.2.1 d hx ht (kk p l e s m args below meth c H locs ls F R hS hl h1 h2)
theorem a_tsI {x : Int32} {df lo hi off : Int} {offs : Array Int} {n : Nat} (hd : fD y pc (.tableswitch df lo hi offs) n pc2) (hx : ¬ x.toInt < lo) (hy : ¬ hi < x.toInt) (ho : offs[(x.toInt - lo).toNat]? = some off) (ht : (pc : Int) + off = (tgt : Int)) (kk : fA y E Z k h nc ns tgt L st) : fA y E Z k h nc ns pc L (.int x :: st) := by
  intro p l e s m args below meth c H locs ls F R hS hl h1 h2
  obtain ⟨d, rfl⟩ := hd
  exact lv_tableIn F.1 F.2.1 d hx hy ho ht (kk p l e s m args below meth c H locs ls F R hS hl h1 h2)
theorem a_ls2 {x : Int32} {df off : Int} {ps : Array (Int × Int)} {n : Nat} (hd : fD y pc (.lookupswitch df ps) n pc2) (hp : (ps.toList.zip (ps.toList.drop 1)).all (fun (a, next) => a.1 < next.1) = true) (ho : Op.lookupswitch.offset ps.toList df x.toInt = off) (ht : (pc : Int) + off = (tgt : Int)) (kk : fA y E Z k h nc ns tgt L st) : fA y E Z k h nc ns pc L (.int x :: st) := by
  intro p l e s m args below meth c H locs ls F R hS hl h1 h2
  obtain ⟨d, rfl⟩ := hd
  exact lv_lookup F.1 F.2.1 d hp ho ht (kk p l e s m args below meth c H locs ls F R hS hl h1 h2)
end IN
end
section
/-! fields, arrays, new cells, calls, ends -/
def fFL (own : String) (idx ci j : Nat) : Prop := ∃ (C : String) (T : u_T) (N : Nat), cls[ci]? = some (C, T, N) ∧ j < N ∧ (T j).1 = C ∧ (Cond.fieldLink own idx C (T j).2.1 (T j).2.2.1 ∈ gw ∨ ∃ host, Cond.fieldLinkNest own idx C (T j).2.1 (T j).2.2.1 host ∈ nw)
/-- a field that is written: not final, of type ty -/
def fPL (own : String) (idx ci j : Nat) (ty : FieldType) : Prop := ∃ (C : String) (T : u_T) (N : Nat), cls[ci]? = some (C, T, N) ∧ j < N ∧ (T j).1 = C ∧ (T j).2.2.2 = false ∧ parseFieldDescriptor (T j).2.2.1 = some ty ∧ (Cond.fieldLink own idx C (T j).2.1 (T j).2.2.1 ∈ gw ∨ ∃ host, Cond.fieldLinkNest own idx C (T j).2.1 (T j).2.2.1 host ∈ nw)
/-- a final field, written in its class's constructor -/
def fPF (own : String) (idx ci j : Nat) (ty : FieldType) : Prop := ∃ (C : String) (T : u_T) (N : Nat), cls[ci]? = some (C, T, N) ∧ j < N ∧ (T j).1 = C ∧ C = own ∧ (T j).2.2.2 = true ∧ parseFieldDescriptor (T j).2.2.1 = some ty ∧ Cond.fieldLink own idx C (T j).2.1 (T j).2.2.1 ∈ gw
def fNW (own : String) (idx ci : Nat) (fs : List Value) (N : Nat) : Prop := ∃ (C : String) (T : u_T) (ty : Nat → FieldType), cls[ci]? = some (C, T, N) ∧ Cond.classLink own idx C ∈ gw ∧ Cond.instantiable C N ∈ gw ∧ Cond.initialized C ∈ gw ∧ (∀ j, j < N → parseFieldDescriptor (T j).2.2.1 = some (ty j)) ∧ (∀ j, j < N → defaultValue (ty j) = vp_V fs j) ∧ ∀ E : eT, fs.map (e_sh E) = fs
abbrev ia (n : Nat) (f : Nat → Int32) : cT := .inl (0, n, .inl f)
abbrev za (n : Nat) (f : Nat → Int32) : cT := .inl (1, n, .inl f)
abbrev ra (n : Nat) (f : Nat → Option Nat) : cT := .inl (2, n, .inr (.inr (.inr (.inr f))))
section HP
variable {y : mI} {E : eT} {Z : zT} {k : Nat} {h : hT} {nc ns pc pc2 tgt : Nat} {L L2 : lT} {st : List Value}
theorem e_in (R : ∀ i, E.1 (i + 11) = E.2.1 + i) (j : Nat) : e_A E (E.1 (j + 11)) := by show E.2.1 ≤ _; rw [R]; omega
theorem a_gf {idx ci j q : Nat} {fs : List Value} {v : Value} (hd : fD y pc (.getfield idx) 3 pc2) (hf : fFL y.1.cls idx ci j) (hq : h q = .inr (ci, fs)) (hv : fs[j]? = some v) (kk : fA y E Z k h nc ns pc2 L (v :: st)) : fA y E Z k h nc ns pc L (.ref q :: st) := by
  intro p l e s m args below meth c H locs ls F R hS hl h1 h2
  obtain ⟨d, rfl⟩ := hd
  obtain ⟨C, T, N, hc, hj, hO, hw⟩ := hf
  obtain ⟨i, rfl, hi, hg⟩ := R.get hq (ne_dead_r hc)
  obtain ⟨w1, -, -⟩ := cl_facts ci C T N hc
  have hv2 : (fs.map (e_sh E))[j]? = some (e_sh E v) := by rw [List.getElem?_map, hv]; rfl
  rcases hw with hw | ⟨host, hw⟩
  · exact va_get (Ts := gw) F.1 F.2.1 F.2.2.2.2.2.1 w1 F.2.2.2.2.1 R.2.2.2.2.1 R.2.2.2.1 i hg hc j hj (F.w hw) (by rw [hO]; exact fun _ z => z) hv2 d (kk p l e s m args below meth c H locs ls F R hS hl h1 h2)
  · exact va_getN (Ts := gw) F.1 F.2.1 F.2.2.2.2.2.1 w1 F.2.2.2.2.1 R.2.2.2.2.1 R.2.2.2.1 i hg hc j hj (R.n hw) (by rw [hO]; exact fun _ z => z) hv2 d (kk p l e s m args below meth c H locs ls F R hS hl h1 h2)
theorem a_pf {idx ci j q : Nat} {fs : List Value} {v : Value} {ty : FieldType} (hd : fD y pc (.putfield idx) 3 pc2) (hf : fPL y.1.cls idx ci j ty) (hq : h q = .inr (ci, fs)) (hn : narrow ty (e_sh E v) = e_sh E v) (hv : fits ty (e_sh E v) = true) (hlen : j < fs.length) (kk : fA y E Z k (va_up h q (.inr (ci, fs.set j v))) nc ns pc2 L st) : fA y E Z k h nc ns pc L (v :: .ref q :: st) := by
  intro p l e s m args below meth c H locs ls F R hS hl h1 h2
  obtain ⟨d, rfl⟩ := hd
  obtain ⟨C, T, N, hc, hj, hO, hfin, hdesc, hw⟩ := hf
  obtain ⟨i, rfl, hi, hg⟩ := R.get hq (ne_dead_r hc)
  obtain ⟨w1, ⟨ty0, hty⟩, hnm⟩ := cl_facts ci C T N hc
  have hin : ∀ w ∈ u_ws C T N, w ∈ gw := w1
  have hD := e_D (k := k) (h := h) R.2.1
  have hap := va_apart (own := y.1.cls) F.2.2.2.2.2.1 hin ty0 hty hnm R.2.2.2.2.1 hc
  obtain ⟨r, g1, cell, q1, q2, q3, q4⟩ := R.2.2.2.1 i _ hg
  have hr : r = (C, T, N) := Option.some.inj (g1.symm.trans hc)
  subst hr
  obtain ⟨hSl, hfc, kC, hkC, hkind⟩ := R.2.2.2.2.1.1 ci _ hc
  obtain ⟨cf, kf, fi, f, hi9, hsl⟩ := hSl j hj
  have hlay := F.2.2.2.2.2.1 _ (hin _ (u_in_lay hj))
  unfold u_lay at hlay
  rw [if_neg (by rw [hfin]; decide)] at hlay
  have hst := (u_facts hfc hkC (u_lays F.2.2.2.2.2.1 hin hj) hi9).1
  have h6 := u_store hfc hkC hkind hlay hi9 hdesc hn hv
  rw [hO] at hi9
  have fin : ∀ H9 : Heap, H9[E.1 (i + 11)]? = some (cell.setSlot ((E.2.2.1).2 ci j) (e_sh E v)) → H9.size = H.size → (∀ q, q ≠ E.1 (i + 11) → H9[q]? = H[q]?) → W p l e y.2.2.2.2 s m args below meth c H9 (locs ++ [⟨E.1 (i + 11), (E.2.2.1).2 ci j⟩]) nc ns (Z below args s) (F0 m (pc + 3) ls (st.map (e_sh E))) := by
    intro H9 e1 e2 e3
    refine kk p l e s m args below meth c H9 _ ls F (R.set hi e2 ?_ (fun q hq9 => e3 q (fun z => ?_))) (hS.put e2 e3 (e_in R.2.1 i)) hl h1 h2
    · refine R.2.2.2.1.set hD hg (e := e_ce E (.inr (ci, fs.set j v))) ?_ e3
      refine ⟨_, hc, ?_⟩
      show t_OB _ _ _ _ _ (vp_V ((fs.set j v).map (e_sh E)))
      rw [List.map_set]
      exact t_OB.to (V := updV (vp_V (fs.map (e_sh E))) j (e_sh E v)) ⟨_, e1, q2, q3, t_set q4 hap hj (e_sh E v)⟩ (fun x _ => vp_updV_set (by simpa using hlen) (e_sh E v) x)
    · rw [z, R.2.1] at hq9
      omega
  rcases hw with hw | ⟨host, hw⟩
  · refine W.putK F.1 F.2.1 (f := f) ⟨F.2.2.2.2.1, F.w hw, ⟨_, _, _, hi9⟩, hst⟩ (by rw [q2]; exact h6) q1 q3 (by rw [hsl]; exact k2_hasslot (q4 j hj)) rfl rfl d fun H9 e1 e2 e3 => ?_
    rw [hsl] at e1 ⊢
    exact fin H9 e1 e2 e3
  · refine va_WputK F.1 F.2.1 (f := f) F.2.2.2.2.1 (R.n hw) hi9 hst (by rw [q2]; exact h6) q1 q3 (by rw [hsl]; exact k2_hasslot (q4 j hj)) rfl rfl d fun H9 e1 e2 e3 => ?_
    rw [hsl] at e1 ⊢
    exact fin H9 e1 e2 e3
theorem R_arr {U : State} {H : Heap} (R : fR E k h U H) {q : Nat} {a : Nat × vp_A} (hq : h q = .inl a) : ∃ i, q = i + 11 ∧ i < k ∧ (e_W E k h)[i]? = some (E.1 q, .inl (E.2.2.2.1 a.1, e_ar E a.2)) := R.get hq ne_dead_l
theorem a_iald {q n : Nat} {f : Nat → Int32} {i : Int32} (hd : fD y pc .iaload 1 pc2) (hq : h q = ia n f) (hi : vp_in i n) (kk : fA y E Z k h nc ns pc2 L (.int (f i.toNatClampNeg) :: st)) : fA y E Z k h nc ns pc L (.int i :: .ref q :: st) := by
  intro p l e s m args below meth c H locs ls F R hS hl h1 h2
  obtain ⟨d, rfl⟩ := hd
  obtain ⟨j, rfl, hj, hg⟩ := R_arr R hq
  exact va_iald (n := n) (f := f) F.1 F.2.1 R.2.2.2.2.1 R.2.2.2.1 j 0 hg rfl hi d (kk p l e s m args below meth c H locs ls F R hS hl h1 h2)
theorem a_zald {q n : Nat} {f : Nat → Int32} {i : Int32} (hd : fD y pc .baload 1 pc2) (hq : h q = za n f) (hi : vp_in i n) (kk : fA y E Z k h nc ns pc2 L (.int (f i.toNatClampNeg) :: st)) : fA y E Z k h nc ns pc L (.int i :: .ref q :: st) := by
  intro p l e s m args below meth c H locs ls F R hS hl h1 h2
  obtain ⟨d, rfl⟩ := hd
  obtain ⟨j, rfl, hj, hg⟩ := R_arr R hq
  exact va_zald (n := n) (f := f) F.1 F.2.1 R.2.2.2.2.1 R.2.2.2.1 j 1 hg rfl hi d (kk p l e s m args below meth c H locs ls F R hS hl h1 h2)
def rv (r : Option Nat) : Value := match r with
  | some a => .ref a
  | none => .null
theorem a_aald {q n : Nat} {f : Nat → Option Nat} {i : Int32} (hd : fD y pc .aaload 1 pc2) (hq : h q = ra n f) (hi : vp_in i n) (kk : fA y E Z k h nc ns pc2 L (rv (f i.toNatClampNeg) :: st)) : fA y E Z k h nc ns pc L (.int i :: .ref q :: st) := by
  intro p l e s m args below meth c H locs ls F R hS hl h1 h2
  obtain ⟨d, rfl⟩ := hd
  obtain ⟨j, rfl, hj, hg⟩ := R_arr R hq
  refine va_aldq (n := n) (f := fun x => (f x).map E.1) F.1 F.2.1 R.2.2.2.2.1 R.2.2.2.1 j 2 hg rfl hi d ?_
  have e9 : va_rf ((f i.toNatClampNeg).map E.1) = e_sh E (rv (f i.toNatClampNeg)) := by cases f i.toNatClampNeg <;> rfl
  show W p l e y.2.2.2.2 s m args below meth c H locs nc ns (Z below args s) (F0 m (pc + 1) ls (va_rf ((f i.toNatClampNeg).map E.1) :: st.map (e_sh E)))
  rw [e9]
  exact (kk p l e s m args below meth c H locs ls F R hS hl h1 h2)
theorem a_sld {i : Int32} (hd : fD y pc .iaload 1 pc2) (hi : vp_in i E.2.2.2.2.1) (kk : fA y E Z k h nc ns pc2 L (.int (E.2.2.2.2.2 i.toNatClampNeg) :: st)) : fA y E Z k h nc ns pc L (.int i :: .ref 0 :: st) := by
  intro p l e s m args below meth c H locs ls F R hS hl h1 h2
  obtain ⟨d, rfl⟩ := hd
  exact va_sld (A := e_A E) (H0 := H) F.1 F.2.1 R.2.2.2.2.2.1.1 (by rw [R.1]; have := R.2.2.2.2.2.1.2; omega) (Nat.not_le.mpr R.2.2.2.2.2.1.2) ⟨Nat.le_refl _, fun _ _ _ => rfl, hS.2.2⟩ hi d (kk p l e s m args below meth c H locs ls F R hS hl h1 h2)
theorem a_slen (hd : fD y pc .arraylength 1 pc2) (kk : fA y E Z k h nc ns pc2 L (.int (nI E.2.2.2.2.1) :: st)) : fA y E Z k h nc ns pc L (.ref 0 :: st) := by
  intro p l e s m args below meth c H locs ls F R hS hl h1 h2
  obtain ⟨d, rfl⟩ := hd
  exact va_slen (A := e_A E) (H0 := H) F.1 F.2.1 R.2.2.2.2.2.1.1 (by rw [R.1]; have := R.2.2.2.2.2.1.2; omega) (Nat.not_le.mpr R.2.2.2.2.2.1.2) ⟨Nat.le_refl _, fun _ _ _ => rfl, hS.2.2⟩ d (kk p l e s m args below meth c H locs ls F R hS hl h1 h2)
theorem a_iast {q n : Nat} {f : Nat → Int32} {i x : Int32} (hd : fD y pc .iastore 1 pc2) (hq : h q = ia n f) (hi : vp_in i n) (kk : fA y E Z k (va_up h q (ia n (upd f i.toNatClampNeg x))) nc ns pc2 L st) : fA y E Z k h nc ns pc L (.int x :: .int i :: .ref q :: st) := by
  intro p l e s m args below meth c H locs ls F R hS hl h1 h2
  obtain ⟨d, rfl⟩ := hd
  obtain ⟨j, rfl, hj, hg⟩ := R_arr R hq
  have hD := e_D (k := k) (h := h) R.2.1
  refine W.iast F.1 F.2.1 (R.2.2.2.1 j _ hg) ((R.2.2.2.2.1.2 0 _ rfl).1 n (fun j => .int (f j))) (fun q => by cases q) (by show ¬ (i < 0 ∨ (arrV _ _ _).slots.size ≤ _); rw [arrV_size]; exact hi) rfl rfl d fun H9 e1 e2 e3 => ?_
  refine kk p l e s m args below meth c H9 _ ls F (R.set hj e2 ?_ (fun q hq9 => e3 q (fun z => ?_))) (hS.put e2 e3 (e_in R.2.1 j)) hl h1 h2
  · refine R.2.2.2.1.set hD hg (e := e_ce E (ia n (upd f i.toNatClampNeg x))) ?_ e3
    show H9[_]? = some (vp_cell _ _)
    rw [e1]
    show some ((vp_cell _ (n, .inl f)).setSlot _ _) = some (vp_cell _ (n, .inl _))
    rw [vp_cell_i, vp_cell_i, arrV_store]
    congr 2
    funext q
    by_cases hq : q = i.toNatClampNeg
    · subst hq
      simp [updV, upd]
      try rfl
    · simp [updV, upd, hq]
  · rw [z, R.2.1] at hq9
    omega
theorem a_zast {q n : Nat} {f : Nat → Int32} {i x : Int32} (hd : fD y pc .bastore 1 pc2) (hq : h q = za n f) (hi : vp_in i n) (kk : fA y E Z k (va_up h q (za n (upd f i.toNatClampNeg (vp_nar .boolean x)))) nc ns pc2 L st) : fA y E Z k h nc ns pc L (.int x :: .int i :: .ref q :: st) := by
  intro p l e s m args below meth c H locs ls F R hS hl h1 h2
  obtain ⟨d, rfl⟩ := hd
  obtain ⟨j, rfl, hj, hg⟩ := R_arr R hq
  have hD := e_D (k := k) (h := h) R.2.1
  refine W.zast F.1 F.2.1 (R.2.2.2.1 j _ hg) ((R.2.2.2.2.1.2 1 _ rfl).1 n (fun j => .int (f j))) (fun q => by cases q) (by show ¬ (i < 0 ∨ (arrV _ _ _).slots.size ≤ _); rw [arrV_size]; exact hi) rfl rfl d fun H9 e1 e2 e3 => ?_
  refine kk p l e s m args below meth c H9 _ ls F (R.set hj e2 ?_ (fun q hq9 => e3 q (fun z => ?_))) (hS.put e2 e3 (e_in R.2.1 j)) hl h1 h2
  · refine R.2.2.2.1.set hD hg (e := e_ce E (za n (upd f i.toNatClampNeg (vp_nar .boolean x)))) ?_ e3
    show H9[_]? = some (vp_cell _ _)
    rw [e1]
    show some ((vp_cell _ (n, .inl f)).setSlot _ _) = some (vp_cell _ (n, .inl _))
    rw [vp_cell_i, vp_cell_i, arrV_store]
    congr 2
    funext q
    by_cases hq : q = i.toNatClampNeg
    · subst hq
      simp [updV, upd, vp_nar]
      try rfl
    · simp [updV, upd, hq]
  · rw [z, R.2.1] at hq9
    omega
end HP
end
section
section HQ
variable {y : mI} {E : eT} {Z : zT} {k : Nat} {h : hT} {nc ns pc pc2 tgt : Nat} {L L2 : lT} {st : List Value}
theorem a_pF {idx ci j q : Nat} {fs : List Value} {v : Value} {ty : FieldType} (hd : fD y pc (.putfield idx) 3 pc2) (hf : fPF y.1.cls idx ci j ty) (hnm9 : y.1.name = "<init>") (hq : h q = .inr (ci, fs)) (hn : narrow ty (e_sh E v) = e_sh E v) (hv : fits ty (e_sh E v) = true) (hlen : j < fs.length) (kk : fA y E Z k (va_up h q (.inr (ci, fs.set j v))) nc ns pc2 L st) : fA y E Z k h nc ns pc L (v :: .ref q :: st) := by
  intro p l e s m args below meth c H locs ls F R hS hl h1 h2
  obtain ⟨d, rfl⟩ := hd
  obtain ⟨C, T, N, hc, hj, hO, hown, hfin, hdesc, hw⟩ := hf
  obtain ⟨i, rfl, hi, hg⟩ := R.get hq (ne_dead_r hc)
  obtain ⟨w1, ⟨ty0, hty⟩, hnm⟩ := cl_facts ci C T N hc
  have hin : ∀ w ∈ u_ws C T N, w ∈ gw := w1
  have hD := e_D (k := k) (h := h) R.2.1
  have hap := va_apart (own := y.1.cls) F.2.2.2.2.2.1 hin ty0 hty hnm R.2.2.2.2.1 hc
  obtain ⟨r, g1, cell, q1, q2, q3, q4⟩ := R.2.2.2.1 i _ hg
  have hr : r = (C, T, N) := Option.some.inj (g1.symm.trans hc)
  subst hr
  obtain ⟨hSl, hfc, kC, hkC, hkind⟩ := R.2.2.2.2.1.1 ci _ hc
  obtain ⟨cf, kf, fi, f, hi9, hsl⟩ := hSl j hj
  have hlay := F.2.2.2.2.2.1 _ (hin _ (u_in_lay hj))
  unfold u_lay at hlay
  rw [if_pos hfin] at hlay
  have hst := (u_facts hfc hkC (u_lays F.2.2.2.2.2.1 hin hj) hi9).1
  have hcf : m.cls = cf := by
    obtain ⟨_, _, c9, _, _, _, -, -, hf9, -, -, -, hown2, -⟩ := Cond.laysFinal_spec hlay
    have e1 : c9 = cf := by have := hi9.symm.trans hf9; simp at this; exact this.1.symm
    rw [hO, hown] at hown2
    rw [← e1]; exact Option.some.inj (F.2.2.2.2.1.symm.trans hown2)
  have h6 := u_fits hfc hkC hkind (Or.inr hlay) hi9 hdesc hn hv
  rw [hO] at hi9
  have fin : ∀ H9 : Heap, H9[E.1 (i + 11)]? = some (cell.setSlot ((E.2.2.1).2 ci j) (e_sh E v)) → H9.size = H.size → (∀ q, q ≠ E.1 (i + 11) → H9[q]? = H[q]?) → W p l e y.2.2.2.2 s m args below meth c H9 (locs ++ [⟨E.1 (i + 11), (E.2.2.1).2 ci j⟩]) nc ns (Z below args s) (F0 m (pc + 3) ls (st.map (e_sh E))) := by
    intro H9 e1 e2 e3
    refine kk p l e s m args below meth c H9 _ ls F (R.set hi e2 ?_ (fun q hq9 => e3 q (fun z => ?_))) (hS.put e2 e3 (e_in R.2.1 i)) hl h1 h2
    · refine R.2.2.2.1.set hD hg (e := e_ce E (.inr (ci, fs.set j v))) ?_ e3
      refine ⟨_, hc, ?_⟩
      show t_OB _ _ _ _ _ (vp_V ((fs.set j v).map (e_sh E)))
      rw [List.map_set]
      exact t_OB.to (V := updV (vp_V (fs.map (e_sh E))) j (e_sh E v)) ⟨_, e1, q2, q3, t_set q4 hap hj (e_sh E v)⟩ (fun x _ => vp_updV_set (by simpa using hlen) (e_sh E v) x)
    · rw [z, R.2.1] at hq9
      omega
  refine W.putFinK F.1 F.2.1 F.2.2.2.2.1 (F.w hw) hi9 hst hcf (F.2.2.2.2.2.2.2.trans hnm9) (by rw [q2]; exact h6) q1 q3 (by rw [hsl]; exact k2_hasslot (q4 j hj)) rfl rfl d fun H9 e1 e2 e3 => ?_
  rw [hsl] at e1 ⊢
  exact fin H9 e1 e2 e3
theorem R_S {U s : State} {H H9 : Heap} {locs : List Loc} (R : fR E k h U H) (hS : va_S (e_A E) s.heap H locs) (z : H9.size = H.size + 1) (o : ∀ q, q < H.size → H9[q]? = H[q]?) : va_S (e_A E) s.heap H9 locs := ⟨Nat.le_trans hS.1 (by omega), fun x a b => (o x (Nat.lt_of_lt_of_le a hS.1)).trans (hS.2.1 x a b), hS.2.2⟩
theorem R_P {U : State} {H H9 : Heap} (R : fR E k h U H) (o : ∀ q, q < H.size → H9[q]? = H[q]?) : va_P E.2.2.1 cls (e_W E k h) H9 := R.2.2.2.1.kept (fun i x hx => o x.1 ((R.2.2.2.1 i x hx).lt))
theorem a_new {idx ci N : Nat} {fs : List Value} (hd : fD y pc (.new idx) 3 pc2) (hf : fNW y.1.cls idx ci fs N) (hc : nc + 1 ≤ y.2.2.2.2.cells) (hs : ns + N ≤ y.2.2.2.2.slots) (kk : fA y E Z (k + 1) (va_up h (k + 11) (.inr (ci, fs))) (nc + 1) (ns + N) pc2 L (.ref (k + 11) :: st)) : fA y E Z k h nc ns pc L st := by
  intro p l e s m args below meth c H locs ls F R hS hl h1 h2
  obtain ⟨d, rfl⟩ := hd
  obtain ⟨C, T, ty, hcl, w1, w2, w3, hty, hfs, hmap⟩ := hf
  obtain ⟨u1, -, -⟩ := cl_facts ci C T N hcl
  have hKn := R.2.2.2.2.1.1 ci _ hcl
  refine W.newcK F.1 F.2.1 F.2.2.2.2.1 (F.w w1) (F.w w2) (F.w w3) rfl d hc hs hKn.2.1 rfl fun H9 kC hkC e1 z1 o1 => ?_
  have ea : E.1 (k + 11) = H.size := by rw [R.2.1, R.1]
  have kk := kk p l e s m args below meth c H9 locs ls F (R.push z1 ((R_P R o1).app (fun i x hx => ?_)) o1) (R_S R hS z1 o1) hl hc hs
  · rw [show (Value.ref (k + 11) :: st).map (e_sh E) = Value.ref H.size :: st.map (e_sh E) by rw [← ea]; rfl] at kk
    exact kk
  · have hz : i < 1 := (List.getElem?_eq_some_iff.mp hx).1
    rw [show i = 0 by omega] at hx
    cases hx
    refine ⟨_, hcl, ?_⟩
    show t_OB (E.1 (k + 11)) _ _ _ _ (vp_V (fs.map (e_sh E)))
    rw [hmap, ea]
    exact (u_born ty F.2.2.2.2.2.1 u1 hKn hkC e1 hty).to hfs
theorem a_newi {n : Int32} {N : Nat} (hd : fD y pc (.newarray .int) 2 pc2) (hw : Cond.arrayClass .int ∈ gw) (hn : ¬ n < 0) (hN : n.toNatClampNeg = N) (hb : N ≤ 1000) (hc : nc + 1 ≤ y.2.2.2.2.cells) (hs : ns + N ≤ y.2.2.2.2.slots) (kk : fA y E Z (k + 1) (va_up h (k + 11) (ia N (fun _ => 0))) (nc + 1) (ns + N) pc2 L (.ref (k + 11) :: st)) : fA y E Z k h nc ns pc L (.int n :: st) := by
  intro p l e s m args below meth c H locs ls F R hS hl h1 h2
  obtain ⟨d, rfl⟩ := hd
  refine va_newaK (atype := .int) F.1 F.2.1 (F.w hw) rfl d rfl hn hN (by show N * 4 ≤ _; omega) hc hs rfl fun H9 cA e1 z1 o1 hAr hNm => ?_
  have ea : E.1 (k + 11) = H.size := by rw [R.2.1, R.1]
  have ec : cA = E.2.2.2.1 0 := Option.some.inj (hNm.symm.trans (R.2.2.2.2.1.2 0 _ rfl).2)
  have kk := kk p l e s m args below meth c H9 locs ls F (R.push z1 ((R_P R o1).app (fun i x hx => ?_)) o1) (R_S R hS z1 o1) hl hc hs
  · rw [show (Value.ref (k + 11) :: st).map (e_sh E) = Value.ref H.size :: st.map (e_sh E) by rw [← ea]; rfl] at kk
    exact kk
  · have hz : i < 1 := (List.getElem?_eq_some_iff.mp hx).1
    rw [show i = 0 by omega] at hx
    cases hx
    show H9[E.1 (k + 11)]? = some (vp_cell (E.2.2.2.1 0) (N, .inl (fun _ => 0)))
    rw [ea, e1, ec, vp_cell_i]
    rfl
theorem a_newz {n : Int32} {N : Nat} (hd : fD y pc (.newarray .boolean) 2 pc2) (hw : Cond.arrayClass .boolean ∈ gw) (hn : ¬ n < 0) (hN : n.toNatClampNeg = N) (hb : N ≤ 1000) (hc : nc + 1 ≤ y.2.2.2.2.cells) (hs : ns + N ≤ y.2.2.2.2.slots) (kk : fA y E Z (k + 1) (va_up h (k + 11) (za N (fun _ => 0))) (nc + 1) (ns + N) pc2 L (.ref (k + 11) :: st)) : fA y E Z k h nc ns pc L (.int n :: st) := by
  intro p l e s m args below meth c H locs ls F R hS hl h1 h2
  obtain ⟨d, rfl⟩ := hd
  refine va_newaK (atype := .boolean) F.1 F.2.1 (F.w hw) rfl d rfl hn hN (by show N * 1 ≤ _; omega) hc hs rfl fun H9 cA e1 z1 o1 hAr hNm => ?_
  have ea : E.1 (k + 11) = H.size := by rw [R.2.1, R.1]
  have ec : cA = E.2.2.2.1 1 := Option.some.inj (hNm.symm.trans (R.2.2.2.2.1.2 1 _ rfl).2)
  have kk := kk p l e s m args below meth c H9 locs ls F (R.push z1 ((R_P R o1).app (fun i x hx => ?_)) o1) (R_S R hS z1 o1) hl hc hs
  · rw [show (Value.ref (k + 11) :: st).map (e_sh E) = Value.ref H.size :: st.map (e_sh E) by rw [← ea]; rfl] at kk
    exact kk
  · have hz : i < 1 := (List.getElem?_eq_some_iff.mp hx).1
    rw [show i = 0 by omega] at hx
    cases hx
    show H9[E.1 (k + 11)]? = some (vp_cell (E.2.2.2.1 1) (N, .inl (fun _ => 0)))
    rw [ea, e1, ec, vp_cell_i]
    rfl
theorem a_newr {idx : Nat} {n : Int32} {N : Nat} (hd : fD y pc (.anewarray idx) 3 pc2) (hw : Cond.classLink y.1.cls idx "FigureLeave$House" ∈ gw) (hn : ¬ n < 0) (hN : n.toNatClampNeg = N) (hb : N ≤ 1000) (hc : nc + 1 ≤ y.2.2.2.2.cells) (hs : ns + N ≤ y.2.2.2.2.slots) (kk : fA y E Z (k + 1) (va_up h (k + 11) (ra N (fun _ => none))) (nc + 1) (ns + N) pc2 L (.ref (k + 11) :: st)) : fA y E Z k h nc ns pc L (.int n :: st) := by
  intro p l e s m args below meth c H locs ls F R hS hl h1 h2
  obtain ⟨d, rfl⟩ := hd
  subst hN
  refine W.anew F.1 F.2.1 F.2.2.2.2.1 (F.w hw) (va_AO.use R.2.2.2.2.2.2.2.2.2.2.2.2.1) rfl d rfl hn (by omega) hc hs fun cA kA comp f1 f2 f3 f4 => ?_
  generalize hH1 : H.push ({ cls := cA, slots := Array.replicate n.toNatClampNeg .null, vm := .none } : Cell) = H9
  have z1 : H9.size = H.size + 1 := by rw [← hH1, Array.size_push]
  have e1 : H9[H.size]? = some (arrV cA n.toNatClampNeg (fun _ => .null)) := by rw [← hH1, Array.getElem?_push_size, ← arrV_new]
  have o1 : ∀ q : Nat, q < H.size → H9[q]? = H[q]? := fun q hq => by rw [← hH1, Array.getElem?_push, if_neg (Nat.ne_of_lt hq)]
  have ea : E.1 (k + 11) = H.size := by rw [R.2.1, R.1]
  obtain ⟨kA2, comp2, g1, g2, g3, g4⟩ := (R.2.2.2.2.1.2 2 _ rfl).2
  have ec : cA = E.2.2.2.1 2 := Option.some.inj (f1.symm.trans g4)
  have kk := kk p l e s m args below meth c H9 locs ls F (R.push z1 ((R_P R o1).app (fun i x hx => ?_)) o1) (R_S R hS z1 o1) hl hc hs
  · rw [show (Value.ref (k + 11) :: st).map (e_sh E) = Value.ref H.size :: st.map (e_sh E) by rw [← ea]; rfl] at kk
    exact kk
  · have hz : i < 1 := (List.getElem?_eq_some_iff.mp hx).1
    rw [show i = 0 by omega] at hx
    cases hx
    show H9[E.1 (k + 11)]? = some (vp_cell (E.2.2.2.1 2) (n.toNatClampNeg, .inr (.inr (.inr (.inr (fun _ => none))))))
    rw [ea, e1, ec, vp_cell_q]
    rfl
theorem a_aast {q n v ci : Nat} {fs : List Value} {f : Nat → Option Nat} {T : u_T} {N : Nat} {i : Int32} (hd : fD y pc .aastore 1 pc2) (hq : h q = ra n f) (hv : h v = .inr (ci, fs)) (hcl : cls[ci]? = some ("FigureLeave$House", T, N)) (hi : vp_in i n) (kk : fA y E Z k (va_up h q (ra n (va_up f i.toNatClampNeg (some v)))) nc ns pc2 L st) : fA y E Z k h nc ns pc L (.ref v :: .int i :: .ref q :: st) := by
  intro p l e s m args below meth c H locs ls F R hS hl h1 h2
  obtain ⟨d, rfl⟩ := hd
  obtain ⟨j, rfl, hj, hg⟩ := R_arr R hq
  obtain ⟨j2, rfl, hj2, hg2⟩ := R.get hv (ne_dead_r hcl)
  have hD := e_D (k := k) (h := h) R.2.1
  have hlt : i.toNatClampNeg < n := Nat.not_le.mp fun q => hi (Or.inr q)
  have h0 : ¬ i < 0 := fun q => hi (Or.inl q)
  obtain ⟨r9, hr9, cellV, g1, g2, g3, -⟩ := R.2.2.2.1 j2 _ hg2
  have hcls := (R.2.2.2.2.1.1 ci _ hcl).2
  obtain ⟨kA, comp, k1, k2, k3, -⟩ := (R.2.2.2.2.1.2 2 _ rfl).2
  have hcomp : comp = E.2.2.1.1 ci := Option.some.inj (k3.symm.trans hcls.1)
  subst hcomp
  obtain ⟨kC, hkC, -⟩ := hcls.2
  refine W.aast F.1 F.2.1 (R.2.2.2.1 j _ hg) (fun q h => by cases h) (fun h => by cases h) k1 k2 rfl hkC ⟨h0, by show _ < (arrV _ _ _).slots.size; rw [arrV_size]; exact hlt⟩ g1 (fun q h => by rw [g3] at h; cases h) (by rw [g2]; exact hkC) (by rw [g2]; exact va_assign hcls) rfl rfl d fun H9 e1 e2 e3 => ?_
  refine kk p l e s m args below meth c H9 _ ls F (R.set hj e2 ?_ (fun q hq9 => e3 q (fun z => ?_))) (hS.put e2 e3 (e_in R.2.1 j)) hl h1 h2
  · refine R.2.2.2.1.set hD hg (e := e_ce E (ra n (va_up f i.toNatClampNeg (some (j2 + 11))))) ?_ e3
    show H9[_]? = some (vp_cell _ _)
    rw [e1]
    show some ((vp_cell _ (n, .inr (.inr (.inr (.inr (fun x => (f x).map E.1)))))).setSlot _ _) = some (vp_cell _ (n, .inr (.inr (.inr (.inr (fun x => (va_up f i.toNatClampNeg (some (j2 + 11)) x).map E.1))))))
    rw [vp_cell_q, vp_cell_q, arrV_store]
    congr 2
    funext q
    by_cases hq : q = i.toNatClampNeg
    · subst hq
      simp [updV, va_up, va_rf]
    · simp [updV, va_up, hq]
  · rw [z, R.2.1] at hq9
    omega
/-- System.arraycopy of ints -/
theorem a_copy {idx q0 q1 n0 n1 : Nat} {f g : Nat → Int32} {sp dp n : Int32} (hd : fD y pc (.invokestatic idx) 3 pc2) (w1 : Cond.methodLink y.1.cls idx arraycopyName ∈ gw) (w2 : Cond.native arraycopyName ∈ gw) (w3 : Cond.static arraycopyName ∈ gw) (w4 : Cond.initialized "java/lang/System" ∈ gw) (hq0 : h q0 = ia n0 f) (hq1 : h q1 = ia n1 g)
    (g1 : ¬ sp < 0) (g2 : ¬ dp < 0) (g3 : ¬ n < 0) (g4 : sp.toNatClampNeg + n.toNatClampNeg ≤ n0) (g5 : dp.toNatClampNeg + n.toNatClampNeg ≤ n1) (hfr : 1 ≤ y.2.2.2.2.frames) (hlo : (st.map fun v => v.category).sum + (nativeFrameWords "java/lang/System" "arraycopy" 5 + 11) ≤ y.2.2.2.2.locals)
    (kk : fA y E Z k (va_up h q1 (ia n1 (va_cpy f g sp.toNatClampNeg dp.toNatClampNeg n.toNatClampNeg))) nc ns pc2 L st) : fA y E Z k h nc ns pc L (.int n :: .int dp :: .ref q1 :: .int sp :: .ref q0 :: st) := by
  intro p l e s m args below meth c H locs ls F R hS hl h1 h2
  obtain ⟨d, rfl⟩ := hd
  obtain ⟨j0, rfl, hj0, hg0⟩ := R_arr R hq0
  obtain ⟨j1, rfl, hj1, hg1⟩ := R_arr R hq1
  have hD := e_D (k := k) (h := h) R.2.1
  have nn : ∀ z : Int32, ¬ z < 0 → z.toInt = (z.toNatClampNeg : Int) := by
    intro z hz
    have hz0 : (0 : Int) ≤ z.toInt := by
      have := Int32.not_lt.mp hz
      simpa using Int32.le_iff_toInt_le.mp this
    show z.toInt = ((z.toInt.toNat : Nat) : Int)
    omega
  have hcat : ((st.map (e_sh E)).map fun v => v.category).sum = (st.map fun v => v.category).sum := by
    rw [List.map_map]; congr 1; apply List.map_congr_left; intro v _; exact e_sh_cat E v
  intro T hT X
  have hc0 : H[E.1 (j0 + 11)]? = some (vp_cell (E.2.2.2.1 0) (n0, .inl f)) := R.2.2.2.1 j0 _ hg0
  have hc1 : H[E.1 (j1 + 11)]? = some (vp_cell (E.2.2.2.1 0) (n1, .inl g)) := R.2.2.2.1 j1 _ hg1
  obtain ⟨-, k0, hk0, cm0, hkk0⟩ := (R.2.2.2.2.1.2 0 _ rfl).1 n0 (fun j => .int (f j))
  obtain ⟨-, k1, hk1, cm1, hkk1⟩ := (R.2.2.2.2.1.2 0 _ rfl).1 n1 (fun j => .int (g j))
  obtain ⟨vm9, X9, step⟩ := X.arraycopy F.1 F.2.2.2.2.1 (F.w w1) (F.w w2) (F.w w3) (F.w w4) (src := E.1 (j0 + 11)) (dst := E.1 (j1 + 11)) (cs := vp_cell (E.2.2.2.1 0) (n0, .inl f)) (cd := vp_cell (E.2.2.2.1 0) (n1, .inl g)) (srcPos := sp) (destPos := dp) (n := n) (by rw [hT]; exact hc0) (by rw [hT]; exact hc1)
    (fun _ h => by cases h) (fun _ h => by cases h) (fun h => by cases h) (fun h => by cases h) hk0 hk1 hkk0 hkk1 (by simp [refKind]) g1 g2 g3
    (by rw [nn sp g1, nn n g3]; show ¬ _ > ((arrV (E.2.2.2.1 0) n0 (fun j => .int (f j))).slots.size : Int); rw [arrV_size]; omega)
    (by rw [nn dp g2, nn n g3]; show ¬ _ > ((arrV (E.2.2.2.1 0) n1 (fun j => .int (g j))).slots.size : Int); rw [arrV_size]; omega)
    (fun vm₁ _ i hi => by
      have e : (vp_cell (E.2.2.2.1 0) (n0, .inl f)).slots.getD (sp.toNatClampNeg + i) .null = .int (f (sp.toNatClampNeg + i)) := by
        show (arrV (E.2.2.2.1 0) n0 (fun j => .int (f j))).slots.getD _ _ = _
        rw [Array.getD_eq_getD_getElem?, arrV_read _ _ (by omega)]
        rfl
      refine ⟨?_, ?_⟩
      · rw [e]
        rfl
      · rw [e]
        exact trivial)
    (g := F0 m pc ls (.int n :: .int dp :: .ref (E.1 (j1 + 11)) :: .int sp :: .ref (E.1 (j0 + 11)) :: st.map (e_sh E))) rfl (by rw [F.2.2.2.1]; exact hl.1) (rest := st.map (e_sh E)) rfl (by rw [F.2.1]; exact d) hfr (by show 2 * 0 + _ + _ ≤ _; rw [hcat]; omega)
  have e1 : copied (vp_cell (E.2.2.2.1 0) (n0, .inl f)) (vp_cell (E.2.2.2.1 0) (n1, .inl g)) sp dp n = vp_cell (E.2.2.2.1 0) (n1, .inl (va_cpy f g sp.toNatClampNeg dp.toNatClampNeg n.toNatClampNeg)) := va_copied (fun z => .int z) _ _ f g g4
  rw [e1] at X9 step
  have hlt : E.1 (j1 + 11) < H.size := (Array.getElem?_eq_some_iff.mp hc1).1
  have hheap : ((T.setVm vm9).setCell (E.1 (j1 + 11)) (vp_cell (E.2.2.2.1 0) (n1, .inl (va_cpy f g sp.toNatClampNeg dp.toNatClampNeg n.toNatClampNeg)))).heap = H.setIfInBounds (E.1 (j1 + 11)) (vp_cell (E.2.2.2.1 0) (n1, .inl (va_cpy f g sp.toNatClampNeg dp.toNatClampNeg n.toNatClampNeg))) := by rw [← hT]; rfl
  have oq : ∀ q : Nat, q ≠ E.1 (j1 + 11) → (H.setIfInBounds (E.1 (j1 + 11)) (vp_cell (E.2.2.2.1 0) (n1, .inl (va_cpy f g sp.toNatClampNeg dp.toNatClampNeg n.toNatClampNeg))))[q]? = H[q]? := fun q hq => by simp [Array.getElem?_setIfInBounds, Ne.symm hq]
  obtain ⟨t, a1, b1⟩ := kk p l e s m args below meth c _ _ ls F (R.set hj1 (c := ia n1 (va_cpy f g sp.toNatClampNeg dp.toNatClampNeg n.toNatClampNeg)) (by simp) (R.2.2.2.1.set hD hg1 (show (H.setIfInBounds (E.1 (j1 + 11)) _)[E.1 (j1 + 11)]? = some _ by simp [Array.getElem?_setIfInBounds, hlt]; rfl) oq) (fun q hq9 => oq q (fun z => by rw [z, R.2.1] at hq9; omega))) ⟨by simp; exact hS.1, fun q x1 x2 => by
      rw [oq q (fun e => x2 (by rw [e]; exact e_in R.2.1 j1))]
      exact hS.2.1 q x1 x2, fun q hq => by
      rcases List.mem_append.mp hq with h | h
      · exact hS.2.2 q h
      · obtain ⟨z, -, hz⟩ := List.mem_map.mp h
        rw [← hz]
        exact e_in R.2.1 j1⟩ hl h1 h2 _ hheap X9
  exact ⟨t, step t a1, b1⟩
theorem a_mmax {idx : Nat} {x z : Int32} (hd : fD y pc (.invokestatic idx) 3 pc2) (w1 : Cond.methodLink y.1.cls idx Lib.Math.max.name ∈ gw) (w2 : Cond.static Lib.Math.max.name ∈ gw) (w3 : Cond.initialized "java/lang/Math" ∈ gw) (w4 : Cond.code Lib.Math.max.name Lib.Math.max.code 2 (some .int) ∈ gw) (hfr : 1 ≤ y.2.2.2.2.frames) (hlo : (st.map fun v => v.category).sum + 13 ≤ y.2.2.2.2.locals) (kk : fA y E Z k h nc ns pc2 L (.int (if x < z then z else x) :: st)) : fA y E Z k h nc ns pc L (.int z :: .int x :: st) := by
  intro p l e s m args below meth c H locs ls F R hS hl h1 h2
  obtain ⟨d, rfl⟩ := hd
  have hcat : ((st.map (e_sh E)).map fun v => v.category).sum = (st.map fun v => v.category).sum := by
    rw [List.map_map]; congr 1; apply List.map_congr_left; intro v _; exact e_sh_cat E v
  exact va_mmax F.1 F.2.1 (F.2.2.2.1.trans hl.1.symm) F.2.2.2.2.1 (F.w w1) (F.w w2) (F.w w3) (F.w w4) hfr (by rw [hcat]; exact hlo) h1 h2 d (kk p l e s m args below meth c H locs ls F R hS hl h1 h2)
theorem a_mmin {idx : Nat} {x z : Int32} (hd : fD y pc (.invokestatic idx) 3 pc2) (w1 : Cond.methodLink y.1.cls idx Lib.Math.min.name ∈ gw) (w2 : Cond.static Lib.Math.min.name ∈ gw) (w3 : Cond.initialized "java/lang/Math" ∈ gw) (w4 : Cond.code Lib.Math.min.name Lib.Math.min.code 2 (some .int) ∈ gw) (hfr : 1 ≤ y.2.2.2.2.frames) (hlo : (st.map fun v => v.category).sum + 13 ≤ y.2.2.2.2.locals) (kk : fA y E Z k h nc ns pc2 L (.int (if z < x then z else x) :: st)) : fA y E Z k h nc ns pc L (.int z :: .int x :: st) := by
  intro p l e s m args below meth c H locs ls F R hS hl h1 h2
  obtain ⟨d, rfl⟩ := hd
  have hcat : ((st.map (e_sh E)).map fun v => v.category).sum = (st.map fun v => v.category).sum := by
    rw [List.map_map]; congr 1; apply List.map_congr_left; intro v _; exact e_sh_cat E v
  exact va_mmin F.1 F.2.1 (F.2.2.2.1.trans hl.1.symm) F.2.2.2.2.1 (F.w w1) (F.w w2) (F.w w3) (F.w w4) hfr (by rw [hcat]; exact hlo) h1 h2 d (kk p l e s m args below meth c H locs ls F R hS hl h1 h2)
theorem a_mabs {idx : Nat} {x : Int32} (hd : fD y pc (.invokestatic idx) 3 pc2) (w1 : Cond.methodLink y.1.cls idx Lib.Math.abs.name ∈ gw) (w2 : Cond.static Lib.Math.abs.name ∈ gw) (w3 : Cond.initialized "java/lang/Math" ∈ gw) (w4 : Cond.code Lib.Math.abs.name Lib.Math.abs.code 1 (some .int) ∈ gw) (hfr : 1 ≤ y.2.2.2.2.frames) (hlo : (st.map fun v => v.category).sum + 13 ≤ y.2.2.2.2.locals) (kk : fA y E Z k h nc ns pc2 L (.int (if 0 ≤ x then x else 0 - x) :: st)) : fA y E Z k h nc ns pc L (.int x :: st) := by
  intro p l e s m args below meth c H locs ls F R hS hl h1 h2
  obtain ⟨d, rfl⟩ := hd
  have hcat : ((st.map (e_sh E)).map fun v => v.category).sum = (st.map fun v => v.category).sum := by
    rw [List.map_map]; congr 1; apply List.map_congr_left; intro v _; exact e_sh_cat E v
  exact va_mabs F.1 F.2.1 (F.2.2.2.1.trans hl.1.symm) F.2.2.2.2.1 (F.w w1) (F.w w2) (F.w w3) (F.w w4) hfr (by rw [hcat]; exact hlo) h1 h2 d (kk p l e s m args below meth c H locs ls F R hS hl h1 h2)
theorem a_oi {idx q : Nat} (hd : fD y pc (.invokespecial idx) 3 pc2) (w1 : Cond.methodLink y.1.cls idx objectInit ∈ gw) (w2 : Cond.instanceMethod objectInit ∈ gw) (w3 : Cond.code objectInit ⟨#[0xb1]⟩ 1 none ∈ gw) (hfr : 1 ≤ y.2.2.2.2.frames) (hlo : (st.map fun v => v.category).sum + 12 ≤ y.2.2.2.2.locals) (kk : fA y E Z k h nc ns pc2 L st) : fA y E Z k h nc ns pc L (.ref q :: st) := by
  intro p l e s m args below meth c H locs ls F R hS hl h1 h2
  obtain ⟨d, rfl⟩ := hd
  have hcat : ((st.map (e_sh E)).map fun v => v.category).sum = (st.map fun v => v.category).sum := by
    rw [List.map_map]; congr 1; apply List.map_congr_left; intro v _; exact e_sh_cat E v
  exact W.objInit F.1 F.2.1 F.2.2.2.2.1 (F.w w1) (F.w w2) (F.w w3) rfl (by rw [F.2.2.2.1]; exact hl.1) rfl d hfr (by show 2 * 0 + _ + _ ≤ _; rw [hcat]; omega) (kk p l e s m args below meth c H locs ls F R hS hl h1 h2)
variable {Q : Option Value → Nat → hT → Prop}
theorem a_ri {v : Int32} (hd : fD y pc .ireturn 1 pc2) (hr : y.2.2.2.1 = some .int) (hq : Q (some (.int v)) k h) : fA y E (fZ y E Q) k h nc ns pc L [.int v] := by
  intro p l e s m args below meth c H locs ls F R hS hl h1 h2
  refine W.widen h1 h2 ?_
  exact W.iret F.1 F.2.1 (F.2.2.1.trans hr) (fun t ht hW => ⟨⟨some (.int v), k, h, rfl, hq, by rw [ht]; exact R.warm hW⟩, hS.F ht⟩) hS.2.2 hd.1 F.2.2.2.2.2.2.1
theorem a_rz {v : Int32} {ty : FieldType} (hd : fD y pc .ireturn 1 pc2) (hr : y.2.2.2.1 = some ty) (hn : narrow ty (.int v) = .int v) (hq : Q (some (.int v)) k h) : fA y E (fZ y E Q) k h nc ns pc L [.int v] := by
  intro p l e s m args below meth c H locs ls F R hS hl h1 h2
  refine W.widen h1 h2 ?_
  exact W.zret F.1 F.2.1 (F.2.2.1.trans hr) hn (fun t ht hW => ⟨⟨some (.int v), k, h, rfl, hq, by rw [ht]; exact R.warm hW⟩, hS.F ht⟩) hS.2.2 hd.1 F.2.2.2.2.2.2.1
theorem a_rl {v : Int64} (hd : fD y pc .lreturn 1 pc2) (hr : y.2.2.2.1 = some .long) (hq : Q (some (.long v)) k h) : fA y E (fZ y E Q) k h nc ns pc L [.long v] := by
  intro p l e s m args below meth c H locs ls F R hS hl h1 h2
  refine W.widen h1 h2 ?_
  exact W.lret F.1 F.2.1 (F.2.2.1.trans hr) (fun t ht hW => ⟨⟨some (.long v), k, h, rfl, hq, by rw [ht]; exact R.warm hW⟩, hS.F ht⟩) hS.2.2 hd.1 F.2.2.2.2.2.2.1
theorem a_rv (hd : fD y pc .return_ 1 pc2) (hr : y.2.2.2.1 = none) (hq : Q none k h) : fA y E (fZ y E Q) k h nc ns pc L [] := by
  intro p l e s m args below meth c H locs ls F R hS hl h1 h2
  refine W.widen h1 h2 ?_
  exact W.vret F.1 F.2.1 (F.2.2.1.trans hr) (fun t ht hW => ⟨⟨none, k, h, rfl, hq, by rw [ht]; exact R.warm hW⟩, hS.F ht⟩) hS.2.2 hd.1 F.2.2.2.2.2.2.1
/-- a method's contract out of its walk -/
theorem fE.of {As : List Value} (hp : plainName y.1.cls = true) (hn : (lg_sl As).length ≤ y.2.2.1) (hL : lv_args 0 As = e_lv (id, E.2) 0 L) (kk : fA y E (fZ y E Q) k h 0 0 0 L []) : fE y E As k h Q := by
  intro l
  refine Met.ofW (cc := y.2.1) (maxL := y.2.2.1) (ret := y.2.2.2.1) hp rfl ?_
  intro p e s m args below meth c s₁ B hml hv
  obtain ⟨rfl, R⟩ := hv
  have hts : ∀ w ∈ gw, w.before (As.map (e_sh E)).toArray s = true := fun w hw => atoms_spec (ws := mI_ws y) B.pre w (List.mem_cons_of_mem _ hw)
  have hown : s.vm.findClass y.1.cls = some m.cls := findClass_of_methodNamed B.named
  have hin : meth.name = y.1.name := (name_of_methodNamed B.named B.method).1
  have hsl : ∀ As : List Value, (lg_sl (As.map (e_sh E))).length = (lg_sl As).length := by
    intro As
    induction As with
    | nil => rfl
    | cons v t ih => simp only [lg_sl, List.map_cons, List.flatMap_cons, List.length_append, e_sh_cat] at ih ⊢; split <;> simp_all
  have hA : ∀ (As : List Value) (i : Nat) , lv_args i (As.map (e_sh E)) = (lv_args i As).map (fun q => (q.1, e_sh E q.2)) := by
    intro As
    induction As with
    | nil => intro i; rfl
    | cons v t ih => intro i; simp only [List.map_cons, lv_args, e_sh_cat, ih]
  have hB : ∀ (L : lT) (i : Nat), (e_lv (id, E.2) i L).map (fun q => (q.1, e_sh E q.2)) = e_lv E i L := by
    intro L
    induction L with
    | nil => intro i; rfl
    | cons x t ih =>
      intro i
      cases x with
      | none => exact ih (i + 1)
      | some v =>
        simp only [e_lv, List.map_cons, ih]
        congr 2
        cases v <;> rfl
  have hl := lv_entry (As.map (e_sh E)) (n := y.2.2.1) (by rw [hsl]; exact hn)
  rw [lg_entry_eq]
  rw [hA As 0, hL, hB] at hl
  exact kk p l e s m _ below meth c s.heap [] _ ⟨B.exec, B.bytes, B.returns, hml, hown, hts, B.notSynchronized, hin⟩ R va_S.rf hl (Nat.zero_le _) (Nat.zero_le _)
theorem fE.mono {As : List Value} {Q2 : Option Value → Nat → hT → Prop} (hE : fE y E As k h Q) (hq : ∀ r k1 h1, Q r k1 h1 → Q2 r k1 h1) : fE y E As k h Q2 := by
  intro l p e ha hc hk s m args below hf happ hP hT
  obtain ⟨n, o, a1, a2, a3, ⟨⟨⟨r, k1, h1, b1, b2, b3⟩, b4⟩, b5⟩⟩ := hE l p e ha hc hk s m args below hf happ hP hT
  exact ⟨n, o, a1, a2, a3, ⟨⟨⟨r, k1, h1, b1, hq r k1 h1 b2, b3⟩, b4⟩, b5⟩⟩
end HQ
end
section
/-! calls -/
def fML (own : String) (idx : Nat) (z : mI) : Prop := Cond.methodLink own idx z.1 ∈ gw ∨ ∃ host, Cond.methodLinkNest own idx z.1 host ∈ nw
def fMC (z : mI) (n : Nat) : Prop := Cond.code z.1 z.2.1 z.2.2.1 z.2.2.2.1 ∈ gw ∧ Cond.initialized z.1.cls ∈ gw ∧ z.1.cls ≠ "java/lang/invoke/MethodHandle" ∧ z.1.cls ≠ "java/lang/invoke/VarHandle" ∧ (parseMethodDescriptor z.1.desc).map (fun d => d.parameters.length) = some n
def fMS (z : mI) (n : Nat) : Prop := Cond.static z.1 ∈ gw ∧ fMC z n
def fMV (z : mI) (n : Nat) : Prop := (Cond.instanceMethod z.1 ∈ gw ∧ Cond.selects z.1.cls z.1 z.1 ∈ gw) ∧ fMC z n
def fMN (z : mI) (n : Nat) : Prop := (z.1.name = "<init>" ∧ Cond.instanceMethod z.1 ∈ gw ∧ z.2.2.2.1 = none) ∧ fMC z n
def fRm (y z : mI) : Prop := z.2.2.2.2.frames + 1 ≤ y.2.2.2.2.frames ∧ 8 + (z.2.2.1 + 11) + z.2.2.2.2.locals ≤ y.2.2.2.2.locals
section CL
variable {y : mI} {E : eT} {Z : zT} {k : Nat} {h : hT} {nc ns pc pc2 tgt : Nat} {L L2 : lT} {st : List Value}
variable {Q : Option Value → Nat → hT → Prop} {z : mI} {n idx : Nat} {As : List Value}
theorem g_in (h : fMC z n) : GoodIn gw (mI_ws z) := fun w hw => by
  rcases List.mem_cons.mp hw with e | hw
  · subst e
    exact ⟨h.1, gw_good h.1⟩
  · exact ⟨hw, gw_good hw⟩
theorem g_cat (st : List Value) : ((st.map (e_sh E)).map fun v => v.category).sum = (st.map fun v => v.category).sum := by
  rw [List.map_map]; congr 1; apply List.map_congr_left; intro v _; exact e_sh_cat E v
theorem a_run {p : Program} {l : Launch} {e : Env} {RR : Room} {s : State} {m : MethodId} {args : Array Value} {below : List Frame} {meth : Method} {c : Code} {H : Heap} {locs : List Loc} {cells slots mc ms : Nat} {QQ : State → Prop} {ls : Array Slot} {st0 rest : List Value} {a : Array Value} (R : fR E k h s H) (hr : va_Run p l e RR s m args below meth c H locs cells slots mc ms (F0 m pc ls st0) rest (fQ E Q a) (e_A E)) (hS : va_S (e_A E) s.heap H locs)
    (kk : ∀ (r : Option Value) (k1 : Nat) (h1 : hT) (H1 : Heap) (locs1 : List Loc), Q r k1 h1 → fR E k1 h1 s H1 → va_S (e_A E) s.heap H1 locs1 → W p l e RR s m args below meth c H1 locs1 (cells + mc) (slots + ms) QQ (F0 m (pc + 3) ls ((r.map (e_sh E)).toList ++ rest))) : W p l e RR s m args below meth c H locs cells slots QQ (F0 m pc ls st0) := by
  intro T hT X
  obtain ⟨v, st₀, t, T1, Lc, h0, X1, hL, e1, e2, ⟨⟨r, k1, h1, hv, hq, R1⟩, hz, hk⟩, st⟩ := hr T hT X
  cases hv
  rw [h0] at hz hk
  have hlow : ∀ q, q < E.2.1 → T1.heap[q]? = H[q]? := fun q hq => by rw [e1]; exact hk q (by rw [R.1]; omega) (Nat.not_le.mpr hq)
  obtain ⟨t2, a1, b1⟩ := kk r k1 h1 T1.heap (locs ++ Lc) hq ⟨by rw [e1]; exact R1.1, R.2.1, R1.2.2.1, by rw [e1]; exact R1.2.2.2.1, R.2.2.2.2.1, R.2.2.2.2.2.kept (by rw [R.1]; omega) hlow⟩
    ⟨Nat.le_trans hS.1 (by rw [e1]; exact hz), fun q x1 x2 => by rw [e1, hk q (Nat.lt_of_lt_of_le x1 hS.1) x2]; exact hS.2.1 q x1 x2, fun q hq => by
      rcases List.mem_append.mp hq with h | h
      · exact hS.2.2 q h
      · exact hL q h⟩ T1 rfl X1
  exact ⟨t2, st t2 a1, b1⟩
theorem g_pre {s : State} {H : Heap} (R : fR E k h s H) : PreS s H (va_Pc (As.map (e_sh E)) (fun U => fR E k h U U.heap)) (As.map (e_sh E)) :=
  ⟨fun _ U _ _ q => ⟨q.1, fR.same (u := U) q.2 rfl⟩, fun U hU hW => ⟨rfl, by show fR E k h U U.heap; rw [hU]; exact R.warm hW⟩⟩
theorem a_cS0 (hd : fD y pc (.invokestatic idx) 3 pc2) (hl9 : fML y.1.cls idx z) (hm : fMS z n) (hrm : fRm y z) (hn : As.length = n) (hw : (st.map fun v => v.category).sum ≤ 8) (hc : nc + z.2.2.2.2.cells ≤ y.2.2.2.2.cells) (hs : ns + z.2.2.2.2.slots ≤ y.2.2.2.2.slots) (hE : fE z E As k h Q)
    (kk : ∀ r k1 h1, Q r k1 h1 → fA y E Z k1 h1 (nc + z.2.2.2.2.cells) (ns + z.2.2.2.2.slots) pc2 L (r.toList ++ st)) {sk : List Value} (hsk : sk = As.reverse ++ st) : fA y E Z k h nc ns pc L sk := by
  intro p l e s m args below meth c H locs ls F R hS hl h1 h2
  subst hsk
  obtain ⟨d, rfl⟩ := hd
  obtain ⟨hm1, hm2⟩ := hm
  have hsk2 : (As.reverse ++ st).map (e_sh E) = (As.map (e_sh E)).reverse ++ st.map (e_sh E) := by rw [List.map_append, List.map_reverse]
  rcases hl9 with hl9 | ⟨host, hl9⟩
  · refine a_run R (Q := Q) (rest := st.map (e_sh E)) (va_runS (As := As.map (e_sh E)) (Ts := gw) ⟨F.1, F.2.1, F.2.2.2.1, F.2.2.2.2.1, F.2.2.2.2.2.1⟩ (hE l) ⟨callB_of n F.2.2.2.2.2.1 (g_in hm2) rfl rfl rfl (F.w hm2.2.1) (F.w hl9) hm2.2.2 hrm, F.w hm1⟩ (g_pre R) rfl (by rw [List.length_map]; exact hn) hl.1 hsk2 (lv_room (by rw [g_cat]; exact hw)) d ⟨hc, hs⟩) hS (fun r k1 h9 H1 locs1 q R1 hS1 => ?_)
    have kk := kk r k1 h9 q p l e s m args below meth c H1 locs1 ls F R1 hS1 hl hc hs
    rw [List.map_append] at kk
    rw [show (r.map (e_sh E)).toList = r.toList.map (e_sh E) by cases r <;> rfl]
    exact kk
  · refine a_run R (Q := Q) (rest := st.map (e_sh E)) (va_runSN (As := As.map (e_sh E)) (Ts := gw) ⟨F.1, F.2.1, F.2.2.2.1, F.2.2.2.2.1, F.2.2.2.2.2.1⟩ (hE l) ⟨va_cnB n F.2.2.2.2.2.1 (g_in hm2) rfl rfl rfl (R.2.2.2.2.2.2.2.2.2.2.2.2.2 _ hl9) (F.w hm2.2.1) hm2.2.2 hrm, F.w hm1, trivial⟩ (g_pre R) rfl (by rw [List.length_map]; exact hn) hl.1 hsk2 (lv_room (by rw [g_cat]; exact hw)) d ⟨hc, hs⟩) hS (fun r k1 h9 H1 locs1 q R1 hS1 => ?_)
    have kk := kk r k1 h9 q p l e s m args below meth c H1 locs1 ls F R1 hS1 hl hc hs
    rw [List.map_append] at kk
    rw [show (r.map (e_sh E)).toList = r.toList.map (e_sh E) by cases r <;> rfl]
    exact kk
theorem a_cV0 {q ci : Nat} {fs : List Value} {T : u_T} {N : Nat} (hd : fD y pc (.invokevirtual idx) 3 pc2) (hl9 : fML y.1.cls idx z) (hm : fMV z n) (hrm : fRm y z) (hn : As.length = n) (hq : h q = .inr (ci, fs)) (hcl : cls[ci]? = some (z.1.cls, T, N)) (hw : (st.map fun v => v.category).sum ≤ 8) (hc : nc + z.2.2.2.2.cells ≤ y.2.2.2.2.cells) (hs : ns + z.2.2.2.2.slots ≤ y.2.2.2.2.slots) (hE : fE z E (.ref q :: As) k h Q)
    (kk : ∀ r k1 h1, Q r k1 h1 → fA y E Z k1 h1 (nc + z.2.2.2.2.cells) (ns + z.2.2.2.2.slots) pc2 L (r.toList ++ st)) {sk : List Value} (hsk : sk = As.reverse ++ .ref q :: st) : fA y E Z k h nc ns pc L sk := by
  intro p l e s m args below meth c H locs ls F R hS hl h1 h2
  subst hsk
  obtain ⟨d, rfl⟩ := hd
  obtain ⟨⟨hm0, hm1⟩, hm2⟩ := hm
  obtain ⟨j, rfl, hj, hg⟩ := R.get hq (ne_dead_r hcl)
  have hsk2 : (As.reverse ++ .ref (j + 11) :: st).map (e_sh E) = (As.map (e_sh E)).reverse ++ .ref (E.1 (j + 11)) :: st.map (e_sh E) := by rw [List.map_append, List.map_reverse]; rfl
  have hp : PreV s H z.1.cls (E.1 (j + 11)) (va_Pc ((Value.ref (j + 11) :: As).map (e_sh E)) (fun U => fR E k h U U.heap)) (As.map (e_sh E)) := ⟨(g_pre (As := .ref (j + 11) :: As) R).1, va_recv R.2.2.2.2.1 R.2.2.2.1 hcl hg, (g_pre (As := .ref (j + 11) :: As) R).2⟩
  rcases hl9 with hl9 | ⟨host, hl9⟩
  · refine a_run R (Q := Q) (rest := st.map (e_sh E)) (va_runV (As := As.map (e_sh E)) (b := E.1 (j + 11)) (C := z.1.cls) (Ts := gw) ⟨F.1, F.2.1, F.2.2.2.1, F.2.2.2.2.1, F.2.2.2.2.2.1⟩ (hE l) ⟨callB_of n F.2.2.2.2.2.1 (g_in hm2) rfl rfl rfl (F.w hm2.2.1) (F.w hl9) hm2.2.2 hrm, F.w hm0, F.w hm1⟩ hp rfl (by rw [List.length_map]; exact hn) hl.1 hsk2 (lv_room (by rw [g_cat]; exact hw)) d ⟨hc, hs⟩) hS (fun r k1 h9 H1 locs1 q R1 hS1 => ?_)
    have kk := kk r k1 h9 q p l e s m args below meth c H1 locs1 ls F R1 hS1 hl hc hs
    rw [List.map_append] at kk
    rw [show (r.map (e_sh E)).toList = r.toList.map (e_sh E) by cases r <;> rfl]
    exact kk
  · refine a_run R (Q := Q) (rest := st.map (e_sh E)) (va_runVN (As := As.map (e_sh E)) (b := E.1 (j + 11)) (C := z.1.cls) (Ts := gw) ⟨F.1, F.2.1, F.2.2.2.1, F.2.2.2.2.1, F.2.2.2.2.2.1⟩ (hE l) ⟨va_cnB n F.2.2.2.2.2.1 (g_in hm2) rfl rfl rfl (R.2.2.2.2.2.2.2.2.2.2.2.2.2 _ hl9) (F.w hm2.2.1) hm2.2.2 hrm, F.w hm0, F.w hm1⟩ hp rfl (by rw [List.length_map]; exact hn) hl.1 hsk2 (lv_room (by rw [g_cat]; exact hw)) d ⟨hc, hs⟩) hS (fun r k1 h9 H1 locs1 q R1 hS1 => ?_)
    have kk := kk r k1 h9 q p l e s m args below meth c H1 locs1 ls F R1 hS1 hl hc hs
    rw [List.map_append] at kk
    rw [show (r.map (e_sh E)).toList = r.toList.map (e_sh E) by cases r <;> rfl]
    exact kk
theorem a_cI0 {q : Nat} (hd : fD y pc (.invokespecial idx) 3 pc2) (hl9 : fML y.1.cls idx z) (hm : fMN z n) (hrm : fRm y z) (hn : As.length = n) (hw : (st.map fun v => v.category).sum ≤ 8) (hc : nc + z.2.2.2.2.cells ≤ y.2.2.2.2.cells) (hs : ns + z.2.2.2.2.slots ≤ y.2.2.2.2.slots) (hE : fE z E (.ref q :: As) k h Q)
    (kk : ∀ r k1 h1, Q r k1 h1 → fA y E Z k1 h1 (nc + z.2.2.2.2.cells) (ns + z.2.2.2.2.slots) pc2 L (r.toList ++ st)) {sk : List Value} (hsk : sk = As.reverse ++ .ref q :: st) : fA y E Z k h nc ns pc L sk := by
  intro p l e s m args below meth c H locs ls F R hS hl h1 h2
  subst hsk
  obtain ⟨d, rfl⟩ := hd
  obtain ⟨⟨hm0, hm1, hmr⟩, hm2⟩ := hm
  have hsk2 : (As.reverse ++ .ref q :: st).map (e_sh E) = (As.map (e_sh E)).reverse ++ .ref (E.1 q) :: st.map (e_sh E) := by rw [List.map_append, List.map_reverse]; rfl
  have hp : PreS s H (va_Pc ((Value.ref q :: As).map (e_sh E)) (fun U => fR E k h U U.heap)) (.ref (E.1 q) :: As.map (e_sh E)) := g_pre (As := .ref q :: As) R
  have hwz : mI_ws z = Cond.code z.1 z.2.1 z.2.2.1 none :: gw := by unfold mI_ws; rw [hmr]
  rcases hl9 with hl9 | ⟨host, hl9⟩
  · refine a_run R (Q := Q) (rest := st.map (e_sh E)) (va_runI (As := As.map (e_sh E)) (b := E.1 q) (Ts := gw) ⟨F.1, F.2.1, F.2.2.2.1, F.2.2.2.2.1, F.2.2.2.2.2.1⟩ (hE l) ⟨callB_of n F.2.2.2.2.2.1 (g_in hm2) hwz rfl rfl (F.w hm2.2.1) (F.w hl9) hm2.2.2 hrm, hm0, F.w hm1⟩ hp rfl (by rw [List.length_map]; exact hn) hl.1 hsk2 (lv_room (by rw [g_cat]; exact hw)) d ⟨hc, hs⟩) hS (fun r k1 h9 H1 locs1 q R1 hS1 => ?_)
    have kk := kk r k1 h9 q p l e s m args below meth c H1 locs1 ls F R1 hS1 hl hc hs
    rw [List.map_append] at kk
    rw [show (r.map (e_sh E)).toList = r.toList.map (e_sh E) by cases r <;> rfl]
    exact kk
  · refine a_run R (Q := Q) (rest := st.map (e_sh E)) (va_runIN (As := As.map (e_sh E)) (b := E.1 q) (Ts := gw) ⟨F.1, F.2.1, F.2.2.2.1, F.2.2.2.2.1, F.2.2.2.2.2.1⟩ (hE l) ⟨va_cnB n F.2.2.2.2.2.1 (g_in hm2) hwz rfl rfl (R.2.2.2.2.2.2.2.2.2.2.2.2.2 _ hl9) (F.w hm2.2.1) hm2.2.2 hrm, hm0, F.w hm1⟩ hp rfl (by rw [List.length_map]; exact hn) hl.1 hsk2 (lv_room (by rw [g_cat]; exact hw)) d ⟨hc, hs⟩) hS (fun r k1 h9 H1 locs1 q R1 hS1 => ?_)
    have kk := kk r k1 h9 q p l e s m args below meth c H1 locs1 ls F R1 hS1 hl hc hs
    rw [List.map_append] at kk
    rw [show (r.map (e_sh E)).toList = r.toList.map (e_sh E) by cases r <;> rfl]
    exact kk
end CL
end
section
abbrev M_B_init : mI := (⟨"FigureLeave$Bills", "<init>", "()V"⟩, prog_2_method_1_code, 1, none, { frames := 1, cells := 2, slots := 12, locals := 20 })
abbrev M_B_begin : mI := (⟨"FigureLeave$Bills", "begin", "()V"⟩, prog_2_method_2_code, 1, none, { frames := 0, cells := 0, slots := 0, locals := 0 })
abbrev M_B_become : mI := (⟨"FigureLeave$Bills", "become", "(LFigureLeave$Bills;)V"⟩, prog_2_method_3_code, 2, none, { frames := 1, cells := 0, slots := 0, locals := 26 })
abbrev M_B_holds : mI := (⟨"FigureLeave$Bills", "holds", "(I)Z"⟩, prog_2_method_4_code, 2, some .boolean, { frames := 0, cells := 0, slots := 0, locals := 0 })
abbrev M_B_isPaid : mI := (⟨"FigureLeave$Bills", "isPaid", "(I)Z"⟩, prog_2_method_5_code, 2, some .boolean, { frames := 0, cells := 0, slots := 0, locals := 0 })
abbrev M_B_add : mI := (⟨"FigureLeave$Bills", "add", "(II)V"⟩, prog_2_method_6_code, 3, none, { frames := 0, cells := 0, slots := 0, locals := 0 })
abbrev M_B_settle : mI := (⟨"FigureLeave$Bills", "settle", "(I)V"⟩, prog_2_method_7_code, 2, none, { frames := 1, cells := 0, slots := 0, locals := 21 })
abbrev M_B_worthOf : mI := (⟨"FigureLeave$Bills", "worthOf", "(I)I"⟩, prog_2_method_8_code, 4, some .int, { frames := 0, cells := 0, slots := 0, locals := 0 })
abbrev M_K_init : mI := (⟨"FigureLeave$Clerk", "<init>", "()V"⟩, prog_3_method_1_code, 1, none, { frames := 2, cells := 6, slots := 30, locals := 40 })
abbrev M_K_cheapest : mI := (⟨"FigureLeave$Clerk", "cheapest", "(LFigureLeave$House;I)I"⟩, prog_3_method_2_code, 8, some .int, { frames := 3, cells := 0, slots := 0, locals := 70 })
abbrev M_K_firstWithout : mI := (⟨"FigureLeave$Clerk", "firstWithout", "(LFigureLeave$House;)I"⟩, prog_3_method_3_code, 3, some .int, { frames := 4, cells := 0, slots := 0, locals := 93 })
abbrev M_K_byAny : mI := (⟨"FigureLeave$Clerk", "byAny", "(LFigureLeave$House;I)Z"⟩, prog_3_method_4_code, 4, some .boolean, { frames := 3, cells := 0, slots := 0, locals := 70 })
abbrev M_K_countOn : mI := (⟨"FigureLeave$Clerk", "countOn", "(LFigureLeave$House;)I"⟩, prog_3_method_5_code, 3, some .int, { frames := 3, cells := 0, slots := 0, locals := 69 })
abbrev M_K_nightsTill : mI := (⟨"FigureLeave$Clerk", "nightsTill", "(LFigureLeave$House;II)I"⟩, prog_3_method_6_code, 5, some .int, { frames := 3, cells := 0, slots := 0, locals := 70 })
abbrev M_K_dearestBills : mI := (⟨"FigureLeave$Clerk", "dearestBills", "(LFigureLeave$House;)I"⟩, prog_3_method_7_code, 6, some .int, { frames := 4, cells := 0, slots := 0, locals := 92 })
abbrev M_K_goTogether : mI := (⟨"FigureLeave$Clerk", "goTogether", "(LFigureLeave$House;I)Z"⟩, prog_3_method_8_code, 4, some .boolean, { frames := 3, cells := 0, slots := 0, locals := 69 })
abbrev M_K_planDays : mI := (⟨"FigureLeave$Clerk", "planDays", "(LFigureLeave$House;)I"⟩, prog_3_method_9_code, 3, some .int, { frames := 5, cells := 0, slots := 0, locals := 119 })
abbrev M_K_plannedDay : mI := (⟨"FigureLeave$Clerk", "plannedDay", "(I)I"⟩, prog_3_method_10_code, 3, some .int, { frames := 0, cells := 0, slots := 0, locals := 0 })
abbrev M_K_planWithin : mI := (⟨"FigureLeave$Clerk", "planWithin", "(LFigureLeave$House;I)Z"⟩, prog_3_method_11_code, 5, some .boolean, { frames := 4, cells := 0, slots := 0, locals := 95 })
abbrev M_K_holdsSoFar : mI := (⟨"FigureLeave$Clerk", "holdsSoFar", "(LFigureLeave$House;II)Z"⟩, prog_3_method_12_code, 7, some .boolean, { frames := 3, cells := 0, slots := 0, locals := 69 })
abbrev M_K_mostWanted : mI := (⟨"FigureLeave$Clerk", "mostWanted", "(LFigureLeave$House;)I"⟩, prog_3_method_13_code, 6, some .int, { frames := 4, cells := 0, slots := 0, locals := 94 })
abbrev M_K_numbersWith : mI := (⟨"FigureLeave$Clerk", "numbersWith", "(LFigureLeave$House;I)I"⟩, prog_3_method_14_code, 5, some .int, { frames := 3, cells := 0, slots := 0, locals := 70 })
abbrev M_K_restingPairs : mI := (⟨"FigureLeave$Clerk", "restingPairs", "(LFigureLeave$House;II)I"⟩, prog_3_method_15_code, 8, some .int, { frames := 5, cells := 0, slots := 0, locals := 120 })
abbrev M_K_gain : mI := (⟨"FigureLeave$Clerk", "gain", "(LFigureLeave$House;IIII)I"⟩, prog_3_method_16_code, 9, some .int, { frames := 4, cells := 0, slots := 0, locals := 92 })
abbrev M_K_luckyWays : mI := (⟨"FigureLeave$Clerk", "luckyWays", "(LFigureLeave$House;LFigureLeave$Line;I)I"⟩, prog_3_method_17_code, 6, some .int, { frames := 3, cells := 0, slots := 0, locals := 72 })
abbrev M_K_bearsFree : mI := (⟨"FigureLeave$Clerk", "bearsFree", "(LFigureLeave$House;LFigureLeave$Line;I)Z"⟩, prog_3_method_18_code, 6, some .boolean, { frames := 2, cells := 0, slots := 0, locals := 47 })
abbrev M_K_waysOf : mI := (⟨"FigureLeave$Clerk", "waysOf", "(III)I"⟩, prog_3_method_19_code, 6, some .int, { frames := 0, cells := 0, slots := 0, locals := 0 })
abbrev M_K_writtenBySeed : mI := (⟨"FigureLeave$Clerk", "writtenBySeed", "(LFigureLeave$House;II)I"⟩, prog_3_method_20_code, 9, some .int, { frames := 3, cells := 0, slots := 0, locals := 69 })
abbrev M_C_init : mI := (⟨"FigureLeave$Clues", "<init>", "()V"⟩, prog_4_method_1_code, 1, none, { frames := 1, cells := 6, slots := 36, locals := 20 })
abbrev M_C_become : mI := (⟨"FigureLeave$Clues", "become", "(LFigureLeave$Clues;)V"⟩, prog_4_method_2_code, 2, none, { frames := 1, cells := 0, slots := 0, locals := 26 })
abbrev M_C_addTrace : mI := (⟨"FigureLeave$Clues", "addTrace", "(II)V"⟩, prog_4_method_3_code, 3, none, { frames := 0, cells := 0, slots := 0, locals := 0 })
abbrev M_C_addNote : mI := (⟨"FigureLeave$Clues", "addNote", "(IIII)V"⟩, prog_4_method_4_code, 5, none, { frames := 0, cells := 0, slots := 0, locals := 0 })
abbrev M_C_dropTraces : mI := (⟨"FigureLeave$Clues", "dropTraces", "()I"⟩, prog_4_method_5_code, 2, some .int, { frames := 0, cells := 0, slots := 0, locals := 0 })
abbrev M_C_dropNotes : mI := (⟨"FigureLeave$Clues", "dropNotes", "()I"⟩, prog_4_method_6_code, 2, some .int, { frames := 0, cells := 0, slots := 0, locals := 0 })
abbrev M_C_kindsOf : mI := (⟨"FigureLeave$Clues", "kindsOf", "(I)I"⟩, prog_4_method_7_code, 4, some .int, { frames := 2, cells := 0, slots := 0, locals := 45 })
abbrev M_C_mayBe : mI := (⟨"FigureLeave$Clues", "mayBe", "(II)Z"⟩, prog_4_method_8_code, 4, some .boolean, { frames := 1, cells := 0, slots := 0, locals := 22 })
abbrev M_C_mixInto : mI := (⟨"FigureLeave$Clues", "mixInto", "(J)J"⟩, prog_4_method_9_code, 6, some .long, { frames := 0, cells := 0, slots := 0, locals := 0 })
abbrev M_H_init : mI := (⟨"FigureLeave$House", "<init>", "()V"⟩, prog_5_method_1_code, 1, none, { frames := 2, cells := 16, slots := 199, locals := 40 })
abbrev M_H_begin : mI := (⟨"FigureLeave$House", "begin", "()V"⟩, prog_5_method_2_code, 1, none, { frames := 2, cells := 0, slots := 0, locals := 43 })
abbrev M_H_become : mI := (⟨"FigureLeave$House", "become", "(LFigureLeave$House;)V"⟩, prog_5_method_3_code, 2, none, { frames := 2, cells := 0, slots := 0, locals := 47 })
abbrev M_H_tellFigure : mI := (⟨"FigureLeave$House", "tellFigure", "(III)V"⟩, prog_5_method_4_code, 4, none, { frames := 2, cells := 0, slots := 0, locals := 42 })
abbrev M_H_tellBill : mI := (⟨"FigureLeave$House", "tellBill", "(II)V"⟩, prog_5_method_5_code, 3, none, { frames := 1, cells := 0, slots := 0, locals := 22 })
abbrev M_H_remember : mI := (⟨"FigureLeave$House", "remember", "()V"⟩, prog_5_method_6_code, 1, none, { frames := 2, cells := 0, slots := 0, locals := 49 })
abbrev M_H_goBack : mI := (⟨"FigureLeave$House", "goBack", "()V"⟩, prog_5_method_7_code, 1, none, { frames := 2, cells := 0, slots := 0, locals := 49 })
abbrev M_H_sleep : mI := (⟨"FigureLeave$House", "sleep", "(I)V"⟩, prog_5_method_8_code, 3, none, { frames := 3, cells := 0, slots := 0, locals := 64 })
abbrev M_H_rests : mI := (⟨"FigureLeave$House", "rests", "(LFigureLeave$Shift;)V"⟩, prog_5_method_9_code, 3, none, { frames := 2, cells := 0, slots := 0, locals := 42 })
abbrev M_H_costOf : mI := (⟨"FigureLeave$House", "costOf", "(LFigureLeave$Line;)I"⟩, prog_5_method_10_code, 4, some .int, { frames := 1, cells := 0, slots := 0, locals := 22 })
abbrev M_H_puts : mI := (⟨"FigureLeave$House", "puts", "(LFigureLeave$Shift;LFigureLeave$Line;)Z"⟩, prog_5_method_11_code, 3, some .boolean, { frames := 2, cells := 0, slots := 0, locals := 47 })
abbrev M_H_takes : mI := (⟨"FigureLeave$House", "takes", "(LFigureLeave$Shift;LFigureLeave$Line;)Z"⟩, prog_5_method_12_code, 4, some .boolean, { frames := 2, cells := 0, slots := 0, locals := 47 })
abbrev M_H_wearBy : mI := (⟨"FigureLeave$House", "wearBy", "(LFigureLeave$Shift;LFigureLeave$Line;I)V"⟩, prog_5_method_13_code, 6, none, { frames := 1, cells := 0, slots := 0, locals := 22 })
abbrev M_H_bears : mI := (⟨"FigureLeave$House", "bears", "(LFigureLeave$Shift;LFigureLeave$Line;)Z"⟩, prog_5_method_14_code, 5, some .boolean, { frames := 0, cells := 0, slots := 0, locals := 0 })
abbrev M_H_leftOf : mI := (⟨"FigureLeave$House", "leftOf", "(I)I"⟩, prog_5_method_15_code, 4, some .int, { frames := 1, cells := 0, slots := 0, locals := 22 })
abbrev M_H_mixInto : mI := (⟨"FigureLeave$House", "mixInto", "(J)J"⟩, prog_5_method_16_code, 6, some .long, { frames := 1, cells := 0, slots := 0, locals := 25 })
abbrev M_I_wear : mI := (⟨"FigureLeave$Kind", "wear", "(III)I"⟩, prog_6_method_2_code, 3, some .int, { frames := 0, cells := 0, slots := 0, locals := 0 })
abbrev M_I_rest : mI := (⟨"FigureLeave$Kind", "rest", "(II)I"⟩, prog_6_method_3_code, 2, some .int, { frames := 1, cells := 0, slots := 0, locals := 21 })
abbrev M_L_init : mI := (⟨"FigureLeave$Line", "<init>", "()V"⟩, prog_7_method_1_code, 1, none, { frames := 1, cells := 1, slots := 4, locals := 20 })
abbrev M_L_tell : mI := (⟨"FigureLeave$Line", "tell", "(II)V"⟩, prog_7_method_2_code, 3, none, { frames := 1, cells := 0, slots := 0, locals := 21 })
abbrev M_L_addNumber : mI := (⟨"FigureLeave$Line", "addNumber", "(I)V"⟩, prog_7_method_3_code, 2, none, { frames := 0, cells := 0, slots := 0, locals := 0 })
abbrev M_P_init : mI := (⟨"FigureLeave$Past", "<init>", "()V"⟩, prog_8_method_1_code, 1, none, { frames := 1, cells := 1, slots := 104, locals := 20 })
abbrev M_P_become : mI := (⟨"FigureLeave$Past", "become", "(LFigureLeave$Past;)V"⟩, prog_8_method_2_code, 2, none, { frames := 1, cells := 0, slots := 0, locals := 26 })
abbrev M_P_push : mI := (⟨"FigureLeave$Past", "push", "(LFigureLeave$Shift;LFigureLeave$Bills;)V"⟩, prog_8_method_3_code, 4, none, { frames := 1, cells := 0, slots := 0, locals := 26 })
abbrev M_P_pop : mI := (⟨"FigureLeave$Past", "pop", "(LFigureLeave$Shift;LFigureLeave$Bills;)V"⟩, prog_8_method_4_code, 4, none, { frames := 1, cells := 0, slots := 0, locals := 26 })
abbrev M_S_init : mI := (⟨"FigureLeave$Shift", "<init>", "()V"⟩, prog_9_method_1_code, 1, none, { frames := 1, cells := 1, slots := 10, locals := 20 })
abbrev M_S_begin : mI := (⟨"FigureLeave$Shift", "begin", "()V"⟩, prog_9_method_2_code, 1, none, { frames := 1, cells := 0, slots := 0, locals := 23 })
abbrev M_S_become : mI := (⟨"FigureLeave$Shift", "become", "(LFigureLeave$Shift;)V"⟩, prog_9_method_3_code, 2, none, { frames := 1, cells := 0, slots := 0, locals := 26 })
abbrev M_S_wornTogether : mI := (⟨"FigureLeave$Shift", "wornTogether", "()I"⟩, prog_9_method_4_code, 3, some .int, { frames := 0, cells := 0, slots := 0, locals := 0 })
abbrev M_U_init : mI := (⟨"FigureLeave$Sleuth", "<init>", "()V"⟩, prog_10_method_1_code, 1, none, { frames := 2, cells := 2, slots := 6, locals := 40 })
abbrev M_U_howManyLines : mI := (⟨"FigureLeave$Sleuth", "howManyLines", "(LFigureLeave$House;)I"⟩, prog_10_method_2_code, 4, some .int, { frames := 3, cells := 0, slots := 0, locals := 69 })
abbrev M_U_lineAt : mI := (⟨"FigureLeave$Sleuth", "lineAt", "(LFigureLeave$House;I)I"⟩, prog_10_method_3_code, 5, some .int, { frames := 3, cells := 0, slots := 0, locals := 69 })
abbrev M_U_fitsTraces : mI := (⟨"FigureLeave$Sleuth", "fitsTraces", "(LFigureLeave$House;I)Z"⟩, prog_10_method_4_code, 4, some .boolean, { frames := 2, cells := 0, slots := 0, locals := 46 })
abbrev M_U_moreWorn : mI := (⟨"FigureLeave$Sleuth", "moreWorn", "(LFigureLeave$House;I)I"⟩, prog_10_method_5_code, 5, some .int, { frames := 1, cells := 0, slots := 0, locals := 22 })
abbrev M_U_nextLook : mI := (⟨"FigureLeave$Sleuth", "nextLook", "(I)I"⟩, prog_10_method_6_code, 7, some .int, { frames := 2, cells := 0, slots := 0, locals := 50 })
abbrev M_U_mostAlike : mI := (⟨"FigureLeave$Sleuth", "mostAlike", "(III)I"⟩, prog_10_method_7_code, 9, some .int, { frames := 1, cells := 0, slots := 0, locals := 22 })
abbrev M_T_init : mI := (⟨"FigureLeave$Text", "<init>", "()V"⟩, prog_11_method_1_code, 1, none, { frames := 2, cells := 3, slots := 156, locals := 40 })
abbrev M_T_readInto : mI := (⟨"FigureLeave$Text", "readInto", "(LFigureLeave$House;)I"⟩, prog_11_method_2_code, 3, some .int, { frames := 6, cells := 0, slots := 0, locals := 130 })
abbrev M_T_readItem : mI := (⟨"FigureLeave$Text", "readItem", "(LFigureLeave$House;Z)Z"⟩, prog_11_method_3_code, 4, some .boolean, { frames := 5, cells := 0, slots := 0, locals := 107 })
abbrev M_T_readFigure : mI := (⟨"FigureLeave$Text", "readFigure", "(LFigureLeave$House;)Z"⟩, prog_11_method_4_code, 4, some .boolean, { frames := 3, cells := 0, slots := 0, locals := 65 })
abbrev M_T_readBill : mI := (⟨"FigureLeave$Text", "readBill", "(LFigureLeave$House;)Z"⟩, prog_11_method_5_code, 3, some .boolean, { frames := 3, cells := 0, slots := 0, locals := 64 })
abbrev M_T_readWrite : mI := (⟨"FigureLeave$Text", "readWrite", "(LFigureLeave$House;)Z"⟩, prog_11_method_6_code, 3, some .boolean, { frames := 3, cells := 0, slots := 0, locals := 69 })
abbrev M_T_readNight : mI := (⟨"FigureLeave$Text", "readNight", "(LFigureLeave$House;)Z"⟩, prog_11_method_7_code, 2, some .boolean, { frames := 4, cells := 0, slots := 0, locals := 86 })
abbrev M_T_nextIsNumber : mI := (⟨"FigureLeave$Text", "nextIsNumber", "(II)Z"⟩, prog_11_method_8_code, 3, some .boolean, { frames := 2, cells := 0, slots := 0, locals := 42 })
abbrev M_T_nextIsStop : mI := (⟨"FigureLeave$Text", "nextIsStop", "()Z"⟩, prog_11_method_9_code, 1, some .boolean, { frames := 2, cells := 0, slots := 0, locals := 42 })
abbrev M_T_nextToken : mI := (⟨"FigureLeave$Text", "nextToken", "()V"⟩, prog_11_method_10_code, 1, none, { frames := 1, cells := 0, slots := 0, locals := 22 })
abbrev M_T_weighNumber : mI := (⟨"FigureLeave$Text", "weighNumber", "()V"⟩, prog_11_method_11_code, 2, none, { frames := 0, cells := 0, slots := 0, locals := 0 })
abbrev M_T_isWord : mI := (⟨"FigureLeave$Text", "isWord", "(Ljava/lang/String;)Z"⟩, prog_11_method_12_code, 3, some .boolean, { frames := 4, cells := 0, slots := 0, locals := 85 })
abbrev M_T_sortAt : mI := (⟨"FigureLeave$Text", "sortAt", "(I)I"⟩, prog_11_method_13_code, 3, some .int, { frames := 0, cells := 0, slots := 0, locals := 0 })
abbrev M_F_init : mI := (⟨"FigureLeave", "<init>", "()V"⟩, prog_1_method_1_code, 1, none, { frames := 3, cells := 51, slots := 624, locals := 60 })
abbrev M_F_house : mI := (⟨"FigureLeave", "house", "()I"⟩, prog_1_method_2_code, 2, some .int, { frames := 3, cells := 0, slots := 0, locals := 63 })
abbrev M_F_figure : mI := (⟨"FigureLeave", "figure", "(III)I"⟩, prog_1_method_3_code, 5, some .int, { frames := 3, cells := 0, slots := 0, locals := 65 })
abbrev M_F_bill : mI := (⟨"FigureLeave", "bill", "(II)I"⟩, prog_1_method_4_code, 3, some .int, { frames := 2, cells := 0, slots := 0, locals := 44 })
abbrev M_F_type : mI := (⟨"FigureLeave", "type", "(I)I"⟩, prog_1_method_5_code, 2, some .int, { frames := 1, cells := 0, slots := 0, locals := 22 })
abbrev M_F_clear : mI := (⟨"FigureLeave", "clear", "()I"⟩, prog_1_method_6_code, 2, some .int, { frames := 0, cells := 0, slots := 0, locals := 0 })
abbrev M_F_read : mI := (⟨"FigureLeave", "read", "()I"⟩, prog_1_method_7_code, 2, some .int, { frames := 7, cells := 0, slots := 0, locals := 152 })
abbrev M_F_write : mI := (⟨"FigureLeave", "write", "(II)I"⟩, prog_1_method_8_code, 3, some .int, { frames := 3, cells := 0, slots := 0, locals := 70 })
abbrev M_F_pay : mI := (⟨"FigureLeave", "pay", "(I)I"⟩, prog_1_method_9_code, 3, some .int, { frames := 3, cells := 0, slots := 0, locals := 70 })
abbrev M_F_night : mI := (⟨"FigureLeave", "night", "(I)I"⟩, prog_1_method_10_code, 2, some .int, { frames := 4, cells := 0, slots := 0, locals := 86 })
abbrev M_F_undo : mI := (⟨"FigureLeave", "undo", "()I"⟩, prog_1_method_11_code, 1, some .int, { frames := 3, cells := 0, slots := 0, locals := 69 })
abbrev M_F_of : mI := (⟨"FigureLeave", "of", "(II)I"⟩, prog_1_method_12_code, 3, some .int, { frames := 2, cells := 0, slots := 0, locals := 45 })
abbrev M_F_about : mI := (⟨"FigureLeave", "about", "(II)I"⟩, prog_1_method_13_code, 3, some .int, { frames := 1, cells := 0, slots := 0, locals := 21 })
abbrev M_F_wears : mI := (⟨"FigureLeave", "wears", "(II)I"⟩, prog_1_method_14_code, 3, some .int, { frames := 2, cells := 0, slots := 0, locals := 42 })
abbrev M_F_cost : mI := (⟨"FigureLeave", "cost", "(II)I"⟩, prog_1_method_15_code, 3, some .int, { frames := 2, cells := 0, slots := 0, locals := 45 })
abbrev M_F_can : mI := (⟨"FigureLeave", "can", "(II)I"⟩, prog_1_method_16_code, 3, some .int, { frames := 3, cells := 0, slots := 0, locals := 70 })
abbrev M_F_best : mI := (⟨"FigureLeave", "best", "(I)I"⟩, prog_1_method_17_code, 2, some .int, { frames := 4, cells := 0, slots := 0, locals := 97 })
abbrev M_F_first : mI := (⟨"FigureLeave", "first", "()I"⟩, prog_1_method_18_code, 1, some .int, { frames := 5, cells := 0, slots := 0, locals := 115 })
abbrev M_F_counts : mI := (⟨"FigureLeave", "counts", "()I"⟩, prog_1_method_19_code, 1, some .int, { frames := 4, cells := 0, slots := 0, locals := 91 })
abbrev M_F_when : mI := (⟨"FigureLeave", "when", "(II)I"⟩, prog_1_method_20_code, 3, some .int, { frames := 4, cells := 0, slots := 0, locals := 94 })
abbrev M_F_most : mI := (⟨"FigureLeave", "most", "(I)I"⟩, prog_1_method_21_code, 3, some .int, { frames := 5, cells := 0, slots := 0, locals := 117 })
abbrev M_F_plan : mI := (⟨"FigureLeave", "plan", "(I)I"⟩, prog_1_method_22_code, 3, some .int, { frames := 6, cells := 0, slots := 0, locals := 141 })
abbrev M_F_wanted : mI := (⟨"FigureLeave", "wanted", "(I)I"⟩, prog_1_method_23_code, 3, some .int, { frames := 5, cells := 0, slots := 0, locals := 119 })
abbrev M_F_trace : mI := (⟨"FigureLeave", "trace", "(II)I"⟩, prog_1_method_24_code, 3, some .int, { frames := 2, cells := 0, slots := 0, locals := 42 })
abbrev M_F_which : mI := (⟨"FigureLeave", "which", "(I)I"⟩, prog_1_method_25_code, 2, some .int, { frames := 4, cells := 0, slots := 0, locals := 93 })
abbrev M_F_note : mI := (⟨"FigureLeave", "note", "(IIII)I"⟩, prog_1_method_26_code, 5, some .int, { frames := 2, cells := 0, slots := 0, locals := 42 })
abbrev M_F_forget : mI := (⟨"FigureLeave", "forget", "(I)I"⟩, prog_1_method_27_code, 2, some .int, { frames := 1, cells := 0, slots := 0, locals := 22 })
abbrev M_F_is : mI := (⟨"FigureLeave", "is", "(I)I"⟩, prog_1_method_28_code, 2, some .int, { frames := 3, cells := 0, slots := 0, locals := 68 })
abbrev M_F_look : mI := (⟨"FigureLeave", "look", "(I)I"⟩, prog_1_method_29_code, 2, some .int, { frames := 3, cells := 0, slots := 0, locals := 76 })
abbrev M_F_two : mI := (⟨"FigureLeave", "two", "(II)I"⟩, prog_1_method_30_code, 3, some .int, { frames := 6, cells := 0, slots := 0, locals := 147 })
abbrev M_F_odds : mI := (⟨"FigureLeave", "odds", "(III)I"⟩, prog_1_method_31_code, 6, some .int, { frames := 4, cells := 0, slots := 0, locals := 97 })
abbrev M_F_years : mI := (⟨"FigureLeave", "years", "(II)I"⟩, prog_1_method_32_code, 3, some .int, { frames := 4, cells := 0, slots := 0, locals := 97 })
abbrev M_F_part : mI := (⟨"FigureLeave", "part", "(I)J"⟩, prog_1_method_33_code, 2, some .long, { frames := 1, cells := 0, slots := 0, locals := 20 })
abbrev M_F_image : mI := (⟨"FigureLeave", "image", "(I)I"⟩, prog_1_method_34_code, 3, some .int, { frames := 3, cells := 17, slots := 205, locals := 68 })
abbrev M_F_from : mI := (⟨"FigureLeave", "from", "(I)I"⟩, prog_1_method_35_code, 3, some .int, { frames := 3, cells := 0, slots := 0, locals := 68 })
abbrev M_F_status : mI := (⟨"FigureLeave", "status", "(I)I"⟩, prog_1_method_36_code, 2, some .int, { frames := 1, cells := 0, slots := 0, locals := 20 })
abbrev M_F_count : mI := (⟨"FigureLeave", "count", "(I)I"⟩, prog_1_method_37_code, 2, some .int, { frames := 2, cells := 0, slots := 0, locals := 43 })
abbrev M_F_digest : mI := (⟨"FigureLeave", "digest", "()J"⟩, prog_1_method_38_code, 4, some .long, { frames := 2, cells := 0, slots := 0, locals := 50 })
abbrev M_F_howMany : mI := (⟨"FigureLeave", "howMany", "(I)I"⟩, prog_1_method_39_code, 2, some .int, { frames := 1, cells := 0, slots := 0, locals := 22 })
abbrev M_F_setFraction : mI := (⟨"FigureLeave", "setFraction", "(II)V"⟩, prog_1_method_40_code, 7, none, { frames := 0, cells := 0, slots := 0, locals := 0 })
abbrev M_F_bad : mI := (⟨"FigureLeave", "bad", "()I"⟩, prog_1_method_41_code, 1, some .int, { frames := 0, cells := 0, slots := 0, locals := 0 })
abbrev M_F_no : mI := (⟨"FigureLeave", "no", "()I"⟩, prog_1_method_42_code, 1, some .int, { frames := 0, cells := 0, slots := 0, locals := 0 })
abbrev M_F_full : mI := (⟨"FigureLeave", "full", "()I"⟩, prog_1_method_43_code, 1, some .int, { frames := 0, cells := 0, slots := 0, locals := 0 })
abbrev M_F_within : mI := (⟨"FigureLeave", "within", "(III)Z"⟩, prog_1_method_44_code, 3, some .boolean, { frames := 0, cells := 0, slots := 0, locals := 0 })
abbrev M_F_isFigure : mI := (⟨"FigureLeave", "isFigure", "(I)Z"⟩, prog_1_method_45_code, 1, some .boolean, { frames := 1, cells := 0, slots := 0, locals := 22 })
abbrev M_F_isNumber : mI := (⟨"FigureLeave", "isNumber", "(I)Z"⟩, prog_1_method_46_code, 1, some .boolean, { frames := 1, cells := 0, slots := 0, locals := 22 })
abbrev M_F_isSign : mI := (⟨"FigureLeave", "isSign", "(I)Z"⟩, prog_1_method_47_code, 1, some .boolean, { frames := 1, cells := 0, slots := 0, locals := 22 })
abbrev M_M_init : mI := (⟨"FigureLeaveModel", "<init>", "()V"⟩, prog_13_method_1_code, 1, none, { frames := 1, cells := 8, slots := 925, locals := 21 })
abbrev M_M_in : mI := (⟨"FigureLeaveModel", "in", "(III)Z"⟩, prog_13_method_3_code, 3, some .boolean, { frames := 0, cells := 0, slots := 0, locals := 0 })
abbrev M_M_refuses : mI := (⟨"FigureLeaveModel", "refuses", "(I)I"⟩, prog_13_method_4_code, 2, some .int, { frames := 0, cells := 0, slots := 0, locals := 0 })
abbrev M_M_refusesAs : mI := (⟨"FigureLeaveModel", "refusesAs", "(I)I"⟩, prog_13_method_5_code, 2, some .int, { frames := 0, cells := 0, slots := 0, locals := 0 })
abbrev M_M_begins : mI := (⟨"FigureLeaveModel", "begins", "([I)V"⟩, prog_13_method_6_code, 2, none, { frames := 0, cells := 0, slots := 0, locals := 0 })
abbrev M_M_wearOf : mI := (⟨"FigureLeaveModel", "wearOf", "(III)I"⟩, prog_13_method_7_code, 3, some .int, { frames := 0, cells := 0, slots := 0, locals := 0 })
abbrev M_M_restOf : mI := (⟨"FigureLeaveModel", "restOf", "(II)I"⟩, prog_13_method_8_code, 2, some .int, { frames := 0, cells := 0, slots := 0, locals := 0 })
abbrev M_M_wornNow : mI := (⟨"FigureLeaveModel", "wornNow", "()V"⟩, prog_13_method_9_code, 2, none, { frames := 0, cells := 0, slots := 0, locals := 0 })
abbrev M_M_rests : mI := (⟨"FigureLeaveModel", "rests", "()V"⟩, prog_13_method_10_code, 3, none, { frames := 1, cells := 0, slots := 0, locals := 21 })
abbrev M_M_adds : mI := (⟨"FigureLeaveModel", "adds", "(I)V"⟩, prog_13_method_11_code, 2, none, { frames := 0, cells := 0, slots := 0, locals := 0 })
abbrev M_M_line : mI := (⟨"FigureLeaveModel", "line", "(II)V"⟩, prog_13_method_12_code, 3, none, { frames := 1, cells := 0, slots := 0, locals := 21 })
abbrev M_M_wearsBy : mI := (⟨"FigureLeaveModel", "wearsBy", "([III)I"⟩, prog_13_method_13_code, 4, some .int, { frames := 1, cells := 0, slots := 0, locals := 22 })
abbrev M_M_costOf : mI := (⟨"FigureLeaveModel", "costOf", "(II)I"⟩, prog_13_method_14_code, 5, some .int, { frames := 2, cells := 0, slots := 0, locals := 45 })
abbrev M_M_wornBy : mI := (⟨"FigureLeaveModel", "wornBy", "(I)I"⟩, prog_13_method_15_code, 4, some .int, { frames := 2, cells := 0, slots := 0, locals := 45 })
abbrev M_M_canOf : mI := (⟨"FigureLeaveModel", "canOf", "([III)Z"⟩, prog_13_method_16_code, 9, some .boolean, { frames := 2, cells := 0, slots := 0, locals := 45 })
abbrev M_M_writes : mI := (⟨"FigureLeaveModel", "writes", "([III)V"⟩, prog_13_method_17_code, 5, none, { frames := 2, cells := 0, slots := 0, locals := 45 })
abbrev M_M_sleeps : mI := (⟨"FigureLeaveModel", "sleeps", "([I)V"⟩, prog_13_method_18_code, 3, none, { frames := 1, cells := 0, slots := 0, locals := 21 })
abbrev M_M_asideBy : mI := (⟨"FigureLeaveModel", "asideBy", "(II)V"⟩, prog_13_method_19_code, 4, none, { frames := 2, cells := 0, slots := 0, locals := 45 })
abbrev M_M_isWithin : mI := (⟨"FigureLeaveModel", "isWithin", "(I)Z"⟩, prog_13_method_20_code, 4, some .boolean, { frames := 2, cells := 0, slots := 0, locals := 43 })
abbrev M_M_house : mI := (⟨"FigureLeaveModel", "house", "()I"⟩, prog_13_method_21_code, 2, some .int, { frames := 1, cells := 0, slots := 0, locals := 21 })
abbrev M_M_figure : mI := (⟨"FigureLeaveModel", "figure", "(III)I"⟩, prog_13_method_22_code, 5, some .int, { frames := 1, cells := 0, slots := 0, locals := 22 })
abbrev M_M_bills : mI := (⟨"FigureLeaveModel", "bills", "([III)V"⟩, prog_13_method_23_code, 3, none, { frames := 0, cells := 0, slots := 0, locals := 0 })
abbrev M_M_bill : mI := (⟨"FigureLeaveModel", "bill", "(II)I"⟩, prog_13_method_24_code, 3, some .int, { frames := 1, cells := 0, slots := 0, locals := 22 })
abbrev M_M_type : mI := (⟨"FigureLeaveModel", "type", "(I)I"⟩, prog_13_method_25_code, 2, some .int, { frames := 1, cells := 0, slots := 0, locals := 22 })
abbrev M_M_clear : mI := (⟨"FigureLeaveModel", "clear", "()I"⟩, prog_13_method_26_code, 2, some .int, { frames := 0, cells := 0, slots := 0, locals := 0 })
abbrev M_M_at : mI := (⟨"FigureLeaveModel", "at", "(I)I"⟩, prog_13_method_27_code, 2, some .int, { frames := 0, cells := 0, slots := 0, locals := 0 })
abbrev M_M_isLetter : mI := (⟨"FigureLeaveModel", "isLetter", "(I)Z"⟩, prog_13_method_28_code, 1, some .boolean, { frames := 1, cells := 0, slots := 0, locals := 22 })
abbrev M_M_word : mI := (⟨"FigureLeaveModel", "word", "()I"⟩, prog_13_method_29_code, 2, some .int, { frames := 2, cells := 0, slots := 0, locals := 42 })
abbrev M_M_advances : mI := (⟨"FigureLeaveModel", "advances", "()V"⟩, prog_13_method_30_code, 3, none, { frames := 3, cells := 0, slots := 0, locals := 63 })
abbrev M_M_isWell : mI := (⟨"FigureLeaveModel", "isWell", "()Z"⟩, prog_13_method_31_code, 1, some .boolean, { frames := 0, cells := 0, slots := 0, locals := 0 })
abbrev M_M_takes : mI := (⟨"FigureLeaveModel", "takes", "(Z)I"⟩, prog_13_method_32_code, 3, some .int, { frames := 4, cells := 0, slots := 0, locals := 85 })
abbrev M_M_number : mI := (⟨"FigureLeaveModel", "number", "(II)I"⟩, prog_13_method_33_code, 3, some .int, { frames := 5, cells := 0, slots := 0, locals := 107 })
abbrev M_M_sum : mI := (⟨"FigureLeaveModel", "sum", "(IIIII)I"⟩, prog_13_method_34_code, 6, some .int, { frames := 0, cells := 0, slots := 0, locals := 0 })
abbrev M_M_wordIs : mI := (⟨"FigureLeaveModel", "wordIs", "()I"⟩, prog_13_method_35_code, 1, some .int, { frames := 1, cells := 0, slots := 0, locals := 25 })
abbrev M_M_reads : mI := (⟨"FigureLeaveModel", "reads", "(I)V"⟩, prog_13_method_36_code, 5, none, { frames := 6, cells := 0, slots := 0, locals := 129 })
abbrev M_M_read : mI := (⟨"FigureLeaveModel", "read", "()I"⟩, prog_13_method_37_code, 4, some .int, { frames := 7, cells := 0, slots := 0, locals := 153 })
abbrev M_M_notes : mI := (⟨"FigureLeaveModel", "notes", "()V"⟩, prog_13_method_38_code, 3, none, { frames := 0, cells := 0, slots := 0, locals := 0 })
abbrev M_M_areLine : mI := (⟨"FigureLeaveModel", "areLine", "(II)Z"⟩, prog_13_method_39_code, 2, some .boolean, { frames := 1, cells := 0, slots := 0, locals := 22 })
abbrev M_M_write : mI := (⟨"FigureLeaveModel", "write", "(II)I"⟩, prog_13_method_40_code, 4, some .int, { frames := 3, cells := 0, slots := 0, locals := 73 })
abbrev M_M_isBill : mI := (⟨"FigureLeaveModel", "isBill", "(I)Z"⟩, prog_13_method_41_code, 2, some .boolean, { frames := 1, cells := 0, slots := 0, locals := 22 })
abbrev M_M_isPaid : mI := (⟨"FigureLeaveModel", "isPaid", "(I)Z"⟩, prog_13_method_42_code, 2, some .boolean, { frames := 0, cells := 0, slots := 0, locals := 0 })
abbrev M_M_pay : mI := (⟨"FigureLeaveModel", "pay", "(I)I"⟩, prog_13_method_43_code, 3, some .int, { frames := 3, cells := 0, slots := 0, locals := 73 })
abbrev M_M_night : mI := (⟨"FigureLeaveModel", "night", "(I)I"⟩, prog_13_method_44_code, 3, some .int, { frames := 2, cells := 0, slots := 0, locals := 43 })
abbrev M_M_undo : mI := (⟨"FigureLeaveModel", "undo", "()I"⟩, prog_13_method_45_code, 3, some .int, { frames := 1, cells := 0, slots := 0, locals := 21 })
abbrev M_M_leftOf : mI := (⟨"FigureLeaveModel", "leftOf", "(I)I"⟩, prog_13_method_46_code, 4, some .int, { frames := 1, cells := 0, slots := 0, locals := 22 })
abbrev M_M_of : mI := (⟨"FigureLeaveModel", "of", "(II)I"⟩, prog_13_method_47_code, 3, some .int, { frames := 2, cells := 0, slots := 0, locals := 45 })
abbrev M_M_about : mI := (⟨"FigureLeaveModel", "about", "(II)I"⟩, prog_13_method_48_code, 3, some .int, { frames := 2, cells := 0, slots := 0, locals := 43 })
abbrev M_M_wears : mI := (⟨"FigureLeaveModel", "wears", "(II)I"⟩, prog_13_method_49_code, 3, some .int, { frames := 1, cells := 0, slots := 0, locals := 22 })
abbrev M_M_cost : mI := (⟨"FigureLeaveModel", "cost", "(II)I"⟩, prog_13_method_50_code, 3, some .int, { frames := 3, cells := 0, slots := 0, locals := 69 })
abbrev M_M_can : mI := (⟨"FigureLeaveModel", "can", "(II)I"⟩, prog_13_method_51_code, 3, some .int, { frames := 3, cells := 0, slots := 0, locals := 73 })
abbrev M_M_bestOf : mI := (⟨"FigureLeaveModel", "bestOf", "(I)I"⟩, prog_13_method_52_code, 6, some .int, { frames := 3, cells := 0, slots := 0, locals := 73 })
abbrev M_M_best : mI := (⟨"FigureLeaveModel", "best", "(I)I"⟩, prog_13_method_53_code, 2, some .int, { frames := 4, cells := 0, slots := 0, locals := 98 })
abbrev M_M_first : mI := (⟨"FigureLeaveModel", "first", "()I"⟩, prog_13_method_54_code, 2, some .int, { frames := 4, cells := 0, slots := 0, locals := 98 })
abbrev M_M_counts : mI := (⟨"FigureLeaveModel", "counts", "()I"⟩, prog_13_method_55_code, 3, some .int, { frames := 3, cells := 0, slots := 0, locals := 68 })
abbrev M_M_when : mI := (⟨"FigureLeaveModel", "when", "(II)I"⟩, prog_13_method_56_code, 8, some .int, { frames := 2, cells := 0, slots := 0, locals := 45 })
abbrev M_M_canAll : mI := (⟨"FigureLeaveModel", "canAll", "(I)Z"⟩, prog_13_method_57_code, 3, some .boolean, { frames := 4, cells := 0, slots := 0, locals := 89 })
abbrev M_M_areWithin : mI := (⟨"FigureLeaveModel", "areWithin", "(I)Z"⟩, prog_13_method_58_code, 4, some .boolean, { frames := 3, cells := 0, slots := 0, locals := 66 })
abbrev M_M_worthOf : mI := (⟨"FigureLeaveModel", "worthOf", "(I)I"⟩, prog_13_method_59_code, 4, some .int, { frames := 0, cells := 0, slots := 0, locals := 0 })
abbrev M_M_unpaid : mI := (⟨"FigureLeaveModel", "unpaid", "()I"⟩, prog_13_method_60_code, 1, some .int, { frames := 0, cells := 0, slots := 0, locals := 0 })
abbrev M_M_most : mI := (⟨"FigureLeaveModel", "most", "(I)I"⟩, prog_13_method_61_code, 4, some .int, { frames := 5, cells := 0, slots := 0, locals := 111 })
abbrev M_M_dayOf : mI := (⟨"FigureLeaveModel", "dayOf", "(II)I"⟩, prog_13_method_62_code, 2, some .int, { frames := 0, cells := 0, slots := 0, locals := 0 })
abbrev M_M_daysOf : mI := (⟨"FigureLeaveModel", "daysOf", "(I)I"⟩, prog_13_method_63_code, 6, some .int, { frames := 4, cells := 0, slots := 0, locals := 89 })
abbrev M_M_plan : mI := (⟨"FigureLeaveModel", "plan", "(I)I"⟩, prog_13_method_64_code, 7, some .int, { frames := 5, cells := 0, slots := 0, locals := 114 })
abbrev M_M_manyCan : mI := (⟨"FigureLeaveModel", "manyCan", "()I"⟩, prog_13_method_65_code, 3, some .int, { frames := 3, cells := 0, slots := 0, locals := 73 })
abbrev M_M_wanted : mI := (⟨"FigureLeaveModel", "wanted", "(I)I"⟩, prog_13_method_66_code, 6, some .int, { frames := 4, cells := 0, slots := 0, locals := 95 })
abbrev M_M_trace : mI := (⟨"FigureLeaveModel", "trace", "(II)I"⟩, prog_13_method_67_code, 3, some .int, { frames := 1, cells := 0, slots := 0, locals := 22 })
abbrev M_M_isTraced : mI := (⟨"FigureLeaveModel", "isTraced", "(II)Z"⟩, prog_13_method_68_code, 5, some .boolean, { frames := 3, cells := 0, slots := 0, locals := 68 })
abbrev M_M_which : mI := (⟨"FigureLeaveModel", "which", "(I)I"⟩, prog_13_method_69_code, 4, some .int, { frames := 4, cells := 0, slots := 0, locals := 92 })
abbrev M_M_note : mI := (⟨"FigureLeaveModel", "note", "(IIII)I"⟩, prog_13_method_70_code, 6, some .int, { frames := 1, cells := 0, slots := 0, locals := 22 })
abbrev M_M_forget : mI := (⟨"FigureLeaveModel", "forget", "(I)I"⟩, prog_13_method_71_code, 4, some .int, { frames := 1, cells := 0, slots := 0, locals := 22 })
abbrev M_M_kindsOf : mI := (⟨"FigureLeaveModel", "kindsOf", "(I)I"⟩, prog_13_method_72_code, 6, some .int, { frames := 1, cells := 0, slots := 0, locals := 22 })
abbrev M_M_is : mI := (⟨"FigureLeaveModel", "is", "(I)I"⟩, prog_13_method_73_code, 2, some .int, { frames := 2, cells := 0, slots := 0, locals := 47 })
abbrev M_M_look : mI := (⟨"FigureLeaveModel", "look", "(I)I"⟩, prog_13_method_74_code, 12, some .int, { frames := 2, cells := 0, slots := 0, locals := 47 })
abbrev M_M_has : mI := (⟨"FigureLeaveModel", "has", "(II)I"⟩, prog_13_method_75_code, 3, some .int, { frames := 5, cells := 0, slots := 0, locals := 111 })
abbrev M_M_two : mI := (⟨"FigureLeaveModel", "two", "(II)I"⟩, prog_13_method_76_code, 7, some .int, { frames := 6, cells := 0, slots := 0, locals := 133 })
abbrev M_M_gcd : mI := (⟨"FigureLeaveModel", "gcd", "(JJ)J"⟩, prog_13_method_77_code, 10, some .long, { frames := 0, cells := 0, slots := 0, locals := 0 })
abbrev M_M_canFree : mI := (⟨"FigureLeaveModel", "canFree", "(III)Z"⟩, prog_13_method_78_code, 8, some .boolean, { frames := 2, cells := 0, slots := 0, locals := 45 })
abbrev M_M_odds : mI := (⟨"FigureLeaveModel", "odds", "(III)I"⟩, prog_13_method_79_code, 13, some .int, { frames := 3, cells := 0, slots := 0, locals := 72 })
abbrev M_M_years : mI := (⟨"FigureLeaveModel", "years", "(II)I"⟩, prog_13_method_80_code, 8, some .int, { frames := 3, cells := 0, slots := 0, locals := 68 })
abbrev M_M_takesBack : mI := (⟨"FigureLeaveModel", "takesBack", "(II)V"⟩, prog_13_method_81_code, 4, none, { frames := 2, cells := 0, slots := 0, locals := 45 })
abbrev M_M_part : mI := (⟨"FigureLeaveModel", "part", "(I)J"⟩, prog_13_method_82_code, 2, some .long, { frames := 1, cells := 0, slots := 0, locals := 22 })
abbrev M_M_image : mI := (⟨"FigureLeaveModel", "image", "(I)I"⟩, prog_13_method_83_code, 3, some .int, { frames := 1, cells := 0, slots := 0, locals := 22 })
abbrev M_M_from : mI := (⟨"FigureLeaveModel", "from", "(I)I"⟩, prog_13_method_84_code, 3, some .int, { frames := 1, cells := 0, slots := 0, locals := 22 })
abbrev M_M_status : mI := (⟨"FigureLeaveModel", "status", "(I)I"⟩, prog_13_method_85_code, 2, some .int, { frames := 1, cells := 0, slots := 0, locals := 22 })
abbrev M_M_counted : mI := (⟨"FigureLeaveModel", "counted", "(I)I"⟩, prog_13_method_86_code, 4, some .int, { frames := 0, cells := 0, slots := 0, locals := 0 })
abbrev M_M_count : mI := (⟨"FigureLeaveModel", "count", "(I)I"⟩, prog_13_method_87_code, 2, some .int, { frames := 1, cells := 0, slots := 0, locals := 23 })
abbrev M_M_digest : mI := (⟨"FigureLeaveModel", "digest", "()J"⟩, prog_13_method_88_code, 4, some .long, { frames := 1, cells := 0, slots := 0, locals := 23 })
abbrev M_J_length : mI := (⟨"java/lang/String", "length", "()I"⟩, prog_15_method_54_code, 1, some .int, { frames := 1, cells := 0, slots := 0, locals := 20 })
abbrev M_J_charAt : mI := (⟨"java/lang/String", "charAt", "(I)C"⟩, prog_15_method_56_code, 2, some .char, { frames := 3, cells := 0, slots := 0, locals := 64 })
abbrev M_J_coder : mI := (⟨"java/lang/String", "coder", "()B"⟩, prog_15_method_152_code, 1, some .byte, { frames := 0, cells := 0, slots := 0, locals := 0 })
abbrev M_J_isLatin1 : mI := (⟨"java/lang/String", "isLatin1", "()Z"⟩, prog_15_method_154_code, 1, some .boolean, { frames := 0, cells := 0, slots := 0, locals := 0 })
abbrev M_J_checkIndex : mI := (⟨"java/lang/String", "checkIndex", "(II)V"⟩, prog_15_method_155_code, 2, none, { frames := 1, cells := 0, slots := 0, locals := 22 })
abbrev M_Q_charAt : mI := (⟨"java/lang/StringLatin1", "charAt", "([BI)C"⟩, prog_16_method_2_code, 2, some .char, { frames := 2, cells := 0, slots := 0, locals := 43 })
abbrev M_A_fill : mI := (⟨"java/util/Arrays", "fill", "([II)V"⟩, prog_19_method_103_code, 4, none, { frames := 0, cells := 0, slots := 0, locals := 0 })
abbrev M_R_checkIndex : mI := (⟨"jdk/internal/util/Preconditions", "checkIndex", "(IILjava/util/function/BiFunction;)I"⟩, prog_20_method_11_code, 3, some .int, { frames := 0, cells := 0, slots := 0, locals := 0 })
abbrev M_W_law : mI := (x, code, maxLocals, ret, room_1)
theorem gw_s {w : Cond} (i : Nat) (h : (k2_sels lw_privs)[i]? = some w) (g : goodWord w = true) : w ∈ gw := gw_in (List.mem_append_left _ (List.mem_of_getElem? h)) g
theorem gw_1 {w : Cond} (i : Nat) (h : tables_1_1[i]? = some w) (g : goodWord w = true) : w ∈ gw := gw_in (List.mem_append_right _ (List.mem_append_left _ (List.mem_of_getElem? h))) g
theorem nw_1 {w : Cond} (i : Nat) (h : tables_1_1[i]? = some w) (g : nwk w = true) : w ∈ nw := List.mem_filter.mpr ⟨List.mem_append_right _ (List.mem_append_left _ (List.mem_of_getElem? h)), g⟩
theorem gw_2 {w : Cond} (i : Nat) (h : tables_1_2[i]? = some w) (g : goodWord w = true) : w ∈ gw := gw_in (List.mem_append_right _ (List.mem_append_right _ (List.mem_append_left _ (List.mem_of_getElem? h)))) g
theorem nw_2 {w : Cond} (i : Nat) (h : tables_1_2[i]? = some w) (g : nwk w = true) : w ∈ nw := List.mem_filter.mpr ⟨List.mem_append_right _ (List.mem_append_right _ (List.mem_append_left _ (List.mem_of_getElem? h))), g⟩
theorem gw_3 {w : Cond} (i : Nat) (h : tables_1_3[i]? = some w) (g : goodWord w = true) : w ∈ gw := gw_in (List.mem_append_right _ (List.mem_append_right _ (List.mem_append_right _ (List.mem_append_left _ (List.mem_of_getElem? h))))) g
theorem nw_3 {w : Cond} (i : Nat) (h : tables_1_3[i]? = some w) (g : nwk w = true) : w ∈ nw := List.mem_filter.mpr ⟨List.mem_append_right _ (List.mem_append_right _ (List.mem_append_right _ (List.mem_append_left _ (List.mem_of_getElem? h)))), g⟩
theorem gw_4 {w : Cond} (i : Nat) (h : tables_1_4[i]? = some w) (g : goodWord w = true) : w ∈ gw := gw_in (List.mem_append_right _ (List.mem_append_right _ (List.mem_append_right _ (List.mem_append_right _ (List.mem_append_left _ (List.mem_of_getElem? h)))))) g
theorem nw_4 {w : Cond} (i : Nat) (h : tables_1_4[i]? = some w) (g : nwk w = true) : w ∈ nw := List.mem_filter.mpr ⟨List.mem_append_right _ (List.mem_append_right _ (List.mem_append_right _ (List.mem_append_right _ (List.mem_append_left _ (List.mem_of_getElem? h))))), g⟩
theorem gw_5 {w : Cond} (i : Nat) (h : tables_1_5[i]? = some w) (g : goodWord w = true) : w ∈ gw := gw_in (List.mem_append_right _ (List.mem_append_right _ (List.mem_append_right _ (List.mem_append_right _ (List.mem_append_right _ (List.mem_append_left _ (List.mem_of_getElem? h))))))) g
theorem nw_5 {w : Cond} (i : Nat) (h : tables_1_5[i]? = some w) (g : nwk w = true) : w ∈ nw := List.mem_filter.mpr ⟨List.mem_append_right _ (List.mem_append_right _ (List.mem_append_right _ (List.mem_append_right _ (List.mem_append_right _ (List.mem_append_left _ (List.mem_of_getElem? h)))))), g⟩
theorem gw_6 {w : Cond} (i : Nat) (h : tables_1_6[i]? = some w) (g : goodWord w = true) : w ∈ gw := gw_in (List.mem_append_right _ (List.mem_append_right _ (List.mem_append_right _ (List.mem_append_right _ (List.mem_append_right _ (List.mem_append_right _ (List.mem_of_getElem? h))))))) g
theorem nw_6 {w : Cond} (i : Nat) (h : tables_1_6[i]? = some w) (g : nwk w = true) : w ∈ nw := List.mem_filter.mpr ⟨List.mem_append_right _ (List.mem_append_right _ (List.mem_append_right _ (List.mem_append_right _ (List.mem_append_right _ (List.mem_append_right _ (List.mem_of_getElem? h)))))), g⟩
theorem m_B_init : fMN M_B_init 0 := ⟨⟨rfl, gw_1 60 (by decide +kernel) (by decide +kernel), rfl⟩, ⟨gw_1 61 (by decide +kernel) (by decide +kernel), gw_1 4 (by decide +kernel) (by decide +kernel), by decide, by decide, by decide +kernel⟩⟩
theorem m_B_begin : fMV M_B_begin 0 := ⟨⟨gw_2 89 (by decide +kernel) (by decide +kernel), gw_s 2 (by decide +kernel) (by decide +kernel)⟩, ⟨gw_2 90 (by decide +kernel) (by decide +kernel), gw_1 4 (by decide +kernel) (by decide +kernel), by decide, by decide, by decide +kernel⟩⟩
theorem m_B_become : fMV M_B_become 1 := ⟨⟨gw_3 72 (by decide +kernel) (by decide +kernel), gw_s 31 (by decide +kernel) (by decide +kernel)⟩, ⟨gw_3 73 (by decide +kernel) (by decide +kernel), gw_1 4 (by decide +kernel) (by decide +kernel), by decide, by decide, by decide +kernel⟩⟩
theorem m_B_holds : fMV M_B_holds 1 := ⟨⟨gw_3 118 (by decide +kernel) (by decide +kernel), gw_s 39 (by decide +kernel) (by decide +kernel)⟩, ⟨gw_3 119 (by decide +kernel) (by decide +kernel), gw_1 4 (by decide +kernel) (by decide +kernel), by decide, by decide, by decide +kernel⟩⟩
theorem m_B_isPaid : fMV M_B_isPaid 1 := ⟨⟨gw_3 122 (by decide +kernel) (by decide +kernel), gw_s 40 (by decide +kernel) (by decide +kernel)⟩, ⟨gw_3 123 (by decide +kernel) (by decide +kernel), gw_1 4 (by decide +kernel) (by decide +kernel), by decide, by decide, by decide +kernel⟩⟩
theorem m_B_add : fMV M_B_add 2 := ⟨⟨gw_2 135 (by decide +kernel) (by decide +kernel), gw_s 9 (by decide +kernel) (by decide +kernel)⟩, ⟨gw_2 136 (by decide +kernel) (by decide +kernel), gw_1 4 (by decide +kernel) (by decide +kernel), by decide, by decide, by decide +kernel⟩⟩
theorem m_B_settle : fMV M_B_settle 1 := ⟨⟨gw_3 126 (by decide +kernel) (by decide +kernel), gw_s 41 (by decide +kernel) (by decide +kernel)⟩, ⟨gw_3 127 (by decide +kernel) (by decide +kernel), gw_1 4 (by decide +kernel) (by decide +kernel), by decide, by decide, by decide +kernel⟩⟩
theorem m_B_worthOf : fMV M_B_worthOf 1 := ⟨⟨gw_3 227 (by decide +kernel) (by decide +kernel), gw_s 51 (by decide +kernel) (by decide +kernel)⟩, ⟨gw_3 228 (by decide +kernel) (by decide +kernel), gw_1 4 (by decide +kernel) (by decide +kernel), by decide, by decide, by decide +kernel⟩⟩
theorem m_K_init : fMN M_K_init 0 := ⟨⟨rfl, gw_1 186 (by decide +kernel) (by decide +kernel), rfl⟩, ⟨gw_1 187 (by decide +kernel) (by decide +kernel), gw_1 8 (by decide +kernel) (by decide +kernel), by decide, by decide, by decide +kernel⟩⟩
theorem m_K_cheapest : fMV M_K_cheapest 2 := ⟨⟨gw_3 181 (by decide +kernel) (by decide +kernel), gw_s 45 (by decide +kernel) (by decide +kernel)⟩, ⟨gw_3 182 (by decide +kernel) (by decide +kernel), gw_1 8 (by decide +kernel) (by decide +kernel), by decide, by decide, by decide +kernel⟩⟩
theorem m_K_firstWithout : fMV M_K_firstWithout 1 := ⟨⟨gw_3 192 (by decide +kernel) (by decide +kernel), gw_s 46 (by decide +kernel) (by decide +kernel)⟩, ⟨gw_3 193 (by decide +kernel) (by decide +kernel), gw_1 8 (by decide +kernel) (by decide +kernel), by decide, by decide, by decide +kernel⟩⟩
theorem m_K_byAny : fMV M_K_byAny 2 := ⟨⟨gw_3 196 (by decide +kernel) (by decide +kernel), gw_s 47 (by decide +kernel) (by decide +kernel)⟩, ⟨gw_3 197 (by decide +kernel) (by decide +kernel), gw_1 8 (by decide +kernel) (by decide +kernel), by decide, by decide, by decide +kernel⟩⟩
theorem m_K_countOn : fMV M_K_countOn 1 := ⟨⟨gw_3 204 (by decide +kernel) (by decide +kernel), gw_s 48 (by decide +kernel) (by decide +kernel)⟩, ⟨gw_3 205 (by decide +kernel) (by decide +kernel), gw_1 8 (by decide +kernel) (by decide +kernel), by decide, by decide, by decide +kernel⟩⟩
theorem m_K_nightsTill : fMV M_K_nightsTill 3 := ⟨⟨gw_3 214 (by decide +kernel) (by decide +kernel), gw_s 49 (by decide +kernel) (by decide +kernel)⟩, ⟨gw_3 215 (by decide +kernel) (by decide +kernel), gw_1 8 (by decide +kernel) (by decide +kernel), by decide, by decide, by decide +kernel⟩⟩
theorem m_K_dearestBills : fMV M_K_dearestBills 1 := ⟨⟨gw_3 223 (by decide +kernel) (by decide +kernel), gw_s 50 (by decide +kernel) (by decide +kernel)⟩, ⟨gw_3 224 (by decide +kernel) (by decide +kernel), gw_1 8 (by decide +kernel) (by decide +kernel), by decide, by decide, by decide +kernel⟩⟩
theorem m_K_goTogether : fMV M_K_goTogether 2 := ⟨⟨gw_3 231 (by decide +kernel) (by decide +kernel), gw_s 52 (by decide +kernel) (by decide +kernel)⟩, ⟨gw_3 232 (by decide +kernel) (by decide +kernel), gw_1 8 (by decide +kernel) (by decide +kernel), by decide, by decide, by decide +kernel⟩⟩
theorem m_K_planDays : fMV M_K_planDays 1 := ⟨⟨gw_4 0 (by decide +kernel) (by decide +kernel), gw_s 53 (by decide +kernel) (by decide +kernel)⟩, ⟨gw_4 1 (by decide +kernel) (by decide +kernel), gw_1 8 (by decide +kernel) (by decide +kernel), by decide, by decide, by decide +kernel⟩⟩
theorem m_K_plannedDay : fMV M_K_plannedDay 1 := ⟨⟨gw_4 14 (by decide +kernel) (by decide +kernel), gw_s 56 (by decide +kernel) (by decide +kernel)⟩, ⟨gw_4 15 (by decide +kernel) (by decide +kernel), gw_1 8 (by decide +kernel) (by decide +kernel), by decide, by decide, by decide +kernel⟩⟩
theorem m_K_planWithin : fMV M_K_planWithin 2 := ⟨⟨gw_4 5 (by decide +kernel) (by decide +kernel), gw_s 54 (by decide +kernel) (by decide +kernel)⟩, ⟨gw_4 6 (by decide +kernel) (by decide +kernel), gw_1 8 (by decide +kernel) (by decide +kernel), by decide, by decide, by decide +kernel⟩⟩
theorem m_K_holdsSoFar : fMV M_K_holdsSoFar 3 := ⟨⟨gw_4 10 (by decide +kernel) (by decide +kernel), gw_s 55 (by decide +kernel) (by decide +kernel)⟩, ⟨gw_4 11 (by decide +kernel) (by decide +kernel), gw_1 8 (by decide +kernel) (by decide +kernel), by decide, by decide, by decide +kernel⟩⟩
theorem m_K_mostWanted : fMV M_K_mostWanted 1 := ⟨⟨gw_4 22 (by decide +kernel) (by decide +kernel), gw_s 57 (by decide +kernel) (by decide +kernel)⟩, ⟨gw_4 23 (by decide +kernel) (by decide +kernel), gw_1 8 (by decide +kernel) (by decide +kernel), by decide, by decide, by decide +kernel⟩⟩
theorem m_K_numbersWith : fMV M_K_numbersWith 2 := ⟨⟨gw_4 26 (by decide +kernel) (by decide +kernel), gw_s 58 (by decide +kernel) (by decide +kernel)⟩, ⟨gw_4 27 (by decide +kernel) (by decide +kernel), gw_1 8 (by decide +kernel) (by decide +kernel), by decide, by decide, by decide +kernel⟩⟩
theorem m_K_restingPairs : fMV M_K_restingPairs 3 := ⟨⟨gw_4 106 (by decide +kernel) (by decide +kernel), gw_s 69 (by decide +kernel) (by decide +kernel)⟩, ⟨gw_4 107 (by decide +kernel) (by decide +kernel), gw_1 8 (by decide +kernel) (by decide +kernel), by decide, by decide, by decide +kernel⟩⟩
theorem m_K_gain : fMV M_K_gain 5 := ⟨⟨gw_4 110 (by decide +kernel) (by decide +kernel), gw_s 70 (by decide +kernel) (by decide +kernel)⟩, ⟨gw_4 111 (by decide +kernel) (by decide +kernel), gw_1 8 (by decide +kernel) (by decide +kernel), by decide, by decide, by decide +kernel⟩⟩
theorem m_K_luckyWays : fMV M_K_luckyWays 3 := ⟨⟨gw_4 118 (by decide +kernel) (by decide +kernel), gw_s 71 (by decide +kernel) (by decide +kernel)⟩, ⟨gw_4 119 (by decide +kernel) (by decide +kernel), gw_1 8 (by decide +kernel) (by decide +kernel), by decide, by decide, by decide +kernel⟩⟩
theorem m_K_bearsFree : fMV M_K_bearsFree 3 := ⟨⟨gw_4 122 (by decide +kernel) (by decide +kernel), gw_s 72 (by decide +kernel) (by decide +kernel)⟩, ⟨gw_4 123 (by decide +kernel) (by decide +kernel), gw_1 8 (by decide +kernel) (by decide +kernel), by decide, by decide, by decide +kernel⟩⟩
theorem m_K_waysOf : fMV M_K_waysOf 3 := ⟨⟨gw_4 128 (by decide +kernel) (by decide +kernel), gw_s 73 (by decide +kernel) (by decide +kernel)⟩, ⟨gw_4 129 (by decide +kernel) (by decide +kernel), gw_1 8 (by decide +kernel) (by decide +kernel), by decide, by decide, by decide +kernel⟩⟩
theorem m_K_writtenBySeed : fMV M_K_writtenBySeed 3 := ⟨⟨gw_4 141 (by decide +kernel) (by decide +kernel), gw_s 75 (by decide +kernel) (by decide +kernel)⟩, ⟨gw_4 142 (by decide +kernel) (by decide +kernel), gw_1 8 (by decide +kernel) (by decide +kernel), by decide, by decide, by decide +kernel⟩⟩
theorem m_C_init : fMN M_C_init 0 := ⟨⟨rfl, gw_1 97 (by decide +kernel) (by decide +kernel), rfl⟩, ⟨gw_1 98 (by decide +kernel) (by decide +kernel), gw_1 5 (by decide +kernel) (by decide +kernel), by decide, by decide, by decide +kernel⟩⟩
theorem m_C_become : fMV M_C_become 1 := ⟨⟨gw_3 77 (by decide +kernel) (by decide +kernel), gw_s 32 (by decide +kernel) (by decide +kernel)⟩, ⟨gw_3 78 (by decide +kernel) (by decide +kernel), gw_1 5 (by decide +kernel) (by decide +kernel), by decide, by decide, by decide +kernel⟩⟩
theorem m_C_addTrace : fMV M_C_addTrace 2 := ⟨⟨gw_4 36 (by decide +kernel) (by decide +kernel), gw_s 59 (by decide +kernel) (by decide +kernel)⟩, ⟨gw_4 37 (by decide +kernel) (by decide +kernel), gw_1 5 (by decide +kernel) (by decide +kernel), by decide, by decide, by decide +kernel⟩⟩
theorem m_C_addNote : fMV M_C_addNote 4 := ⟨⟨gw_4 66 (by decide +kernel) (by decide +kernel), gw_s 64 (by decide +kernel) (by decide +kernel)⟩, ⟨gw_4 67 (by decide +kernel) (by decide +kernel), gw_1 5 (by decide +kernel) (by decide +kernel), by decide, by decide, by decide +kernel⟩⟩
theorem m_C_dropTraces : fMV M_C_dropTraces 0 := ⟨⟨gw_2 93 (by decide +kernel) (by decide +kernel), gw_s 3 (by decide +kernel) (by decide +kernel)⟩, ⟨gw_2 94 (by decide +kernel) (by decide +kernel), gw_1 5 (by decide +kernel) (by decide +kernel), by decide, by decide, by decide +kernel⟩⟩
theorem m_C_dropNotes : fMV M_C_dropNotes 0 := ⟨⟨gw_2 97 (by decide +kernel) (by decide +kernel), gw_s 4 (by decide +kernel) (by decide +kernel)⟩, ⟨gw_2 98 (by decide +kernel) (by decide +kernel), gw_1 5 (by decide +kernel) (by decide +kernel), by decide, by decide, by decide +kernel⟩⟩
theorem m_C_kindsOf : fMV M_C_kindsOf 1 := ⟨⟨gw_4 80 (by decide +kernel) (by decide +kernel), gw_s 65 (by decide +kernel) (by decide +kernel)⟩, ⟨gw_4 81 (by decide +kernel) (by decide +kernel), gw_1 5 (by decide +kernel) (by decide +kernel), by decide, by decide, by decide +kernel⟩⟩
theorem m_C_mayBe : fMV M_C_mayBe 2 := ⟨⟨gw_4 84 (by decide +kernel) (by decide +kernel), gw_s 66 (by decide +kernel) (by decide +kernel)⟩, ⟨gw_4 85 (by decide +kernel) (by decide +kernel), gw_1 5 (by decide +kernel) (by decide +kernel), by decide, by decide, by decide +kernel⟩⟩
theorem m_C_mixInto : fMV M_C_mixInto 1 := ⟨⟨gw_4 189 (by decide +kernel) (by decide +kernel), gw_s 79 (by decide +kernel) (by decide +kernel)⟩, ⟨gw_4 190 (by decide +kernel) (by decide +kernel), gw_1 5 (by decide +kernel) (by decide +kernel), by decide, by decide, by decide +kernel⟩⟩
theorem m_H_init : fMN M_H_init 0 := ⟨⟨rfl, gw_1 31 (by decide +kernel) (by decide +kernel), rfl⟩, ⟨gw_1 32 (by decide +kernel) (by decide +kernel), gw_1 2 (by decide +kernel) (by decide +kernel), by decide, by decide, by decide +kernel⟩⟩
theorem m_H_begin : fMV M_H_begin 0 := ⟨⟨gw_2 80 (by decide +kernel) (by decide +kernel), gw_s 0 (by decide +kernel) (by decide +kernel)⟩, ⟨gw_2 81 (by decide +kernel) (by decide +kernel), gw_1 2 (by decide +kernel) (by decide +kernel), by decide, by decide, by decide +kernel⟩⟩
theorem m_H_become : fMV M_H_become 1 := ⟨⟨gw_3 60 (by decide +kernel) (by decide +kernel), gw_s 29 (by decide +kernel) (by decide +kernel)⟩, ⟨gw_3 61 (by decide +kernel) (by decide +kernel), gw_1 2 (by decide +kernel) (by decide +kernel), by decide, by decide, by decide +kernel⟩⟩
theorem m_H_tellFigure : fMV M_H_tellFigure 3 := ⟨⟨gw_2 115 (by decide +kernel) (by decide +kernel), gw_s 6 (by decide +kernel) (by decide +kernel)⟩, ⟨gw_2 116 (by decide +kernel) (by decide +kernel), gw_1 2 (by decide +kernel) (by decide +kernel), by decide, by decide, by decide +kernel⟩⟩
theorem m_H_tellBill : fMV M_H_tellBill 2 := ⟨⟨gw_2 131 (by decide +kernel) (by decide +kernel), gw_s 8 (by decide +kernel) (by decide +kernel)⟩, ⟨gw_2 132 (by decide +kernel) (by decide +kernel), gw_1 2 (by decide +kernel) (by decide +kernel), by decide, by decide, by decide +kernel⟩⟩
theorem m_H_remember : fMV M_H_remember 0 := ⟨⟨gw_3 101 (by decide +kernel) (by decide +kernel), gw_s 36 (by decide +kernel) (by decide +kernel)⟩, ⟨gw_3 102 (by decide +kernel) (by decide +kernel), gw_1 2 (by decide +kernel) (by decide +kernel), by decide, by decide, by decide +kernel⟩⟩
theorem m_H_goBack : fMV M_H_goBack 0 := ⟨⟨gw_3 140 (by decide +kernel) (by decide +kernel), gw_s 42 (by decide +kernel) (by decide +kernel)⟩, ⟨gw_3 141 (by decide +kernel) (by decide +kernel), gw_1 2 (by decide +kernel) (by decide +kernel), by decide, by decide, by decide +kernel⟩⟩
theorem m_H_sleep : fMV M_H_sleep 1 := ⟨⟨gw_3 38 (by decide +kernel) (by decide +kernel), gw_s 26 (by decide +kernel) (by decide +kernel)⟩, ⟨gw_3 39 (by decide +kernel) (by decide +kernel), gw_1 2 (by decide +kernel) (by decide +kernel), by decide, by decide, by decide +kernel⟩⟩
theorem m_H_rests : fMV M_H_rests 1 := ⟨⟨gw_3 42 (by decide +kernel) (by decide +kernel), gw_s 27 (by decide +kernel) (by decide +kernel)⟩, ⟨gw_3 43 (by decide +kernel) (by decide +kernel), gw_1 2 (by decide +kernel) (by decide +kernel), by decide, by decide, by decide +kernel⟩⟩
theorem m_H_costOf : fMV M_H_costOf 1 := ⟨⟨gw_3 110 (by decide +kernel) (by decide +kernel), gw_s 38 (by decide +kernel) (by decide +kernel)⟩, ⟨gw_3 111 (by decide +kernel) (by decide +kernel), gw_1 2 (by decide +kernel) (by decide +kernel), by decide, by decide, by decide +kernel⟩⟩
theorem m_H_puts : fMV M_H_puts 2 := ⟨⟨gw_3 18 (by decide +kernel) (by decide +kernel), gw_s 22 (by decide +kernel) (by decide +kernel)⟩, ⟨gw_3 19 (by decide +kernel) (by decide +kernel), gw_1 2 (by decide +kernel) (by decide +kernel), by decide, by decide, by decide +kernel⟩⟩
theorem m_H_takes : fMV M_H_takes 2 := ⟨⟨gw_3 93 (by decide +kernel) (by decide +kernel), gw_s 34 (by decide +kernel) (by decide +kernel)⟩, ⟨gw_3 94 (by decide +kernel) (by decide +kernel), gw_1 2 (by decide +kernel) (by decide +kernel), by decide, by decide, by decide +kernel⟩⟩
theorem m_H_wearBy : fMV M_H_wearBy 3 := ⟨⟨gw_3 22 (by decide +kernel) (by decide +kernel), gw_s 23 (by decide +kernel) (by decide +kernel)⟩, ⟨gw_3 23 (by decide +kernel) (by decide +kernel), gw_1 2 (by decide +kernel) (by decide +kernel), by decide, by decide, by decide +kernel⟩⟩
theorem m_H_bears : fMV M_H_bears 2 := ⟨⟨gw_3 29 (by decide +kernel) (by decide +kernel), gw_s 24 (by decide +kernel) (by decide +kernel)⟩, ⟨gw_3 30 (by decide +kernel) (by decide +kernel), gw_1 2 (by decide +kernel) (by decide +kernel), by decide, by decide, by decide +kernel⟩⟩
theorem m_H_leftOf : fMV M_H_leftOf 1 := ⟨⟨gw_3 152 (by decide +kernel) (by decide +kernel), gw_s 44 (by decide +kernel) (by decide +kernel)⟩, ⟨gw_3 153 (by decide +kernel) (by decide +kernel), gw_1 2 (by decide +kernel) (by decide +kernel), by decide, by decide, by decide +kernel⟩⟩
theorem m_H_mixInto : fMV M_H_mixInto 1 := ⟨⟨gw_4 184 (by decide +kernel) (by decide +kernel), gw_s 78 (by decide +kernel) (by decide +kernel)⟩, ⟨gw_4 185 (by decide +kernel) (by decide +kernel), gw_1 2 (by decide +kernel) (by decide +kernel), by decide, by decide, by decide +kernel⟩⟩
theorem m_I_wear : fMS M_I_wear 3 := ⟨gw_3 25 (by decide +kernel) (by decide +kernel), ⟨gw_3 26 (by decide +kernel) (by decide +kernel), gw_1 18 (by decide +kernel) (by decide +kernel), by decide, by decide, by decide +kernel⟩⟩
theorem m_I_rest : fMS M_I_rest 2 := ⟨gw_3 45 (by decide +kernel) (by decide +kernel), ⟨gw_3 46 (by decide +kernel) (by decide +kernel), gw_1 18 (by decide +kernel) (by decide +kernel), by decide, by decide, by decide +kernel⟩⟩
theorem m_L_init : fMN M_L_init 0 := ⟨⟨rfl, gw_1 192 (by decide +kernel) (by decide +kernel), rfl⟩, ⟨gw_1 193 (by decide +kernel) (by decide +kernel), gw_1 9 (by decide +kernel) (by decide +kernel), by decide, by decide, by decide +kernel⟩⟩
theorem m_L_tell : fMV M_L_tell 2 := ⟨⟨gw_3 7 (by decide +kernel) (by decide +kernel), gw_s 20 (by decide +kernel) (by decide +kernel)⟩, ⟨gw_3 8 (by decide +kernel) (by decide +kernel), gw_1 9 (by decide +kernel) (by decide +kernel), by decide, by decide, by decide +kernel⟩⟩
theorem m_L_addNumber : fMV M_L_addNumber 1 := ⟨⟨gw_3 11 (by decide +kernel) (by decide +kernel), gw_s 21 (by decide +kernel) (by decide +kernel)⟩, ⟨gw_3 12 (by decide +kernel) (by decide +kernel), gw_1 9 (by decide +kernel) (by decide +kernel), by decide, by decide, by decide +kernel⟩⟩
theorem m_P_init : fMN M_P_init 0 := ⟨⟨rfl, gw_1 133 (by decide +kernel) (by decide +kernel), rfl⟩, ⟨gw_1 134 (by decide +kernel) (by decide +kernel), gw_1 6 (by decide +kernel) (by decide +kernel), by decide, by decide, by decide +kernel⟩⟩
theorem m_P_become : fMV M_P_become 1 := ⟨⟨gw_3 82 (by decide +kernel) (by decide +kernel), gw_s 33 (by decide +kernel) (by decide +kernel)⟩, ⟨gw_3 83 (by decide +kernel) (by decide +kernel), gw_1 6 (by decide +kernel) (by decide +kernel), by decide, by decide, by decide +kernel⟩⟩
theorem m_P_push : fMV M_P_push 2 := ⟨⟨gw_3 105 (by decide +kernel) (by decide +kernel), gw_s 37 (by decide +kernel) (by decide +kernel)⟩, ⟨gw_3 106 (by decide +kernel) (by decide +kernel), gw_1 6 (by decide +kernel) (by decide +kernel), by decide, by decide, by decide +kernel⟩⟩
theorem m_P_pop : fMV M_P_pop 2 := ⟨⟨gw_3 144 (by decide +kernel) (by decide +kernel), gw_s 43 (by decide +kernel) (by decide +kernel)⟩, ⟨gw_3 145 (by decide +kernel) (by decide +kernel), gw_1 6 (by decide +kernel) (by decide +kernel), by decide, by decide, by decide +kernel⟩⟩
theorem m_S_init : fMN M_S_init 0 := ⟨⟨rfl, gw_1 37 (by decide +kernel) (by decide +kernel), rfl⟩, ⟨gw_1 38 (by decide +kernel) (by decide +kernel), gw_1 3 (by decide +kernel) (by decide +kernel), by decide, by decide, by decide +kernel⟩⟩
theorem m_S_begin : fMV M_S_begin 0 := ⟨⟨gw_2 84 (by decide +kernel) (by decide +kernel), gw_s 1 (by decide +kernel) (by decide +kernel)⟩, ⟨gw_2 85 (by decide +kernel) (by decide +kernel), gw_1 3 (by decide +kernel) (by decide +kernel), by decide, by decide, by decide +kernel⟩⟩
theorem m_S_become : fMV M_S_become 1 := ⟨⟨gw_3 67 (by decide +kernel) (by decide +kernel), gw_s 30 (by decide +kernel) (by decide +kernel)⟩, ⟨gw_3 68 (by decide +kernel) (by decide +kernel), gw_1 3 (by decide +kernel) (by decide +kernel), by decide, by decide, by decide +kernel⟩⟩
theorem m_S_wornTogether : fMV M_S_wornTogether 0 := ⟨⟨gw_4 174 (by decide +kernel) (by decide +kernel), gw_s 77 (by decide +kernel) (by decide +kernel)⟩, ⟨gw_4 175 (by decide +kernel) (by decide +kernel), gw_1 3 (by decide +kernel) (by decide +kernel), by decide, by decide, by decide +kernel⟩⟩
theorem m_U_init : fMN M_U_init 0 := ⟨⟨rfl, gw_1 233 (by decide +kernel) (by decide +kernel), rfl⟩, ⟨gw_1 234 (by decide +kernel) (by decide +kernel), gw_1 10 (by decide +kernel) (by decide +kernel), by decide, by decide, by decide +kernel⟩⟩
theorem m_U_howManyLines : fMV M_U_howManyLines 1 := ⟨⟨gw_4 44 (by decide +kernel) (by decide +kernel), gw_s 60 (by decide +kernel) (by decide +kernel)⟩, ⟨gw_4 45 (by decide +kernel) (by decide +kernel), gw_1 10 (by decide +kernel) (by decide +kernel), by decide, by decide, by decide +kernel⟩⟩
theorem m_U_lineAt : fMV M_U_lineAt 2 := ⟨⟨gw_4 58 (by decide +kernel) (by decide +kernel), gw_s 63 (by decide +kernel) (by decide +kernel)⟩, ⟨gw_4 59 (by decide +kernel) (by decide +kernel), gw_1 10 (by decide +kernel) (by decide +kernel), by decide, by decide, by decide +kernel⟩⟩
theorem m_U_fitsTraces : fMV M_U_fitsTraces 2 := ⟨⟨gw_4 48 (by decide +kernel) (by decide +kernel), gw_s 61 (by decide +kernel) (by decide +kernel)⟩, ⟨gw_4 49 (by decide +kernel) (by decide +kernel), gw_1 10 (by decide +kernel) (by decide +kernel), by decide, by decide, by decide +kernel⟩⟩
theorem m_U_moreWorn : fMV M_U_moreWorn 2 := ⟨⟨gw_4 53 (by decide +kernel) (by decide +kernel), gw_s 62 (by decide +kernel) (by decide +kernel)⟩, ⟨gw_4 54 (by decide +kernel) (by decide +kernel), gw_1 10 (by decide +kernel) (by decide +kernel), by decide, by decide, by decide +kernel⟩⟩
theorem m_U_nextLook : fMV M_U_nextLook 1 := ⟨⟨gw_4 93 (by decide +kernel) (by decide +kernel), gw_s 67 (by decide +kernel) (by decide +kernel)⟩, ⟨gw_4 94 (by decide +kernel) (by decide +kernel), gw_1 10 (by decide +kernel) (by decide +kernel), by decide, by decide, by decide +kernel⟩⟩
theorem m_U_mostAlike : fMV M_U_mostAlike 3 := ⟨⟨gw_4 97 (by decide +kernel) (by decide +kernel), gw_s 68 (by decide +kernel) (by decide +kernel)⟩, ⟨gw_4 98 (by decide +kernel) (by decide +kernel), gw_1 10 (by decide +kernel) (by decide +kernel), by decide, by decide, by decide +kernel⟩⟩
theorem m_T_init : fMN M_T_init 0 := ⟨⟨rfl, gw_2 5 (by decide +kernel) (by decide +kernel), rfl⟩, ⟨gw_2 6 (by decide +kernel) (by decide +kernel), gw_1 11 (by decide +kernel) (by decide +kernel), by decide, by decide, by decide +kernel⟩⟩
theorem m_T_readInto : fMV M_T_readInto 1 := ⟨⟨gw_2 151 (by decide +kernel) (by decide +kernel), gw_s 10 (by decide +kernel) (by decide +kernel)⟩, ⟨gw_2 152 (by decide +kernel) (by decide +kernel), gw_1 11 (by decide +kernel) (by decide +kernel), by decide, by decide, by decide +kernel⟩⟩
theorem m_T_readItem : fMV M_T_readItem 2 := ⟨⟨gw_2 168 (by decide +kernel) (by decide +kernel), gw_s 14 (by decide +kernel) (by decide +kernel)⟩, ⟨gw_2 169 (by decide +kernel) (by decide +kernel), gw_1 11 (by decide +kernel) (by decide +kernel), by decide, by decide, by decide +kernel⟩⟩
theorem m_T_readFigure : fMV M_T_readFigure 1 := ⟨⟨gw_2 226 (by decide +kernel) (by decide +kernel), gw_s 16 (by decide +kernel) (by decide +kernel)⟩, ⟨gw_2 227 (by decide +kernel) (by decide +kernel), gw_1 11 (by decide +kernel) (by decide +kernel), by decide, by decide, by decide +kernel⟩⟩
theorem m_T_readBill : fMV M_T_readBill 1 := ⟨⟨gw_2 237 (by decide +kernel) (by decide +kernel), gw_s 18 (by decide +kernel) (by decide +kernel)⟩, ⟨gw_2 238 (by decide +kernel) (by decide +kernel), gw_1 11 (by decide +kernel) (by decide +kernel), by decide, by decide, by decide +kernel⟩⟩
theorem m_T_readWrite : fMV M_T_readWrite 1 := ⟨⟨gw_3 3 (by decide +kernel) (by decide +kernel), gw_s 19 (by decide +kernel) (by decide +kernel)⟩, ⟨gw_3 4 (by decide +kernel) (by decide +kernel), gw_1 11 (by decide +kernel) (by decide +kernel), by decide, by decide, by decide +kernel⟩⟩
theorem m_T_readNight : fMV M_T_readNight 1 := ⟨⟨gw_3 34 (by decide +kernel) (by decide +kernel), gw_s 25 (by decide +kernel) (by decide +kernel)⟩, ⟨gw_3 35 (by decide +kernel) (by decide +kernel), gw_1 11 (by decide +kernel) (by decide +kernel), by decide, by decide, by decide +kernel⟩⟩
theorem m_T_nextIsNumber : fMV M_T_nextIsNumber 2 := ⟨⟨gw_2 230 (by decide +kernel) (by decide +kernel), gw_s 17 (by decide +kernel) (by decide +kernel)⟩, ⟨gw_2 231 (by decide +kernel) (by decide +kernel), gw_1 11 (by decide +kernel) (by decide +kernel), by decide, by decide, by decide +kernel⟩⟩
theorem m_T_nextIsStop : fMV M_T_nextIsStop 0 := ⟨⟨gw_3 56 (by decide +kernel) (by decide +kernel), gw_s 28 (by decide +kernel) (by decide +kernel)⟩, ⟨gw_3 57 (by decide +kernel) (by decide +kernel), gw_1 11 (by decide +kernel) (by decide +kernel), by decide, by decide, by decide +kernel⟩⟩
theorem m_T_nextToken : fMV M_T_nextToken 0 := ⟨⟨gw_2 156 (by decide +kernel) (by decide +kernel), gw_s 11 (by decide +kernel) (by decide +kernel)⟩, ⟨gw_2 157 (by decide +kernel) (by decide +kernel), gw_1 11 (by decide +kernel) (by decide +kernel), by decide, by decide, by decide +kernel⟩⟩
theorem m_T_weighNumber : fMV M_T_weighNumber 0 := ⟨⟨gw_2 164 (by decide +kernel) (by decide +kernel), gw_s 13 (by decide +kernel) (by decide +kernel)⟩, ⟨gw_2 165 (by decide +kernel) (by decide +kernel), gw_1 11 (by decide +kernel) (by decide +kernel), by decide, by decide, by decide +kernel⟩⟩
theorem m_T_isWord : fMV M_T_isWord 1 := ⟨⟨gw_2 173 (by decide +kernel) (by decide +kernel), gw_s 15 (by decide +kernel) (by decide +kernel)⟩, ⟨gw_2 174 (by decide +kernel) (by decide +kernel), gw_1 11 (by decide +kernel) (by decide +kernel), by decide, by decide, by decide +kernel⟩⟩
theorem m_T_sortAt : fMV M_T_sortAt 1 := ⟨⟨gw_2 160 (by decide +kernel) (by decide +kernel), gw_s 12 (by decide +kernel) (by decide +kernel)⟩, ⟨gw_2 161 (by decide +kernel) (by decide +kernel), gw_1 11 (by decide +kernel) (by decide +kernel), by decide, by decide, by decide +kernel⟩⟩
theorem m_F_init : fMN M_F_init 0 := ⟨⟨rfl, gw_1 23 (by decide +kernel) (by decide +kernel), rfl⟩, ⟨gw_1 24 (by decide +kernel) (by decide +kernel), gw_1 1 (by decide +kernel) (by decide +kernel), by decide, by decide, by decide +kernel⟩⟩
theorem m_F_house : fMV M_F_house 0 := ⟨⟨gw_2 75 (by decide +kernel) (by decide +kernel), gw_2 76 (by decide +kernel) (by decide +kernel)⟩, ⟨gw_2 77 (by decide +kernel) (by decide +kernel), gw_1 1 (by decide +kernel) (by decide +kernel), by decide, by decide, by decide +kernel⟩⟩
theorem m_F_figure : fMV M_F_figure 3 := ⟨⟨gw_2 100 (by decide +kernel) (by decide +kernel), gw_2 101 (by decide +kernel) (by decide +kernel)⟩, ⟨gw_2 102 (by decide +kernel) (by decide +kernel), gw_1 1 (by decide +kernel) (by decide +kernel), by decide, by decide, by decide +kernel⟩⟩
theorem m_F_bill : fMV M_F_bill 2 := ⟨⟨gw_2 119 (by decide +kernel) (by decide +kernel), gw_2 120 (by decide +kernel) (by decide +kernel)⟩, ⟨gw_2 121 (by decide +kernel) (by decide +kernel), gw_1 1 (by decide +kernel) (by decide +kernel), by decide, by decide, by decide +kernel⟩⟩
theorem m_F_type : fMV M_F_type 1 := ⟨⟨gw_2 138 (by decide +kernel) (by decide +kernel), gw_2 139 (by decide +kernel) (by decide +kernel)⟩, ⟨gw_2 140 (by decide +kernel) (by decide +kernel), gw_1 1 (by decide +kernel) (by decide +kernel), by decide, by decide, by decide +kernel⟩⟩
theorem m_F_clear : fMV M_F_clear 0 := ⟨⟨gw_2 142 (by decide +kernel) (by decide +kernel), gw_2 143 (by decide +kernel) (by decide +kernel)⟩, ⟨gw_2 144 (by decide +kernel) (by decide +kernel), gw_1 1 (by decide +kernel) (by decide +kernel), by decide, by decide, by decide +kernel⟩⟩
theorem m_F_read : fMV M_F_read 0 := ⟨⟨gw_2 146 (by decide +kernel) (by decide +kernel), gw_2 147 (by decide +kernel) (by decide +kernel)⟩, ⟨gw_2 148 (by decide +kernel) (by decide +kernel), gw_1 1 (by decide +kernel) (by decide +kernel), by decide, by decide, by decide +kernel⟩⟩
theorem m_F_write : fMV M_F_write 2 := ⟨⟨gw_3 87 (by decide +kernel) (by decide +kernel), gw_3 88 (by decide +kernel) (by decide +kernel)⟩, ⟨gw_3 89 (by decide +kernel) (by decide +kernel), gw_1 1 (by decide +kernel) (by decide +kernel), by decide, by decide, by decide +kernel⟩⟩
theorem m_F_pay : fMV M_F_pay 1 := ⟨⟨gw_3 113 (by decide +kernel) (by decide +kernel), gw_3 114 (by decide +kernel) (by decide +kernel)⟩, ⟨gw_3 115 (by decide +kernel) (by decide +kernel), gw_1 1 (by decide +kernel) (by decide +kernel), by decide, by decide, by decide +kernel⟩⟩
theorem m_F_night : fMV M_F_night 1 := ⟨⟨gw_3 130 (by decide +kernel) (by decide +kernel), gw_3 131 (by decide +kernel) (by decide +kernel)⟩, ⟨gw_3 132 (by decide +kernel) (by decide +kernel), gw_1 1 (by decide +kernel) (by decide +kernel), by decide, by decide, by decide +kernel⟩⟩
theorem m_F_undo : fMV M_F_undo 0 := ⟨⟨gw_3 135 (by decide +kernel) (by decide +kernel), gw_3 136 (by decide +kernel) (by decide +kernel)⟩, ⟨gw_3 137 (by decide +kernel) (by decide +kernel), gw_1 1 (by decide +kernel) (by decide +kernel), by decide, by decide, by decide +kernel⟩⟩
theorem m_F_of : fMV M_F_of 2 := ⟨⟨gw_3 147 (by decide +kernel) (by decide +kernel), gw_3 148 (by decide +kernel) (by decide +kernel)⟩, ⟨gw_3 149 (by decide +kernel) (by decide +kernel), gw_1 1 (by decide +kernel) (by decide +kernel), by decide, by decide, by decide +kernel⟩⟩
theorem m_F_about : fMV M_F_about 2 := ⟨⟨gw_3 156 (by decide +kernel) (by decide +kernel), gw_3 157 (by decide +kernel) (by decide +kernel)⟩, ⟨gw_3 158 (by decide +kernel) (by decide +kernel), gw_1 1 (by decide +kernel) (by decide +kernel), by decide, by decide, by decide +kernel⟩⟩
theorem m_F_wears : fMV M_F_wears 2 := ⟨⟨gw_3 160 (by decide +kernel) (by decide +kernel), gw_3 161 (by decide +kernel) (by decide +kernel)⟩, ⟨gw_3 162 (by decide +kernel) (by decide +kernel), gw_1 1 (by decide +kernel) (by decide +kernel), by decide, by decide, by decide +kernel⟩⟩
theorem m_F_cost : fMV M_F_cost 2 := ⟨⟨gw_3 168 (by decide +kernel) (by decide +kernel), gw_3 169 (by decide +kernel) (by decide +kernel)⟩, ⟨gw_3 170 (by decide +kernel) (by decide +kernel), gw_1 1 (by decide +kernel) (by decide +kernel), by decide, by decide, by decide +kernel⟩⟩
theorem m_F_can : fMV M_F_can 2 := ⟨⟨gw_3 172 (by decide +kernel) (by decide +kernel), gw_3 173 (by decide +kernel) (by decide +kernel)⟩, ⟨gw_3 174 (by decide +kernel) (by decide +kernel), gw_1 1 (by decide +kernel) (by decide +kernel), by decide, by decide, by decide +kernel⟩⟩
theorem m_F_best : fMV M_F_best 1 := ⟨⟨gw_3 176 (by decide +kernel) (by decide +kernel), gw_3 177 (by decide +kernel) (by decide +kernel)⟩, ⟨gw_3 178 (by decide +kernel) (by decide +kernel), gw_1 1 (by decide +kernel) (by decide +kernel), by decide, by decide, by decide +kernel⟩⟩
theorem m_F_first : fMV M_F_first 0 := ⟨⟨gw_3 187 (by decide +kernel) (by decide +kernel), gw_3 188 (by decide +kernel) (by decide +kernel)⟩, ⟨gw_3 189 (by decide +kernel) (by decide +kernel), gw_1 1 (by decide +kernel) (by decide +kernel), by decide, by decide, by decide +kernel⟩⟩
theorem m_F_counts : fMV M_F_counts 0 := ⟨⟨gw_3 199 (by decide +kernel) (by decide +kernel), gw_3 200 (by decide +kernel) (by decide +kernel)⟩, ⟨gw_3 201 (by decide +kernel) (by decide +kernel), gw_1 1 (by decide +kernel) (by decide +kernel), by decide, by decide, by decide +kernel⟩⟩
theorem m_F_when : fMV M_F_when 2 := ⟨⟨gw_3 209 (by decide +kernel) (by decide +kernel), gw_3 210 (by decide +kernel) (by decide +kernel)⟩, ⟨gw_3 211 (by decide +kernel) (by decide +kernel), gw_1 1 (by decide +kernel) (by decide +kernel), by decide, by decide, by decide +kernel⟩⟩
theorem m_F_most : fMV M_F_most 1 := ⟨⟨gw_3 218 (by decide +kernel) (by decide +kernel), gw_3 219 (by decide +kernel) (by decide +kernel)⟩, ⟨gw_3 220 (by decide +kernel) (by decide +kernel), gw_1 1 (by decide +kernel) (by decide +kernel), by decide, by decide, by decide +kernel⟩⟩
theorem m_F_plan : fMV M_F_plan 1 := ⟨⟨gw_3 235 (by decide +kernel) (by decide +kernel), gw_3 236 (by decide +kernel) (by decide +kernel)⟩, ⟨gw_3 237 (by decide +kernel) (by decide +kernel), gw_1 1 (by decide +kernel) (by decide +kernel), by decide, by decide, by decide +kernel⟩⟩
theorem m_F_wanted : fMV M_F_wanted 1 := ⟨⟨gw_4 17 (by decide +kernel) (by decide +kernel), gw_4 18 (by decide +kernel) (by decide +kernel)⟩, ⟨gw_4 19 (by decide +kernel) (by decide +kernel), gw_1 1 (by decide +kernel) (by decide +kernel), by decide, by decide, by decide +kernel⟩⟩
theorem m_F_trace : fMV M_F_trace 2 := ⟨⟨gw_4 31 (by decide +kernel) (by decide +kernel), gw_4 32 (by decide +kernel) (by decide +kernel)⟩, ⟨gw_4 33 (by decide +kernel) (by decide +kernel), gw_1 1 (by decide +kernel) (by decide +kernel), by decide, by decide, by decide +kernel⟩⟩
theorem m_F_which : fMV M_F_which 1 := ⟨⟨gw_4 39 (by decide +kernel) (by decide +kernel), gw_4 40 (by decide +kernel) (by decide +kernel)⟩, ⟨gw_4 41 (by decide +kernel) (by decide +kernel), gw_1 1 (by decide +kernel) (by decide +kernel), by decide, by decide, by decide +kernel⟩⟩
theorem m_F_note : fMV M_F_note 4 := ⟨⟨gw_4 61 (by decide +kernel) (by decide +kernel), gw_4 62 (by decide +kernel) (by decide +kernel)⟩, ⟨gw_4 63 (by decide +kernel) (by decide +kernel), gw_1 1 (by decide +kernel) (by decide +kernel), by decide, by decide, by decide +kernel⟩⟩
theorem m_F_forget : fMV M_F_forget 1 := ⟨⟨gw_4 69 (by decide +kernel) (by decide +kernel), gw_4 70 (by decide +kernel) (by decide +kernel)⟩, ⟨gw_4 71 (by decide +kernel) (by decide +kernel), gw_1 1 (by decide +kernel) (by decide +kernel), by decide, by decide, by decide +kernel⟩⟩
theorem m_F_is : fMV M_F_is 1 := ⟨⟨gw_4 75 (by decide +kernel) (by decide +kernel), gw_4 76 (by decide +kernel) (by decide +kernel)⟩, ⟨gw_4 77 (by decide +kernel) (by decide +kernel), gw_1 1 (by decide +kernel) (by decide +kernel), by decide, by decide, by decide +kernel⟩⟩
theorem m_F_look : fMV M_F_look 1 := ⟨⟨gw_4 88 (by decide +kernel) (by decide +kernel), gw_4 89 (by decide +kernel) (by decide +kernel)⟩, ⟨gw_4 90 (by decide +kernel) (by decide +kernel), gw_1 1 (by decide +kernel) (by decide +kernel), by decide, by decide, by decide +kernel⟩⟩
theorem m_F_two : fMV M_F_two 2 := ⟨⟨gw_4 101 (by decide +kernel) (by decide +kernel), gw_4 102 (by decide +kernel) (by decide +kernel)⟩, ⟨gw_4 103 (by decide +kernel) (by decide +kernel), gw_1 1 (by decide +kernel) (by decide +kernel), by decide, by decide, by decide +kernel⟩⟩
theorem m_F_odds : fMV M_F_odds 3 := ⟨⟨gw_4 113 (by decide +kernel) (by decide +kernel), gw_4 114 (by decide +kernel) (by decide +kernel)⟩, ⟨gw_4 115 (by decide +kernel) (by decide +kernel), gw_1 1 (by decide +kernel) (by decide +kernel), by decide, by decide, by decide +kernel⟩⟩
theorem m_F_years : fMV M_F_years 2 := ⟨⟨gw_4 135 (by decide +kernel) (by decide +kernel), gw_4 136 (by decide +kernel) (by decide +kernel)⟩, ⟨gw_4 137 (by decide +kernel) (by decide +kernel), gw_1 1 (by decide +kernel) (by decide +kernel), by decide, by decide, by decide +kernel⟩⟩
theorem m_F_part : fMV M_F_part 1 := ⟨⟨gw_4 149 (by decide +kernel) (by decide +kernel), gw_4 150 (by decide +kernel) (by decide +kernel)⟩, ⟨gw_4 151 (by decide +kernel) (by decide +kernel), gw_1 1 (by decide +kernel) (by decide +kernel), by decide, by decide, by decide +kernel⟩⟩
theorem m_F_image : fMV M_F_image 1 := ⟨⟨gw_4 153 (by decide +kernel) (by decide +kernel), gw_4 154 (by decide +kernel) (by decide +kernel)⟩, ⟨gw_4 155 (by decide +kernel) (by decide +kernel), gw_1 1 (by decide +kernel) (by decide +kernel), by decide, by decide, by decide +kernel⟩⟩
theorem m_F_from : fMV M_F_from 1 := ⟨⟨gw_4 157 (by decide +kernel) (by decide +kernel), gw_4 158 (by decide +kernel) (by decide +kernel)⟩, ⟨gw_4 159 (by decide +kernel) (by decide +kernel), gw_1 1 (by decide +kernel) (by decide +kernel), by decide, by decide, by decide +kernel⟩⟩
theorem m_F_status : fMV M_F_status 1 := ⟨⟨gw_4 161 (by decide +kernel) (by decide +kernel), gw_4 162 (by decide +kernel) (by decide +kernel)⟩, ⟨gw_4 163 (by decide +kernel) (by decide +kernel), gw_1 1 (by decide +kernel) (by decide +kernel), by decide, by decide, by decide +kernel⟩⟩
theorem m_F_count : fMV M_F_count 1 := ⟨⟨gw_4 165 (by decide +kernel) (by decide +kernel), gw_4 166 (by decide +kernel) (by decide +kernel)⟩, ⟨gw_4 167 (by decide +kernel) (by decide +kernel), gw_1 1 (by decide +kernel) (by decide +kernel), by decide, by decide, by decide +kernel⟩⟩
theorem m_F_digest : fMV M_F_digest 0 := ⟨⟨gw_4 177 (by decide +kernel) (by decide +kernel), gw_4 178 (by decide +kernel) (by decide +kernel)⟩, ⟨gw_4 179 (by decide +kernel) (by decide +kernel), gw_1 1 (by decide +kernel) (by decide +kernel), by decide, by decide, by decide +kernel⟩⟩
theorem m_F_howMany : fMV M_F_howMany 1 := ⟨⟨gw_4 170 (by decide +kernel) (by decide +kernel), gw_s 76 (by decide +kernel) (by decide +kernel)⟩, ⟨gw_4 171 (by decide +kernel) (by decide +kernel), gw_1 1 (by decide +kernel) (by decide +kernel), by decide, by decide, by decide +kernel⟩⟩
theorem m_F_setFraction : fMV M_F_setFraction 2 := ⟨⟨gw_4 132 (by decide +kernel) (by decide +kernel), gw_s 74 (by decide +kernel) (by decide +kernel)⟩, ⟨gw_4 133 (by decide +kernel) (by decide +kernel), gw_1 1 (by decide +kernel) (by decide +kernel), by decide, by decide, by decide +kernel⟩⟩
theorem m_F_bad : fMV M_F_bad 0 := ⟨⟨gw_2 111 (by decide +kernel) (by decide +kernel), gw_s 5 (by decide +kernel) (by decide +kernel)⟩, ⟨gw_2 112 (by decide +kernel) (by decide +kernel), gw_1 1 (by decide +kernel) (by decide +kernel), by decide, by decide, by decide +kernel⟩⟩
theorem m_F_no : fMV M_F_no 0 := ⟨⟨gw_3 97 (by decide +kernel) (by decide +kernel), gw_s 35 (by decide +kernel) (by decide +kernel)⟩, ⟨gw_3 98 (by decide +kernel) (by decide +kernel), gw_1 1 (by decide +kernel) (by decide +kernel), by decide, by decide, by decide +kernel⟩⟩
theorem m_F_full : fMV M_F_full 0 := ⟨⟨gw_2 127 (by decide +kernel) (by decide +kernel), gw_s 7 (by decide +kernel) (by decide +kernel)⟩, ⟨gw_2 128 (by decide +kernel) (by decide +kernel), gw_1 1 (by decide +kernel) (by decide +kernel), by decide, by decide, by decide +kernel⟩⟩
theorem m_F_within : fMS M_F_within 3 := ⟨gw_2 107 (by decide +kernel) (by decide +kernel), ⟨gw_2 108 (by decide +kernel) (by decide +kernel), gw_1 1 (by decide +kernel) (by decide +kernel), by decide, by decide, by decide +kernel⟩⟩
theorem m_F_isFigure : fMS M_F_isFigure 1 := ⟨gw_2 104 (by decide +kernel) (by decide +kernel), ⟨gw_2 105 (by decide +kernel) (by decide +kernel), gw_1 1 (by decide +kernel) (by decide +kernel), by decide, by decide, by decide +kernel⟩⟩
theorem m_F_isNumber : fMS M_F_isNumber 1 := ⟨gw_2 123 (by decide +kernel) (by decide +kernel), ⟨gw_2 124 (by decide +kernel) (by decide +kernel), gw_1 1 (by decide +kernel) (by decide +kernel), by decide, by decide, by decide +kernel⟩⟩
theorem m_F_isSign : fMS M_F_isSign 1 := ⟨gw_3 164 (by decide +kernel) (by decide +kernel), ⟨gw_3 165 (by decide +kernel) (by decide +kernel), gw_1 1 (by decide +kernel) (by decide +kernel), by decide, by decide, by decide +kernel⟩⟩
theorem m_M_init : fMN M_M_init 0 := ⟨⟨rfl, gw_4 195 (by decide +kernel) (by decide +kernel), rfl⟩, ⟨gw_4 196 (by decide +kernel) (by decide +kernel), gw_1 12 (by decide +kernel) (by decide +kernel), by decide, by decide, by decide +kernel⟩⟩
theorem m_M_in : fMS M_M_in 3 := ⟨gw_5 23 (by decide +kernel) (by decide +kernel), ⟨gw_5 24 (by decide +kernel) (by decide +kernel), gw_1 12 (by decide +kernel) (by decide +kernel), by decide, by decide, by decide +kernel⟩⟩
theorem m_M_refuses : fMV M_M_refuses 1 := ⟨⟨gw_5 27 (by decide +kernel) (by decide +kernel), gw_s 80 (by decide +kernel) (by decide +kernel)⟩, ⟨gw_5 28 (by decide +kernel) (by decide +kernel), gw_1 12 (by decide +kernel) (by decide +kernel), by decide, by decide, by decide +kernel⟩⟩
theorem m_M_refusesAs : fMV M_M_refusesAs 1 := ⟨⟨gw_5 236 (by decide +kernel) (by decide +kernel), gw_s 108 (by decide +kernel) (by decide +kernel)⟩, ⟨gw_5 237 (by decide +kernel) (by decide +kernel), gw_1 12 (by decide +kernel) (by decide +kernel), by decide, by decide, by decide +kernel⟩⟩
theorem m_M_begins : fMS M_M_begins 1 := ⟨gw_4 199 (by decide +kernel) (by decide +kernel), ⟨gw_4 200 (by decide +kernel) (by decide +kernel), gw_1 12 (by decide +kernel) (by decide +kernel), by decide, by decide, by decide +kernel⟩⟩
theorem m_M_wearOf : fMS M_M_wearOf 3 := ⟨gw_5 103 (by decide +kernel) (by decide +kernel), ⟨gw_5 104 (by decide +kernel) (by decide +kernel), gw_1 12 (by decide +kernel) (by decide +kernel), by decide, by decide, by decide +kernel⟩⟩
theorem m_M_restOf : fMS M_M_restOf 2 := ⟨gw_5 113 (by decide +kernel) (by decide +kernel), ⟨gw_5 114 (by decide +kernel) (by decide +kernel), gw_1 12 (by decide +kernel) (by decide +kernel), by decide, by decide, by decide +kernel⟩⟩
theorem m_M_wornNow : fMV M_M_wornNow 0 := ⟨⟨gw_5 192 (by decide +kernel) (by decide +kernel), gw_s 100 (by decide +kernel) (by decide +kernel)⟩, ⟨gw_5 193 (by decide +kernel) (by decide +kernel), gw_1 12 (by decide +kernel) (by decide +kernel), by decide, by decide, by decide +kernel⟩⟩
theorem m_M_rests : fMV M_M_rests 0 := ⟨⟨gw_5 208 (by decide +kernel) (by decide +kernel), gw_s 103 (by decide +kernel) (by decide +kernel)⟩, ⟨gw_5 209 (by decide +kernel) (by decide +kernel), gw_1 12 (by decide +kernel) (by decide +kernel), by decide, by decide, by decide +kernel⟩⟩
theorem m_M_adds : fMV M_M_adds 1 := ⟨⟨gw_5 96 (by decide +kernel) (by decide +kernel), gw_s 91 (by decide +kernel) (by decide +kernel)⟩, ⟨gw_5 97 (by decide +kernel) (by decide +kernel), gw_1 12 (by decide +kernel) (by decide +kernel), by decide, by decide, by decide +kernel⟩⟩
theorem m_M_line : fMV M_M_line 2 := ⟨⟨gw_5 92 (by decide +kernel) (by decide +kernel), gw_s 90 (by decide +kernel) (by decide +kernel)⟩, ⟨gw_5 93 (by decide +kernel) (by decide +kernel), gw_1 12 (by decide +kernel) (by decide +kernel), by decide, by decide, by decide +kernel⟩⟩
theorem m_M_wearsBy : fMV M_M_wearsBy 3 := ⟨⟨gw_5 100 (by decide +kernel) (by decide +kernel), gw_s 92 (by decide +kernel) (by decide +kernel)⟩, ⟨gw_5 101 (by decide +kernel) (by decide +kernel), gw_1 12 (by decide +kernel) (by decide +kernel), by decide, by decide, by decide +kernel⟩⟩
theorem m_M_costOf : fMV M_M_costOf 2 := ⟨⟨gw_5 128 (by decide +kernel) (by decide +kernel), gw_s 95 (by decide +kernel) (by decide +kernel)⟩, ⟨gw_5 129 (by decide +kernel) (by decide +kernel), gw_1 12 (by decide +kernel) (by decide +kernel), by decide, by decide, by decide +kernel⟩⟩
theorem m_M_wornBy : fMV M_M_wornBy 1 := ⟨⟨gw_6 27 (by decide +kernel) (by decide +kernel), gw_s 112 (by decide +kernel) (by decide +kernel)⟩, ⟨gw_6 28 (by decide +kernel) (by decide +kernel), gw_1 12 (by decide +kernel) (by decide +kernel), by decide, by decide, by decide +kernel⟩⟩
theorem m_M_canOf : fMV M_M_canOf 3 := ⟨⟨gw_5 88 (by decide +kernel) (by decide +kernel), gw_s 89 (by decide +kernel) (by decide +kernel)⟩, ⟨gw_5 89 (by decide +kernel) (by decide +kernel), gw_1 12 (by decide +kernel) (by decide +kernel), by decide, by decide, by decide +kernel⟩⟩
theorem m_M_writes : fMV M_M_writes 3 := ⟨⟨gw_5 107 (by decide +kernel) (by decide +kernel), gw_s 93 (by decide +kernel) (by decide +kernel)⟩, ⟨gw_5 108 (by decide +kernel) (by decide +kernel), gw_1 12 (by decide +kernel) (by decide +kernel), by decide, by decide, by decide +kernel⟩⟩
theorem m_M_sleeps : fMS M_M_sleeps 1 := ⟨gw_5 110 (by decide +kernel) (by decide +kernel), ⟨gw_5 111 (by decide +kernel) (by decide +kernel), gw_1 12 (by decide +kernel) (by decide +kernel), by decide, by decide, by decide +kernel⟩⟩
theorem m_M_asideBy : fMV M_M_asideBy 2 := ⟨⟨gw_5 196 (by decide +kernel) (by decide +kernel), gw_s 101 (by decide +kernel) (by decide +kernel)⟩, ⟨gw_5 197 (by decide +kernel) (by decide +kernel), gw_1 12 (by decide +kernel) (by decide +kernel), by decide, by decide, by decide +kernel⟩⟩
theorem m_M_isWithin : fMV M_M_isWithin 1 := ⟨⟨gw_5 200 (by decide +kernel) (by decide +kernel), gw_s 102 (by decide +kernel) (by decide +kernel)⟩, ⟨gw_5 201 (by decide +kernel) (by decide +kernel), gw_1 12 (by decide +kernel) (by decide +kernel), by decide, by decide, by decide +kernel⟩⟩
theorem m_M_house : fMV M_M_house 0 := ⟨⟨gw_5 15 (by decide +kernel) (by decide +kernel), gw_5 16 (by decide +kernel) (by decide +kernel)⟩, ⟨gw_5 17 (by decide +kernel) (by decide +kernel), gw_1 12 (by decide +kernel) (by decide +kernel), by decide, by decide, by decide +kernel⟩⟩
theorem m_M_figure : fMV M_M_figure 3 := ⟨⟨gw_5 19 (by decide +kernel) (by decide +kernel), gw_5 20 (by decide +kernel) (by decide +kernel)⟩, ⟨gw_5 21 (by decide +kernel) (by decide +kernel), gw_1 12 (by decide +kernel) (by decide +kernel), by decide, by decide, by decide +kernel⟩⟩
theorem m_M_bills : fMS M_M_bills 3 := ⟨gw_5 34 (by decide +kernel) (by decide +kernel), ⟨gw_5 35 (by decide +kernel) (by decide +kernel), gw_1 12 (by decide +kernel) (by decide +kernel), by decide, by decide, by decide +kernel⟩⟩
theorem m_M_bill : fMV M_M_bill 2 := ⟨⟨gw_5 30 (by decide +kernel) (by decide +kernel), gw_5 31 (by decide +kernel) (by decide +kernel)⟩, ⟨gw_5 32 (by decide +kernel) (by decide +kernel), gw_1 12 (by decide +kernel) (by decide +kernel), by decide, by decide, by decide +kernel⟩⟩
theorem m_M_type : fMV M_M_type 1 := ⟨⟨gw_5 37 (by decide +kernel) (by decide +kernel), gw_5 38 (by decide +kernel) (by decide +kernel)⟩, ⟨gw_5 39 (by decide +kernel) (by decide +kernel), gw_1 12 (by decide +kernel) (by decide +kernel), by decide, by decide, by decide +kernel⟩⟩
theorem m_M_clear : fMV M_M_clear 0 := ⟨⟨gw_5 41 (by decide +kernel) (by decide +kernel), gw_5 42 (by decide +kernel) (by decide +kernel)⟩, ⟨gw_5 43 (by decide +kernel) (by decide +kernel), gw_1 12 (by decide +kernel) (by decide +kernel), by decide, by decide, by decide +kernel⟩⟩
theorem m_M_at : fMV M_M_at 1 := ⟨⟨gw_5 54 (by decide +kernel) (by decide +kernel), gw_s 82 (by decide +kernel) (by decide +kernel)⟩, ⟨gw_5 55 (by decide +kernel) (by decide +kernel), gw_1 12 (by decide +kernel) (by decide +kernel), by decide, by decide, by decide +kernel⟩⟩
theorem m_M_isLetter : fMS M_M_isLetter 1 := ⟨gw_5 57 (by decide +kernel) (by decide +kernel), ⟨gw_5 58 (by decide +kernel) (by decide +kernel), gw_1 12 (by decide +kernel) (by decide +kernel), by decide, by decide, by decide +kernel⟩⟩
theorem m_M_word : fMV M_M_word 0 := ⟨⟨gw_5 61 (by decide +kernel) (by decide +kernel), gw_s 83 (by decide +kernel) (by decide +kernel)⟩, ⟨gw_5 62 (by decide +kernel) (by decide +kernel), gw_1 12 (by decide +kernel) (by decide +kernel), by decide, by decide, by decide +kernel⟩⟩
theorem m_M_advances : fMV M_M_advances 0 := ⟨⟨gw_5 50 (by decide +kernel) (by decide +kernel), gw_s 81 (by decide +kernel) (by decide +kernel)⟩, ⟨gw_5 51 (by decide +kernel) (by decide +kernel), gw_1 12 (by decide +kernel) (by decide +kernel), by decide, by decide, by decide +kernel⟩⟩
theorem m_M_isWell : fMV M_M_isWell 0 := ⟨⟨gw_5 65 (by decide +kernel) (by decide +kernel), gw_s 84 (by decide +kernel) (by decide +kernel)⟩, ⟨gw_5 66 (by decide +kernel) (by decide +kernel), gw_1 12 (by decide +kernel) (by decide +kernel), by decide, by decide, by decide +kernel⟩⟩
theorem m_M_takes : fMV M_M_takes 1 := ⟨⟨gw_5 76 (by decide +kernel) (by decide +kernel), gw_s 86 (by decide +kernel) (by decide +kernel)⟩, ⟨gw_5 77 (by decide +kernel) (by decide +kernel), gw_1 12 (by decide +kernel) (by decide +kernel), by decide, by decide, by decide +kernel⟩⟩
theorem m_M_number : fMV M_M_number 2 := ⟨⟨gw_5 84 (by decide +kernel) (by decide +kernel), gw_s 88 (by decide +kernel) (by decide +kernel)⟩, ⟨gw_5 85 (by decide +kernel) (by decide +kernel), gw_1 12 (by decide +kernel) (by decide +kernel), by decide, by decide, by decide +kernel⟩⟩
theorem m_M_sum : fMS M_M_sum 5 := ⟨gw_5 72 (by decide +kernel) (by decide +kernel), ⟨gw_5 73 (by decide +kernel) (by decide +kernel), gw_1 12 (by decide +kernel) (by decide +kernel), by decide, by decide, by decide +kernel⟩⟩
theorem m_M_wordIs : fMV M_M_wordIs 0 := ⟨⟨gw_5 69 (by decide +kernel) (by decide +kernel), gw_s 85 (by decide +kernel) (by decide +kernel)⟩, ⟨gw_5 70 (by decide +kernel) (by decide +kernel), gw_1 12 (by decide +kernel) (by decide +kernel), by decide, by decide, by decide +kernel⟩⟩
theorem m_M_reads : fMV M_M_reads 1 := ⟨⟨gw_5 80 (by decide +kernel) (by decide +kernel), gw_s 87 (by decide +kernel) (by decide +kernel)⟩, ⟨gw_5 81 (by decide +kernel) (by decide +kernel), gw_1 12 (by decide +kernel) (by decide +kernel), by decide, by decide, by decide +kernel⟩⟩
theorem m_M_read : fMV M_M_read 0 := ⟨⟨gw_5 45 (by decide +kernel) (by decide +kernel), gw_5 46 (by decide +kernel) (by decide +kernel)⟩, ⟨gw_5 47 (by decide +kernel) (by decide +kernel), gw_1 12 (by decide +kernel) (by decide +kernel), by decide, by decide, by decide +kernel⟩⟩
theorem m_M_notes : fMV M_M_notes 0 := ⟨⟨gw_5 124 (by decide +kernel) (by decide +kernel), gw_s 94 (by decide +kernel) (by decide +kernel)⟩, ⟨gw_5 125 (by decide +kernel) (by decide +kernel), gw_1 12 (by decide +kernel) (by decide +kernel), by decide, by decide, by decide +kernel⟩⟩
theorem m_M_areLine : fMS M_M_areLine 2 := ⟨gw_5 120 (by decide +kernel) (by decide +kernel), ⟨gw_5 121 (by decide +kernel) (by decide +kernel), gw_1 12 (by decide +kernel) (by decide +kernel), by decide, by decide, by decide +kernel⟩⟩
theorem m_M_write : fMV M_M_write 2 := ⟨⟨gw_5 116 (by decide +kernel) (by decide +kernel), gw_5 117 (by decide +kernel) (by decide +kernel)⟩, ⟨gw_5 118 (by decide +kernel) (by decide +kernel), gw_1 12 (by decide +kernel) (by decide +kernel), by decide, by decide, by decide +kernel⟩⟩
theorem m_M_isBill : fMV M_M_isBill 1 := ⟨⟨gw_5 136 (by decide +kernel) (by decide +kernel), gw_s 96 (by decide +kernel) (by decide +kernel)⟩, ⟨gw_5 137 (by decide +kernel) (by decide +kernel), gw_1 12 (by decide +kernel) (by decide +kernel), by decide, by decide, by decide +kernel⟩⟩
theorem m_M_isPaid : fMV M_M_isPaid 1 := ⟨⟨gw_5 140 (by decide +kernel) (by decide +kernel), gw_s 97 (by decide +kernel) (by decide +kernel)⟩, ⟨gw_5 141 (by decide +kernel) (by decide +kernel), gw_1 12 (by decide +kernel) (by decide +kernel), by decide, by decide, by decide +kernel⟩⟩
theorem m_M_pay : fMV M_M_pay 1 := ⟨⟨gw_5 131 (by decide +kernel) (by decide +kernel), gw_5 132 (by decide +kernel) (by decide +kernel)⟩, ⟨gw_5 133 (by decide +kernel) (by decide +kernel), gw_1 12 (by decide +kernel) (by decide +kernel), by decide, by decide, by decide +kernel⟩⟩
theorem m_M_night : fMV M_M_night 1 := ⟨⟨gw_5 143 (by decide +kernel) (by decide +kernel), gw_5 144 (by decide +kernel) (by decide +kernel)⟩, ⟨gw_5 145 (by decide +kernel) (by decide +kernel), gw_1 12 (by decide +kernel) (by decide +kernel), by decide, by decide, by decide +kernel⟩⟩
theorem m_M_undo : fMV M_M_undo 0 := ⟨⟨gw_5 147 (by decide +kernel) (by decide +kernel), gw_5 148 (by decide +kernel) (by decide +kernel)⟩, ⟨gw_5 149 (by decide +kernel) (by decide +kernel), gw_1 12 (by decide +kernel) (by decide +kernel), by decide, by decide, by decide +kernel⟩⟩
theorem m_M_leftOf : fMV M_M_leftOf 1 := ⟨⟨gw_5 156 (by decide +kernel) (by decide +kernel), gw_s 98 (by decide +kernel) (by decide +kernel)⟩, ⟨gw_5 157 (by decide +kernel) (by decide +kernel), gw_1 12 (by decide +kernel) (by decide +kernel), by decide, by decide, by decide +kernel⟩⟩
theorem m_M_of : fMV M_M_of 2 := ⟨⟨gw_5 151 (by decide +kernel) (by decide +kernel), gw_5 152 (by decide +kernel) (by decide +kernel)⟩, ⟨gw_5 153 (by decide +kernel) (by decide +kernel), gw_1 12 (by decide +kernel) (by decide +kernel), by decide, by decide, by decide +kernel⟩⟩
theorem m_M_about : fMV M_M_about 2 := ⟨⟨gw_5 159 (by decide +kernel) (by decide +kernel), gw_5 160 (by decide +kernel) (by decide +kernel)⟩, ⟨gw_5 161 (by decide +kernel) (by decide +kernel), gw_1 12 (by decide +kernel) (by decide +kernel), by decide, by decide, by decide +kernel⟩⟩
theorem m_M_wears : fMV M_M_wears 2 := ⟨⟨gw_5 163 (by decide +kernel) (by decide +kernel), gw_5 164 (by decide +kernel) (by decide +kernel)⟩, ⟨gw_5 165 (by decide +kernel) (by decide +kernel), gw_1 12 (by decide +kernel) (by decide +kernel), by decide, by decide, by decide +kernel⟩⟩
theorem m_M_cost : fMV M_M_cost 2 := ⟨⟨gw_5 167 (by decide +kernel) (by decide +kernel), gw_5 168 (by decide +kernel) (by decide +kernel)⟩, ⟨gw_5 169 (by decide +kernel) (by decide +kernel), gw_1 12 (by decide +kernel) (by decide +kernel), by decide, by decide, by decide +kernel⟩⟩
theorem m_M_can : fMV M_M_can 2 := ⟨⟨gw_5 171 (by decide +kernel) (by decide +kernel), gw_5 172 (by decide +kernel) (by decide +kernel)⟩, ⟨gw_5 173 (by decide +kernel) (by decide +kernel), gw_1 12 (by decide +kernel) (by decide +kernel), by decide, by decide, by decide +kernel⟩⟩
theorem m_M_bestOf : fMV M_M_bestOf 1 := ⟨⟨gw_5 180 (by decide +kernel) (by decide +kernel), gw_s 99 (by decide +kernel) (by decide +kernel)⟩, ⟨gw_5 181 (by decide +kernel) (by decide +kernel), gw_1 12 (by decide +kernel) (by decide +kernel), by decide, by decide, by decide +kernel⟩⟩
theorem m_M_best : fMV M_M_best 1 := ⟨⟨gw_5 175 (by decide +kernel) (by decide +kernel), gw_5 176 (by decide +kernel) (by decide +kernel)⟩, ⟨gw_5 177 (by decide +kernel) (by decide +kernel), gw_1 12 (by decide +kernel) (by decide +kernel), by decide, by decide, by decide +kernel⟩⟩
theorem m_M_first : fMV M_M_first 0 := ⟨⟨gw_5 183 (by decide +kernel) (by decide +kernel), gw_5 184 (by decide +kernel) (by decide +kernel)⟩, ⟨gw_5 185 (by decide +kernel) (by decide +kernel), gw_1 12 (by decide +kernel) (by decide +kernel), by decide, by decide, by decide +kernel⟩⟩
theorem m_M_counts : fMV M_M_counts 0 := ⟨⟨gw_5 187 (by decide +kernel) (by decide +kernel), gw_5 188 (by decide +kernel) (by decide +kernel)⟩, ⟨gw_5 189 (by decide +kernel) (by decide +kernel), gw_1 12 (by decide +kernel) (by decide +kernel), by decide, by decide, by decide +kernel⟩⟩
theorem m_M_when : fMV M_M_when 2 := ⟨⟨gw_5 203 (by decide +kernel) (by decide +kernel), gw_5 204 (by decide +kernel) (by decide +kernel)⟩, ⟨gw_5 205 (by decide +kernel) (by decide +kernel), gw_1 12 (by decide +kernel) (by decide +kernel), by decide, by decide, by decide +kernel⟩⟩
theorem m_M_canAll : fMV M_M_canAll 1 := ⟨⟨gw_5 224 (by decide +kernel) (by decide +kernel), gw_s 106 (by decide +kernel) (by decide +kernel)⟩, ⟨gw_5 225 (by decide +kernel) (by decide +kernel), gw_1 12 (by decide +kernel) (by decide +kernel), by decide, by decide, by decide +kernel⟩⟩
theorem m_M_areWithin : fMV M_M_areWithin 1 := ⟨⟨gw_5 228 (by decide +kernel) (by decide +kernel), gw_s 107 (by decide +kernel) (by decide +kernel)⟩, ⟨gw_5 229 (by decide +kernel) (by decide +kernel), gw_1 12 (by decide +kernel) (by decide +kernel), by decide, by decide, by decide +kernel⟩⟩
theorem m_M_worthOf : fMV M_M_worthOf 1 := ⟨⟨gw_5 220 (by decide +kernel) (by decide +kernel), gw_s 105 (by decide +kernel) (by decide +kernel)⟩, ⟨gw_5 221 (by decide +kernel) (by decide +kernel), gw_1 12 (by decide +kernel) (by decide +kernel), by decide, by decide, by decide +kernel⟩⟩
theorem m_M_unpaid : fMV M_M_unpaid 0 := ⟨⟨gw_5 216 (by decide +kernel) (by decide +kernel), gw_s 104 (by decide +kernel) (by decide +kernel)⟩, ⟨gw_5 217 (by decide +kernel) (by decide +kernel), gw_1 12 (by decide +kernel) (by decide +kernel), by decide, by decide, by decide +kernel⟩⟩
theorem m_M_most : fMV M_M_most 1 := ⟨⟨gw_5 211 (by decide +kernel) (by decide +kernel), gw_5 212 (by decide +kernel) (by decide +kernel)⟩, ⟨gw_5 213 (by decide +kernel) (by decide +kernel), gw_1 12 (by decide +kernel) (by decide +kernel), by decide, by decide, by decide +kernel⟩⟩
theorem m_M_dayOf : fMS M_M_dayOf 2 := ⟨gw_5 239 (by decide +kernel) (by decide +kernel), ⟨gw_6 0 (by decide +kernel) (by decide +kernel), gw_1 12 (by decide +kernel) (by decide +kernel), by decide, by decide, by decide +kernel⟩⟩
theorem m_M_daysOf : fMV M_M_daysOf 1 := ⟨⟨gw_6 3 (by decide +kernel) (by decide +kernel), gw_s 109 (by decide +kernel) (by decide +kernel)⟩, ⟨gw_6 4 (by decide +kernel) (by decide +kernel), gw_1 12 (by decide +kernel) (by decide +kernel), by decide, by decide, by decide +kernel⟩⟩
theorem m_M_plan : fMV M_M_plan 1 := ⟨⟨gw_5 231 (by decide +kernel) (by decide +kernel), gw_5 232 (by decide +kernel) (by decide +kernel)⟩, ⟨gw_5 233 (by decide +kernel) (by decide +kernel), gw_1 12 (by decide +kernel) (by decide +kernel), by decide, by decide, by decide +kernel⟩⟩
theorem m_M_manyCan : fMV M_M_manyCan 0 := ⟨⟨gw_6 11 (by decide +kernel) (by decide +kernel), gw_s 110 (by decide +kernel) (by decide +kernel)⟩, ⟨gw_6 12 (by decide +kernel) (by decide +kernel), gw_1 12 (by decide +kernel) (by decide +kernel), by decide, by decide, by decide +kernel⟩⟩
theorem m_M_wanted : fMV M_M_wanted 1 := ⟨⟨gw_6 6 (by decide +kernel) (by decide +kernel), gw_6 7 (by decide +kernel) (by decide +kernel)⟩, ⟨gw_6 8 (by decide +kernel) (by decide +kernel), gw_1 12 (by decide +kernel) (by decide +kernel), by decide, by decide, by decide +kernel⟩⟩
theorem m_M_trace : fMV M_M_trace 2 := ⟨⟨gw_6 14 (by decide +kernel) (by decide +kernel), gw_6 15 (by decide +kernel) (by decide +kernel)⟩, ⟨gw_6 16 (by decide +kernel) (by decide +kernel), gw_1 12 (by decide +kernel) (by decide +kernel), by decide, by decide, by decide +kernel⟩⟩
theorem m_M_isTraced : fMV M_M_isTraced 2 := ⟨⟨gw_6 23 (by decide +kernel) (by decide +kernel), gw_s 111 (by decide +kernel) (by decide +kernel)⟩, ⟨gw_6 24 (by decide +kernel) (by decide +kernel), gw_1 12 (by decide +kernel) (by decide +kernel), by decide, by decide, by decide +kernel⟩⟩
theorem m_M_which : fMV M_M_which 1 := ⟨⟨gw_6 18 (by decide +kernel) (by decide +kernel), gw_6 19 (by decide +kernel) (by decide +kernel)⟩, ⟨gw_6 20 (by decide +kernel) (by decide +kernel), gw_1 12 (by decide +kernel) (by decide +kernel), by decide, by decide, by decide +kernel⟩⟩
theorem m_M_note : fMV M_M_note 4 := ⟨⟨gw_6 30 (by decide +kernel) (by decide +kernel), gw_6 31 (by decide +kernel) (by decide +kernel)⟩, ⟨gw_6 32 (by decide +kernel) (by decide +kernel), gw_1 12 (by decide +kernel) (by decide +kernel), by decide, by decide, by decide +kernel⟩⟩
theorem m_M_forget : fMV M_M_forget 1 := ⟨⟨gw_6 34 (by decide +kernel) (by decide +kernel), gw_6 35 (by decide +kernel) (by decide +kernel)⟩, ⟨gw_6 36 (by decide +kernel) (by decide +kernel), gw_1 12 (by decide +kernel) (by decide +kernel), by decide, by decide, by decide +kernel⟩⟩
theorem m_M_kindsOf : fMV M_M_kindsOf 1 := ⟨⟨gw_6 43 (by decide +kernel) (by decide +kernel), gw_s 113 (by decide +kernel) (by decide +kernel)⟩, ⟨gw_6 44 (by decide +kernel) (by decide +kernel), gw_1 12 (by decide +kernel) (by decide +kernel), by decide, by decide, by decide +kernel⟩⟩
theorem m_M_is : fMV M_M_is 1 := ⟨⟨gw_6 38 (by decide +kernel) (by decide +kernel), gw_6 39 (by decide +kernel) (by decide +kernel)⟩, ⟨gw_6 40 (by decide +kernel) (by decide +kernel), gw_1 12 (by decide +kernel) (by decide +kernel), by decide, by decide, by decide +kernel⟩⟩
theorem m_M_look : fMV M_M_look 1 := ⟨⟨gw_6 46 (by decide +kernel) (by decide +kernel), gw_6 47 (by decide +kernel) (by decide +kernel)⟩, ⟨gw_6 48 (by decide +kernel) (by decide +kernel), gw_1 12 (by decide +kernel) (by decide +kernel), by decide, by decide, by decide +kernel⟩⟩
theorem m_M_has : fMV M_M_has 2 := ⟨⟨gw_6 55 (by decide +kernel) (by decide +kernel), gw_s 114 (by decide +kernel) (by decide +kernel)⟩, ⟨gw_6 56 (by decide +kernel) (by decide +kernel), gw_1 12 (by decide +kernel) (by decide +kernel), by decide, by decide, by decide +kernel⟩⟩
theorem m_M_two : fMV M_M_two 2 := ⟨⟨gw_6 50 (by decide +kernel) (by decide +kernel), gw_6 51 (by decide +kernel) (by decide +kernel)⟩, ⟨gw_6 52 (by decide +kernel) (by decide +kernel), gw_1 12 (by decide +kernel) (by decide +kernel), by decide, by decide, by decide +kernel⟩⟩
theorem m_M_gcd : fMS M_M_gcd 2 := ⟨gw_6 67 (by decide +kernel) (by decide +kernel), ⟨gw_6 68 (by decide +kernel) (by decide +kernel), gw_1 12 (by decide +kernel) (by decide +kernel), by decide, by decide, by decide +kernel⟩⟩
theorem m_M_canFree : fMV M_M_canFree 3 := ⟨⟨gw_6 64 (by decide +kernel) (by decide +kernel), gw_s 115 (by decide +kernel) (by decide +kernel)⟩, ⟨gw_6 65 (by decide +kernel) (by decide +kernel), gw_1 12 (by decide +kernel) (by decide +kernel), by decide, by decide, by decide +kernel⟩⟩
theorem m_M_odds : fMV M_M_odds 3 := ⟨⟨gw_6 58 (by decide +kernel) (by decide +kernel), gw_6 59 (by decide +kernel) (by decide +kernel)⟩, ⟨gw_6 60 (by decide +kernel) (by decide +kernel), gw_1 12 (by decide +kernel) (by decide +kernel), by decide, by decide, by decide +kernel⟩⟩
theorem m_M_years : fMV M_M_years 2 := ⟨⟨gw_6 70 (by decide +kernel) (by decide +kernel), gw_6 71 (by decide +kernel) (by decide +kernel)⟩, ⟨gw_6 72 (by decide +kernel) (by decide +kernel), gw_1 12 (by decide +kernel) (by decide +kernel), by decide, by decide, by decide +kernel⟩⟩
theorem m_M_takesBack : fMV M_M_takesBack 2 := ⟨⟨gw_6 81 (by decide +kernel) (by decide +kernel), gw_s 116 (by decide +kernel) (by decide +kernel)⟩, ⟨gw_6 82 (by decide +kernel) (by decide +kernel), gw_1 12 (by decide +kernel) (by decide +kernel), by decide, by decide, by decide +kernel⟩⟩
theorem m_M_part : fMV M_M_part 1 := ⟨⟨gw_6 84 (by decide +kernel) (by decide +kernel), gw_6 85 (by decide +kernel) (by decide +kernel)⟩, ⟨gw_6 86 (by decide +kernel) (by decide +kernel), gw_1 12 (by decide +kernel) (by decide +kernel), by decide, by decide, by decide +kernel⟩⟩
theorem m_M_image : fMV M_M_image 1 := ⟨⟨gw_6 88 (by decide +kernel) (by decide +kernel), gw_6 89 (by decide +kernel) (by decide +kernel)⟩, ⟨gw_6 90 (by decide +kernel) (by decide +kernel), gw_1 12 (by decide +kernel) (by decide +kernel), by decide, by decide, by decide +kernel⟩⟩
theorem m_M_from : fMV M_M_from 1 := ⟨⟨gw_6 92 (by decide +kernel) (by decide +kernel), gw_6 93 (by decide +kernel) (by decide +kernel)⟩, ⟨gw_6 94 (by decide +kernel) (by decide +kernel), gw_1 12 (by decide +kernel) (by decide +kernel), by decide, by decide, by decide +kernel⟩⟩
theorem m_M_status : fMV M_M_status 1 := ⟨⟨gw_6 96 (by decide +kernel) (by decide +kernel), gw_6 97 (by decide +kernel) (by decide +kernel)⟩, ⟨gw_6 98 (by decide +kernel) (by decide +kernel), gw_1 12 (by decide +kernel) (by decide +kernel), by decide, by decide, by decide +kernel⟩⟩
theorem m_M_counted : fMV M_M_counted 1 := ⟨⟨gw_6 105 (by decide +kernel) (by decide +kernel), gw_s 117 (by decide +kernel) (by decide +kernel)⟩, ⟨gw_6 106 (by decide +kernel) (by decide +kernel), gw_1 12 (by decide +kernel) (by decide +kernel), by decide, by decide, by decide +kernel⟩⟩
theorem m_M_count : fMV M_M_count 1 := ⟨⟨gw_6 100 (by decide +kernel) (by decide +kernel), gw_6 101 (by decide +kernel) (by decide +kernel)⟩, ⟨gw_6 102 (by decide +kernel) (by decide +kernel), gw_1 12 (by decide +kernel) (by decide +kernel), by decide, by decide, by decide +kernel⟩⟩
theorem m_M_digest : fMV M_M_digest 0 := ⟨⟨gw_6 108 (by decide +kernel) (by decide +kernel), gw_6 109 (by decide +kernel) (by decide +kernel)⟩, ⟨gw_6 110 (by decide +kernel) (by decide +kernel), gw_1 12 (by decide +kernel) (by decide +kernel), by decide, by decide, by decide +kernel⟩⟩
theorem m_J_length : fMV M_J_length 0 := ⟨⟨gw_2 176 (by decide +kernel) (by decide +kernel), gw_2 177 (by decide +kernel) (by decide +kernel)⟩, ⟨gw_2 178 (by decide +kernel) (by decide +kernel), gw_1 13 (by decide +kernel) (by decide +kernel), by decide, by decide, by decide +kernel⟩⟩
theorem m_J_charAt : fMV M_J_charAt 1 := ⟨⟨gw_2 186 (by decide +kernel) (by decide +kernel), gw_2 187 (by decide +kernel) (by decide +kernel)⟩, ⟨gw_2 188 (by decide +kernel) (by decide +kernel), gw_1 13 (by decide +kernel) (by decide +kernel), by decide, by decide, by decide +kernel⟩⟩
theorem m_J_coder : fMV M_J_coder 0 := ⟨⟨gw_2 180 (by decide +kernel) (by decide +kernel), gw_2 181 (by decide +kernel) (by decide +kernel)⟩, ⟨gw_2 182 (by decide +kernel) (by decide +kernel), gw_1 13 (by decide +kernel) (by decide +kernel), by decide, by decide, by decide +kernel⟩⟩
theorem m_J_isLatin1 : fMV M_J_isLatin1 0 := ⟨⟨gw_2 190 (by decide +kernel) (by decide +kernel), gw_2 191 (by decide +kernel) (by decide +kernel)⟩, ⟨gw_2 192 (by decide +kernel) (by decide +kernel), gw_1 13 (by decide +kernel) (by decide +kernel), by decide, by decide, by decide +kernel⟩⟩
theorem m_J_checkIndex : fMS M_J_checkIndex 2 := ⟨gw_2 197 (by decide +kernel) (by decide +kernel), ⟨gw_2 198 (by decide +kernel) (by decide +kernel), gw_1 13 (by decide +kernel) (by decide +kernel), by decide, by decide, by decide +kernel⟩⟩
theorem m_Q_charAt : fMS M_Q_charAt 2 := ⟨gw_2 194 (by decide +kernel) (by decide +kernel), ⟨gw_2 195 (by decide +kernel) (by decide +kernel), gw_1 14 (by decide +kernel) (by decide +kernel), by decide, by decide, by decide +kernel⟩⟩
theorem m_A_fill : fMS M_A_fill 2 := ⟨gw_1 146 (by decide +kernel) (by decide +kernel), ⟨gw_1 147 (by decide +kernel) (by decide +kernel), gw_1 7 (by decide +kernel) (by decide +kernel), by decide, by decide, by decide +kernel⟩⟩
theorem m_R_checkIndex : fMS M_R_checkIndex 3 := ⟨gw_2 202 (by decide +kernel) (by decide +kernel), ⟨gw_2 203 (by decide +kernel) (by decide +kernel), gw_1 15 (by decide +kernel) (by decide +kernel), by decide, by decide, by decide +kernel⟩⟩
theorem k_F_1 : Cond.methodLink "FigureLeave" 1 objectInit ∈ gw := gw_1 25 (by decide +kernel) (by decide +kernel)
theorem n_F_7 : fNW "FigureLeave" 7 1 [.null, .null, .null, .null, .null, .null] 6 := ⟨"FigureLeave$House", cT_H, cy_H, rfl, gw_1 28 (by decide +kernel) (by decide +kernel), gw_1 29 (by decide +kernel) (by decide +kernel), gw_1 2 (by decide +kernel) (by decide +kernel), cp_H, by decide +kernel, fun _ => rfl⟩
theorem na_F_7 : Cond.classLink "FigureLeave" 7 "FigureLeave$House" ∈ gw := gw_1 28 (by decide +kernel) (by decide +kernel)
theorem k_F_9 : fML "FigureLeave" 9 M_H_init := Or.inr ⟨"FigureLeave", nw_1 30 (by decide +kernel) rfl⟩
theorem l_F_10 : fFL "FigureLeave" 10 0 0 := ⟨"FigureLeave", cT_F, 12, rfl, by decide, rfl, Or.inl (gw_2 37 (by decide +kernel) (by decide +kernel))⟩
theorem q_F_10 : fPF "FigureLeave" 10 0 0 (.object "FigureLeave$House") := ⟨"FigureLeave", cT_F, 12, rfl, by decide, rfl, rfl, rfl, by decide +kernel, gw_2 37 (by decide +kernel) (by decide +kernel)⟩
theorem l_F_16 : fFL "FigureLeave" 16 0 1 := ⟨"FigureLeave", cT_F, 12, rfl, by decide, rfl, Or.inl (gw_2 38 (by decide +kernel) (by decide +kernel))⟩
theorem q_F_16 : fPF "FigureLeave" 16 0 1 (.object "FigureLeave$House") := ⟨"FigureLeave", cT_F, 12, rfl, by decide, rfl, rfl, rfl, by decide +kernel, gw_2 38 (by decide +kernel) (by decide +kernel)⟩
theorem l_F_19 : fFL "FigureLeave" 19 0 2 := ⟨"FigureLeave", cT_F, 12, rfl, by decide, rfl, Or.inl (gw_2 39 (by decide +kernel) (by decide +kernel))⟩
theorem q_F_19 : fPF "FigureLeave" 19 0 2 (.array (.object "FigureLeave$House")) := ⟨"FigureLeave", cT_F, 12, rfl, by decide, rfl, rfl, rfl, by decide +kernel, gw_2 39 (by decide +kernel) (by decide +kernel)⟩
theorem n_F_23 : fNW "FigureLeave" 23 7 [.null, .null, .null, .null, .int 0, .int 0] 6 := ⟨"FigureLeave$Clerk", cT_K, cy_K, rfl, gw_1 183 (by decide +kernel) (by decide +kernel), gw_1 184 (by decide +kernel) (by decide +kernel), gw_1 8 (by decide +kernel) (by decide +kernel), cp_K, by decide +kernel, fun _ => rfl⟩
theorem k_F_25 : fML "FigureLeave" 25 M_K_init := Or.inr ⟨"FigureLeave", nw_1 185 (by decide +kernel) rfl⟩
theorem l_F_26 : fFL "FigureLeave" 26 0 3 := ⟨"FigureLeave", cT_F, 12, rfl, by decide, rfl, Or.inl (gw_2 40 (by decide +kernel) (by decide +kernel))⟩
theorem q_F_26 : fPF "FigureLeave" 26 0 3 (.object "FigureLeave$Clerk") := ⟨"FigureLeave", cT_F, 12, rfl, by decide, rfl, rfl, rfl, by decide +kernel, gw_2 40 (by decide +kernel) (by decide +kernel)⟩
theorem n_F_30 : fNW "FigureLeave" 30 8 [.null] 1 := ⟨"FigureLeave$Sleuth", cT_U, cy_U, rfl, gw_1 230 (by decide +kernel) (by decide +kernel), gw_1 231 (by decide +kernel) (by decide +kernel), gw_1 10 (by decide +kernel) (by decide +kernel), cp_U, by decide +kernel, fun _ => rfl⟩
theorem k_F_32 : fML "FigureLeave" 32 M_U_init := Or.inr ⟨"FigureLeave", nw_1 232 (by decide +kernel) rfl⟩
theorem l_F_33 : fFL "FigureLeave" 33 0 4 := ⟨"FigureLeave", cT_F, 12, rfl, by decide, rfl, Or.inl (gw_2 41 (by decide +kernel) (by decide +kernel))⟩
theorem q_F_33 : fPF "FigureLeave" 33 0 4 (.object "FigureLeave$Sleuth") := ⟨"FigureLeave", cT_F, 12, rfl, by decide, rfl, rfl, rfl, by decide +kernel, gw_2 41 (by decide +kernel) (by decide +kernel)⟩
theorem n_F_37 : fNW "FigureLeave" 37 9 [.null, .null, .int 0, .int 0, .int 0, .int 0, .int 0] 7 := ⟨"FigureLeave$Text", cT_T, cy_T, rfl, gw_2 2 (by decide +kernel) (by decide +kernel), gw_2 3 (by decide +kernel) (by decide +kernel), gw_1 11 (by decide +kernel) (by decide +kernel), cp_T, by decide +kernel, fun _ => rfl⟩
theorem k_F_39 : fML "FigureLeave" 39 M_T_init := Or.inr ⟨"FigureLeave", nw_2 4 (by decide +kernel) rfl⟩
theorem l_F_40 : fFL "FigureLeave" 40 0 5 := ⟨"FigureLeave", cT_F, 12, rfl, by decide, rfl, Or.inl (gw_2 42 (by decide +kernel) (by decide +kernel))⟩
theorem q_F_40 : fPF "FigureLeave" 40 0 5 (.object "FigureLeave$Text") := ⟨"FigureLeave", cT_F, 12, rfl, by decide, rfl, rfl, rfl, by decide +kernel, gw_2 42 (by decide +kernel) (by decide +kernel)⟩
theorem n_F_44 : fNW "FigureLeave" 44 6 [.null, .int 0] 2 := ⟨"FigureLeave$Line", cT_L, cy_L, rfl, gw_2 35 (by decide +kernel) (by decide +kernel), gw_1 190 (by decide +kernel) (by decide +kernel), gw_1 9 (by decide +kernel) (by decide +kernel), cp_L, by decide +kernel, fun _ => rfl⟩
theorem k_F_46 : fML "FigureLeave" 46 M_L_init := Or.inr ⟨"FigureLeave", nw_2 36 (by decide +kernel) rfl⟩
theorem l_F_47 : fFL "FigureLeave" 47 0 6 := ⟨"FigureLeave", cT_F, 12, rfl, by decide, rfl, Or.inl (gw_2 43 (by decide +kernel) (by decide +kernel))⟩
theorem q_F_47 : fPF "FigureLeave" 47 0 6 (.object "FigureLeave$Line") := ⟨"FigureLeave", cT_F, 12, rfl, by decide, rfl, rfl, rfl, by decide +kernel, gw_2 43 (by decide +kernel) (by decide +kernel)⟩
theorem l_F_51 : fFL "FigureLeave" 51 0 7 := ⟨"FigureLeave", cT_F, 12, rfl, by decide, rfl, Or.inl (gw_2 44 (by decide +kernel) (by decide +kernel))⟩
theorem p_F_51 : fPL "FigureLeave" 51 0 7 .int := ⟨"FigureLeave", cT_F, 12, rfl, by decide, rfl, rfl, by decide +kernel, Or.inl (gw_2 44 (by decide +kernel) (by decide +kernel))⟩
theorem l_F_55 : fFL "FigureLeave" 55 0 8 := ⟨"FigureLeave", cT_F, 12, rfl, by decide, rfl, Or.inl (gw_2 45 (by decide +kernel) (by decide +kernel))⟩
theorem p_F_55 : fPL "FigureLeave" 55 0 8 .int := ⟨"FigureLeave", cT_F, 12, rfl, by decide, rfl, rfl, by decide +kernel, Or.inl (gw_2 45 (by decide +kernel) (by decide +kernel))⟩
theorem l_F_58 : fFL "FigureLeave" 58 0 9 := ⟨"FigureLeave", cT_F, 12, rfl, by decide, rfl, Or.inl (gw_2 46 (by decide +kernel) (by decide +kernel))⟩
theorem p_F_58 : fPL "FigureLeave" 58 0 9 .int := ⟨"FigureLeave", cT_F, 12, rfl, by decide, rfl, rfl, by decide +kernel, Or.inl (gw_2 46 (by decide +kernel) (by decide +kernel))⟩
theorem l_F_61 : fFL "FigureLeave" 61 0 10 := ⟨"FigureLeave", cT_F, 12, rfl, by decide, rfl, Or.inl (gw_2 47 (by decide +kernel) (by decide +kernel))⟩
theorem p_F_61 : fPL "FigureLeave" 61 0 10 .int := ⟨"FigureLeave", cT_F, 12, rfl, by decide, rfl, rfl, by decide +kernel, Or.inl (gw_2 47 (by decide +kernel) (by decide +kernel))⟩
theorem l_F_64 : fFL "FigureLeave" 64 0 11 := ⟨"FigureLeave", cT_F, 12, rfl, by decide, rfl, Or.inl (gw_2 48 (by decide +kernel) (by decide +kernel))⟩
theorem p_F_64 : fPL "FigureLeave" 64 0 11 .int := ⟨"FigureLeave", cT_F, 12, rfl, by decide, rfl, rfl, by decide +kernel, Or.inl (gw_2 48 (by decide +kernel) (by decide +kernel))⟩
theorem l_F_67 : fFL "FigureLeave" 67 1 3 := ⟨"FigureLeave$House", cT_H, 6, rfl, by decide, rfl, Or.inr ⟨"FigureLeave", nw_1 161 (by decide +kernel) rfl⟩⟩
theorem l_F_71 : fFL "FigureLeave" 71 3 2 := ⟨"FigureLeave$Bills", cT_B, 5, rfl, by decide, rfl, Or.inr ⟨"FigureLeave", nw_1 72 (by decide +kernel) rfl⟩⟩
theorem k_F_76 : fML "FigureLeave" 76 M_H_begin := Or.inr ⟨"FigureLeave", nw_2 78 (by decide +kernel) rfl⟩
theorem k_F_79 : fML "FigureLeave" 79 M_F_isFigure := Or.inl (gw_2 103 (by decide +kernel) (by decide +kernel))
theorem k_F_85 : fML "FigureLeave" 85 M_F_within := Or.inl (gw_2 106 (by decide +kernel) (by decide +kernel))
theorem k_F_89 : fML "FigureLeave" 89 M_F_bad := Or.inl (gw_2 109 (by decide +kernel) (by decide +kernel))
theorem l_F_93 : fFL "FigureLeave" 93 1 0 := ⟨"FigureLeave$House", cT_H, 6, rfl, by decide, rfl, Or.inr ⟨"FigureLeave", nw_1 149 (by decide +kernel) rfl⟩⟩
theorem l_F_97 : fFL "FigureLeave" 97 1 1 := ⟨"FigureLeave$House", cT_H, 6, rfl, by decide, rfl, Or.inr ⟨"FigureLeave", nw_1 153 (by decide +kernel) rfl⟩⟩
theorem k_F_100 : fML "FigureLeave" 100 M_H_tellFigure := Or.inr ⟨"FigureLeave", nw_2 113 (by decide +kernel) rfl⟩
theorem k_F_104 : fML "FigureLeave" 104 M_F_isNumber := Or.inl (gw_2 122 (by decide +kernel) (by decide +kernel))
theorem k_F_107 : fML "FigureLeave" 107 M_F_full := Or.inl (gw_2 125 (by decide +kernel) (by decide +kernel))
theorem k_F_110 : fML "FigureLeave" 110 M_H_tellBill := Or.inr ⟨"FigureLeave", nw_2 129 (by decide +kernel) rfl⟩
theorem l_F_114 : fFL "FigureLeave" 114 9 2 := ⟨"FigureLeave$Text", cT_T, 7, rfl, by decide, rfl, Or.inr ⟨"FigureLeave", nw_2 14 (by decide +kernel) rfl⟩⟩
theorem p_F_114 : fPL "FigureLeave" 114 9 2 .int := ⟨"FigureLeave$Text", cT_T, 7, rfl, by decide, rfl, rfl, by decide +kernel, Or.inr ⟨"FigureLeave", nw_2 14 (by decide +kernel) rfl⟩⟩
theorem l_F_115 : fFL "FigureLeave" 115 9 0 := ⟨"FigureLeave$Text", cT_T, 7, rfl, by decide, rfl, Or.inr ⟨"FigureLeave", nw_2 11 (by decide +kernel) rfl⟩⟩
theorem k_F_118 : fML "FigureLeave" 118 M_T_readInto := Or.inr ⟨"FigureLeave", nw_2 149 (by decide +kernel) rfl⟩
theorem l_F_122 : fFL "FigureLeave" 122 9 4 := ⟨"FigureLeave$Text", cT_T, 7, rfl, by decide, rfl, Or.inr ⟨"FigureLeave", nw_2 17 (by decide +kernel) rfl⟩⟩
theorem k_F_125 : fML "FigureLeave" 125 M_H_become := Or.inr ⟨"FigureLeave", nw_3 58 (by decide +kernel) rfl⟩
theorem k_F_129 : fML "FigureLeave" 129 M_L_tell := Or.inr ⟨"FigureLeave", nw_3 90 (by decide +kernel) rfl⟩
theorem l_F_132 : fFL "FigureLeave" 132 1 2 := ⟨"FigureLeave$House", cT_H, 6, rfl, by decide, rfl, Or.inr ⟨"FigureLeave", nw_1 159 (by decide +kernel) rfl⟩⟩
theorem k_F_136 : fML "FigureLeave" 136 M_H_takes := Or.inr ⟨"FigureLeave", nw_3 91 (by decide +kernel) rfl⟩
theorem k_F_140 : fML "FigureLeave" 140 M_F_no := Or.inl (gw_3 95 (by decide +kernel) (by decide +kernel))
theorem k_F_143 : fML "FigureLeave" 143 M_H_remember := Or.inr ⟨"FigureLeave", nw_3 99 (by decide +kernel) rfl⟩
theorem k_F_146 : fML "FigureLeave" 146 M_H_puts := Or.inr ⟨"FigureLeave", nw_3 107 (by decide +kernel) rfl⟩
theorem k_F_149 : fML "FigureLeave" 149 M_H_costOf := Or.inr ⟨"FigureLeave", nw_3 108 (by decide +kernel) rfl⟩
theorem k_F_153 : fML "FigureLeave" 153 M_B_holds := Or.inr ⟨"FigureLeave", nw_3 116 (by decide +kernel) rfl⟩
theorem l_F_156 : fFL "FigureLeave" 156 3 0 := ⟨"FigureLeave$Bills", cT_B, 5, rfl, by decide, rfl, Or.inr ⟨"FigureLeave", nw_1 65 (by decide +kernel) rfl⟩⟩
theorem k_F_159 : fML "FigureLeave" 159 M_B_isPaid := Or.inr ⟨"FigureLeave", nw_3 120 (by decide +kernel) rfl⟩
theorem k_F_162 : fML "FigureLeave" 162 M_B_settle := Or.inr ⟨"FigureLeave", nw_3 124 (by decide +kernel) rfl⟩
theorem l_F_166 : fFL "FigureLeave" 166 3 4 := ⟨"FigureLeave$Bills", cT_B, 5, rfl, by decide, rfl, Or.inr ⟨"FigureLeave", nw_1 82 (by decide +kernel) rfl⟩⟩
theorem k_F_169 : fML "FigureLeave" 169 M_H_sleep := Or.inr ⟨"FigureLeave", nw_3 133 (by decide +kernel) rfl⟩
theorem l_F_172 : fFL "FigureLeave" 172 2 1 := ⟨"FigureLeave$Shift", cT_S, 2, rfl, by decide, rfl, Or.inr ⟨"FigureLeave", nw_1 49 (by decide +kernel) rfl⟩⟩
theorem l_F_177 : fFL "FigureLeave" 177 1 5 := ⟨"FigureLeave$House", cT_H, 6, rfl, by decide, rfl, Or.inr ⟨"FigureLeave", nw_1 168 (by decide +kernel) rfl⟩⟩
theorem l_F_181 : fFL "FigureLeave" 181 5 1 := ⟨"FigureLeave$Past", cT_P, 2, rfl, by decide, rfl, Or.inr ⟨"FigureLeave", nw_1 139 (by decide +kernel) rfl⟩⟩
theorem k_F_184 : fML "FigureLeave" 184 M_H_goBack := Or.inr ⟨"FigureLeave", nw_3 138 (by decide +kernel) rfl⟩
theorem l_F_187 : fFL "FigureLeave" 187 2 0 := ⟨"FigureLeave$Shift", cT_S, 2, rfl, by decide, rfl, Or.inr ⟨"FigureLeave", nw_1 43 (by decide +kernel) rfl⟩⟩
theorem k_F_190 : fML "FigureLeave" 190 M_H_leftOf := Or.inr ⟨"FigureLeave", nw_3 150 (by decide +kernel) rfl⟩
theorem k_F_194 : fML "FigureLeave" 194 M_I_rest := Or.inr ⟨"FigureLeave", nw_3 154 (by decide +kernel) rfl⟩
theorem l_F_198 : fFL "FigureLeave" 198 3 1 := ⟨"FigureLeave$Bills", cT_B, 5, rfl, by decide, rfl, Or.inr ⟨"FigureLeave", nw_1 68 (by decide +kernel) rfl⟩⟩
theorem k_F_201 : fML "FigureLeave" 201 M_F_isSign := Or.inl (gw_3 163 (by decide +kernel) (by decide +kernel))
theorem k_F_204 : fML "FigureLeave" 204 M_I_wear := Or.inr ⟨"FigureLeave", nw_3 166 (by decide +kernel) rfl⟩
theorem k_F_208 : fML "FigureLeave" 208 M_K_cheapest := Or.inr ⟨"FigureLeave", nw_3 179 (by decide +kernel) rfl⟩
theorem k_F_212 : fML "FigureLeave" 212 M_K_firstWithout := Or.inr ⟨"FigureLeave", nw_3 190 (by decide +kernel) rfl⟩
theorem k_F_215 : fML "FigureLeave" 215 M_K_countOn := Or.inr ⟨"FigureLeave", nw_3 202 (by decide +kernel) rfl⟩
theorem k_F_218 : fML "FigureLeave" 218 M_K_nightsTill := Or.inr ⟨"FigureLeave", nw_3 212 (by decide +kernel) rfl⟩
theorem k_F_222 : fML "FigureLeave" 222 M_K_dearestBills := Or.inr ⟨"FigureLeave", nw_3 221 (by decide +kernel) rfl⟩
theorem k_F_225 : fML "FigureLeave" 225 M_B_worthOf := Or.inr ⟨"FigureLeave", nw_3 233 (by decide +kernel) rfl⟩
theorem k_F_228 : fML "FigureLeave" 228 M_K_planDays := Or.inr ⟨"FigureLeave", nw_3 238 (by decide +kernel) rfl⟩
theorem k_F_231 : fML "FigureLeave" 231 M_K_plannedDay := Or.inr ⟨"FigureLeave", nw_4 12 (by decide +kernel) rfl⟩
theorem k_F_234 : fML "FigureLeave" 234 M_K_mostWanted := Or.inr ⟨"FigureLeave", nw_4 20 (by decide +kernel) rfl⟩
theorem k_F_237 : fML "FigureLeave" 237 M_K_numbersWith := Or.inr ⟨"FigureLeave", nw_4 29 (by decide +kernel) rfl⟩
theorem l_F_240 : fFL "FigureLeave" 240 1 4 := ⟨"FigureLeave$House", cT_H, 6, rfl, by decide, rfl, Or.inr ⟨"FigureLeave", nw_1 166 (by decide +kernel) rfl⟩⟩
theorem l_F_244 : fFL "FigureLeave" 244 4 2 := ⟨"FigureLeave$Clues", cT_C, 8, rfl, by decide, rfl, Or.inr ⟨"FigureLeave", nw_1 106 (by decide +kernel) rfl⟩⟩
theorem k_F_249 : fML "FigureLeave" 249 M_C_addTrace := Or.inr ⟨"FigureLeave", nw_4 34 (by decide +kernel) rfl⟩
theorem k_F_252 : fML "FigureLeave" 252 M_U_howManyLines := Or.inr ⟨"FigureLeave", nw_4 42 (by decide +kernel) rfl⟩
theorem k_F_255 : fML "FigureLeave" 255 M_U_lineAt := Or.inr ⟨"FigureLeave", nw_4 56 (by decide +kernel) rfl⟩
theorem l_F_258 : fFL "FigureLeave" 258 4 7 := ⟨"FigureLeave$Clues", cT_C, 8, rfl, by decide, rfl, Or.inr ⟨"FigureLeave", nw_1 112 (by decide +kernel) rfl⟩⟩
theorem k_F_261 : fML "FigureLeave" 261 M_C_addNote := Or.inr ⟨"FigureLeave", nw_4 64 (by decide +kernel) rfl⟩
theorem k_F_265 : fML "FigureLeave" 265 M_C_dropTraces := Or.inr ⟨"FigureLeave", nw_4 72 (by decide +kernel) rfl⟩
theorem k_F_268 : fML "FigureLeave" 268 M_C_dropNotes := Or.inr ⟨"FigureLeave", nw_4 73 (by decide +kernel) rfl⟩
theorem k_F_271 : fML "FigureLeave" 271 M_C_kindsOf := Or.inr ⟨"FigureLeave", nw_4 78 (by decide +kernel) rfl⟩
theorem k_F_274 : fML "FigureLeave" 274 M_U_nextLook := Or.inr ⟨"FigureLeave", nw_4 91 (by decide +kernel) rfl⟩
theorem k_F_277 : fML "FigureLeave" 277 M_K_restingPairs := Or.inr ⟨"FigureLeave", nw_4 104 (by decide +kernel) rfl⟩
theorem l_F_280 : fFL "FigureLeave" 280 6 1 := ⟨"FigureLeave$Line", cT_L, 2, rfl, by decide, rfl, Or.inr ⟨"FigureLeave", nw_1 203 (by decide +kernel) rfl⟩⟩
theorem k_F_281 : fML "FigureLeave" 281 M_K_luckyWays := Or.inr ⟨"FigureLeave", nw_4 116 (by decide +kernel) rfl⟩
theorem k_F_285 : fML "FigureLeave" 285 M_F_setFraction := Or.inl (gw_4 130 (by decide +kernel) (by decide +kernel))
theorem o_F_288 : Cond.constant "FigureLeave" 288 999999 ∈ gw := gw_4 138 (by decide +kernel) (by decide +kernel)
theorem k_F_289 : fML "FigureLeave" 289 M_K_writtenBySeed := Or.inr ⟨"FigureLeave", nw_4 139 (by decide +kernel) rfl⟩
theorem k_F_292 : fML "FigureLeave" 292 M_F_howMany := Or.inl (gw_4 168 (by decide +kernel) (by decide +kernel))
theorem o_F_295 : Cond.constantLong "FigureLeave" 295 1493 ∈ gw := gw_4 180 (by decide +kernel) (by decide +kernel)
theorem o_F_297 : Cond.constantLong "FigureLeave" 297 31 ∈ gw := gw_4 181 (by decide +kernel) (by decide +kernel)
theorem k_F_299 : fML "FigureLeave" 299 M_H_mixInto := Or.inr ⟨"FigureLeave", nw_4 182 (by decide +kernel) rfl⟩
theorem l_F_303 : fFL "FigureLeave" 303 3 3 := ⟨"FigureLeave$Bills", cT_B, 5, rfl, by decide, rfl, Or.inr ⟨"FigureLeave", nw_1 79 (by decide +kernel) rfl⟩⟩
theorem k_F_306 : fML "FigureLeave" 306 M_S_wornTogether := Or.inr ⟨"FigureLeave", nw_4 172 (by decide +kernel) rfl⟩
theorem k_B_3 : Cond.methodLink "FigureLeave$Bills" 3 objectInit ∈ gw := gw_1 62 (by decide +kernel) (by decide +kernel)
theorem l_B_9 : fFL "FigureLeave$Bills" 9 3 0 := ⟨"FigureLeave$Bills", cT_B, 5, rfl, by decide, rfl, Or.inl (gw_1 63 (by decide +kernel) (by decide +kernel))⟩
theorem q_B_9 : fPF "FigureLeave$Bills" 9 3 0 (.array .int) := ⟨"FigureLeave$Bills", cT_B, 5, rfl, by decide, rfl, rfl, rfl, by decide +kernel, gw_1 63 (by decide +kernel) (by decide +kernel)⟩
theorem l_B_15 : fFL "FigureLeave$Bills" 15 3 1 := ⟨"FigureLeave$Bills", cT_B, 5, rfl, by decide, rfl, Or.inl (gw_1 67 (by decide +kernel) (by decide +kernel))⟩
theorem q_B_15 : fPF "FigureLeave$Bills" 15 3 1 (.array .int) := ⟨"FigureLeave$Bills", cT_B, 5, rfl, by decide, rfl, rfl, rfl, by decide +kernel, gw_1 67 (by decide +kernel) (by decide +kernel)⟩
theorem l_B_18 : fFL "FigureLeave$Bills" 18 3 2 := ⟨"FigureLeave$Bills", cT_B, 5, rfl, by decide, rfl, Or.inl (gw_1 71 (by decide +kernel) (by decide +kernel))⟩
theorem p_B_18 : fPL "FigureLeave$Bills" 18 3 2 .int := ⟨"FigureLeave$Bills", cT_B, 5, rfl, by decide, rfl, rfl, by decide +kernel, Or.inl (gw_1 71 (by decide +kernel) (by decide +kernel))⟩
theorem l_B_22 : fFL "FigureLeave$Bills" 22 3 3 := ⟨"FigureLeave$Bills", cT_B, 5, rfl, by decide, rfl, Or.inl (gw_1 76 (by decide +kernel) (by decide +kernel))⟩
theorem p_B_22 : fPL "FigureLeave$Bills" 22 3 3 .int := ⟨"FigureLeave$Bills", cT_B, 5, rfl, by decide, rfl, rfl, by decide +kernel, Or.inl (gw_1 76 (by decide +kernel) (by decide +kernel))⟩
theorem l_B_25 : fFL "FigureLeave$Bills" 25 3 4 := ⟨"FigureLeave$Bills", cT_B, 5, rfl, by decide, rfl, Or.inl (gw_1 80 (by decide +kernel) (by decide +kernel))⟩
theorem p_B_25 : fPL "FigureLeave$Bills" 25 3 4 .int := ⟨"FigureLeave$Bills", cT_B, 5, rfl, by decide, rfl, rfl, by decide +kernel, Or.inl (gw_1 80 (by decide +kernel) (by decide +kernel))⟩
theorem k_B_28 : Cond.methodLink "FigureLeave$Bills" 28 arraycopyName ∈ gw := gw_3 74 (by decide +kernel) (by decide +kernel)
theorem k_B_34 : fML "FigureLeave$Bills" 34 M_B_holds := Or.inl (gw_3 128 (by decide +kernel) (by decide +kernel))
theorem k_K_3 : Cond.methodLink "FigureLeave$Clerk" 3 objectInit ∈ gw := gw_1 188 (by decide +kernel) (by decide +kernel)
theorem n_K_9 : fNW "FigureLeave$Clerk" 9 6 [.null, .int 0] 2 := ⟨"FigureLeave$Line", cT_L, cy_L, rfl, gw_1 189 (by decide +kernel) (by decide +kernel), gw_1 190 (by decide +kernel) (by decide +kernel), gw_1 9 (by decide +kernel) (by decide +kernel), cp_L, by decide +kernel, fun _ => rfl⟩
theorem k_K_11 : fML "FigureLeave$Clerk" 11 M_L_init := Or.inr ⟨"FigureLeave", nw_1 191 (by decide +kernel) rfl⟩
theorem l_K_12 : fFL "FigureLeave$Clerk" 12 7 0 := ⟨"FigureLeave$Clerk", cT_K, 6, rfl, by decide, rfl, Or.inl (gw_1 211 (by decide +kernel) (by decide +kernel))⟩
theorem q_K_12 : fPF "FigureLeave$Clerk" 12 7 0 (.object "FigureLeave$Line") := ⟨"FigureLeave$Clerk", cT_K, 6, rfl, by decide, rfl, rfl, rfl, by decide +kernel, gw_1 211 (by decide +kernel) (by decide +kernel)⟩
theorem n_K_18 : fNW "FigureLeave$Clerk" 18 2 [.null, .int 0] 2 := ⟨"FigureLeave$Shift", cT_S, cy_S, rfl, gw_1 209 (by decide +kernel) (by decide +kernel), gw_1 35 (by decide +kernel) (by decide +kernel), gw_1 3 (by decide +kernel) (by decide +kernel), cp_S, by decide +kernel, fun _ => rfl⟩
theorem k_K_20 : fML "FigureLeave$Clerk" 20 M_S_init := Or.inr ⟨"FigureLeave", nw_1 210 (by decide +kernel) rfl⟩
theorem l_K_21 : fFL "FigureLeave$Clerk" 21 7 1 := ⟨"FigureLeave$Clerk", cT_K, 6, rfl, by decide, rfl, Or.inl (gw_1 212 (by decide +kernel) (by decide +kernel))⟩
theorem q_K_21 : fPF "FigureLeave$Clerk" 21 7 1 (.object "FigureLeave$Shift") := ⟨"FigureLeave$Clerk", cT_K, 6, rfl, by decide, rfl, rfl, rfl, by decide +kernel, gw_1 212 (by decide +kernel) (by decide +kernel)⟩
theorem l_K_25 : fFL "FigureLeave$Clerk" 25 7 2 := ⟨"FigureLeave$Clerk", cT_K, 6, rfl, by decide, rfl, Or.inl (gw_1 213 (by decide +kernel) (by decide +kernel))⟩
theorem q_K_25 : fPF "FigureLeave$Clerk" 25 7 2 (.array .int) := ⟨"FigureLeave$Clerk", cT_K, 6, rfl, by decide, rfl, rfl, rfl, by decide +kernel, gw_1 213 (by decide +kernel) (by decide +kernel)⟩
theorem l_K_29 : fFL "FigureLeave$Clerk" 29 7 3 := ⟨"FigureLeave$Clerk", cT_K, 6, rfl, by decide, rfl, Or.inl (gw_1 214 (by decide +kernel) (by decide +kernel))⟩
theorem q_K_29 : fPF "FigureLeave$Clerk" 29 7 3 (.array .int) := ⟨"FigureLeave$Clerk", cT_K, 6, rfl, by decide, rfl, rfl, rfl, by decide +kernel, gw_1 214 (by decide +kernel) (by decide +kernel)⟩
theorem l_K_32 : fFL "FigureLeave$Clerk" 32 7 4 := ⟨"FigureLeave$Clerk", cT_K, 6, rfl, by decide, rfl, Or.inl (gw_1 215 (by decide +kernel) (by decide +kernel))⟩
theorem p_K_32 : fPL "FigureLeave$Clerk" 32 7 4 .int := ⟨"FigureLeave$Clerk", cT_K, 6, rfl, by decide, rfl, rfl, by decide +kernel, Or.inl (gw_1 215 (by decide +kernel) (by decide +kernel))⟩
theorem l_K_36 : fFL "FigureLeave$Clerk" 36 7 5 := ⟨"FigureLeave$Clerk", cT_K, 6, rfl, by decide, rfl, Or.inl (gw_1 216 (by decide +kernel) (by decide +kernel))⟩
theorem p_K_36 : fPL "FigureLeave$Clerk" 36 7 5 .int := ⟨"FigureLeave$Clerk", cT_K, 6, rfl, by decide, rfl, rfl, by decide +kernel, Or.inl (gw_1 216 (by decide +kernel) (by decide +kernel))⟩
theorem k_K_39 : fML "FigureLeave$Clerk" 39 M_L_tell := Or.inr ⟨"FigureLeave", nw_3 183 (by decide +kernel) rfl⟩
theorem k_K_43 : fML "FigureLeave$Clerk" 43 M_H_costOf := Or.inr ⟨"FigureLeave", nw_3 184 (by decide +kernel) rfl⟩
theorem l_K_49 : fFL "FigureLeave$Clerk" 49 1 2 := ⟨"FigureLeave$House", cT_H, 6, rfl, by decide, rfl, Or.inr ⟨"FigureLeave", nw_1 156 (by decide +kernel) rfl⟩⟩
theorem k_K_52 : fML "FigureLeave$Clerk" 52 M_H_takes := Or.inr ⟨"FigureLeave", nw_3 185 (by decide +kernel) rfl⟩
theorem k_K_56 : fML "FigureLeave$Clerk" 56 M_K_byAny := Or.inl (gw_3 194 (by decide +kernel) (by decide +kernel))
theorem k_K_60 : fML "FigureLeave$Clerk" 60 M_S_become := Or.inr ⟨"FigureLeave", nw_3 206 (by decide +kernel) rfl⟩
theorem k_K_64 : fML "FigureLeave$Clerk" 64 M_H_puts := Or.inr ⟨"FigureLeave", nw_3 207 (by decide +kernel) rfl⟩
theorem k_K_67 : fML "FigureLeave$Clerk" 67 M_H_rests := Or.inr ⟨"FigureLeave", nw_3 216 (by decide +kernel) rfl⟩
theorem l_K_70 : fFL "FigureLeave$Clerk" 70 1 3 := ⟨"FigureLeave$House", cT_H, 6, rfl, by decide, rfl, Or.inr ⟨"FigureLeave", nw_1 163 (by decide +kernel) rfl⟩⟩
theorem l_K_74 : fFL "FigureLeave$Clerk" 74 3 2 := ⟨"FigureLeave$Bills", cT_B, 5, rfl, by decide, rfl, Or.inr ⟨"FigureLeave", nw_1 74 (by decide +kernel) rfl⟩⟩
theorem l_K_79 : fFL "FigureLeave$Clerk" 79 3 3 := ⟨"FigureLeave$Bills", cT_B, 5, rfl, by decide, rfl, Or.inr ⟨"FigureLeave", nw_1 78 (by decide +kernel) rfl⟩⟩
theorem k_K_82 : fML "FigureLeave$Clerk" 82 M_B_worthOf := Or.inr ⟨"FigureLeave", nw_3 225 (by decide +kernel) rfl⟩
theorem k_K_86 : fML "FigureLeave$Clerk" 86 M_K_goTogether := Or.inl (gw_3 229 (by decide +kernel) (by decide +kernel))
theorem l_K_89 : fFL "FigureLeave$Clerk" 89 3 0 := ⟨"FigureLeave$Bills", cT_B, 5, rfl, by decide, rfl, Or.inr ⟨"FigureLeave", nw_1 64 (by decide +kernel) rfl⟩⟩
theorem k_K_92 : fML "FigureLeave$Clerk" 92 M_B_isPaid := Or.inr ⟨"FigureLeave", nw_4 2 (by decide +kernel) rfl⟩
theorem k_K_96 : fML "FigureLeave$Clerk" 96 M_K_planWithin := Or.inl (gw_4 3 (by decide +kernel) (by decide +kernel))
theorem o_K_99 : Cond.constant "FigureLeave$Clerk" 99 1000000 ∈ gw := gw_4 7 (by decide +kernel) (by decide +kernel)
theorem k_K_100 : fML "FigureLeave$Clerk" 100 M_K_holdsSoFar := Or.inl (gw_4 8 (by decide +kernel) (by decide +kernel))
theorem k_K_104 : fML "FigureLeave$Clerk" 104 M_K_numbersWith := Or.inl (gw_4 24 (by decide +kernel) (by decide +kernel))
theorem k_K_108 : fML "FigureLeave$Clerk" 108 M_F_isFigure := Or.inr ⟨"FigureLeave", nw_4 28 (by decide +kernel) rfl⟩
theorem l_K_111 : fFL "FigureLeave$Clerk" 111 1 1 := ⟨"FigureLeave$House", cT_H, 6, rfl, by decide, rfl, Or.inr ⟨"FigureLeave", nw_1 154 (by decide +kernel) rfl⟩⟩
theorem k_K_114 : fML "FigureLeave$Clerk" 114 M_K_gain := Or.inl (gw_4 108 (by decide +kernel) (by decide +kernel))
theorem l_K_118 : fFL "FigureLeave$Clerk" 118 3 1 := ⟨"FigureLeave$Bills", cT_B, 5, rfl, by decide, rfl, Or.inr ⟨"FigureLeave", nw_1 69 (by decide +kernel) rfl⟩⟩
theorem l_K_121 : fFL "FigureLeave$Clerk" 121 6 1 := ⟨"FigureLeave$Line", cT_L, 2, rfl, by decide, rfl, Or.inr ⟨"FigureLeave", nw_1 202 (by decide +kernel) rfl⟩⟩
theorem k_K_122 : fML "FigureLeave$Clerk" 122 M_K_bearsFree := Or.inl (gw_4 120 (by decide +kernel) (by decide +kernel))
theorem k_K_126 : fML "FigureLeave$Clerk" 126 M_K_waysOf := Or.inl (gw_4 126 (by decide +kernel) (by decide +kernel))
theorem l_K_130 : fFL "FigureLeave$Clerk" 130 6 0 := ⟨"FigureLeave$Line", cT_L, 2, rfl, by decide, rfl, Or.inr ⟨"FigureLeave", nw_1 198 (by decide +kernel) rfl⟩⟩
theorem l_K_133 : fFL "FigureLeave$Clerk" 133 2 0 := ⟨"FigureLeave$Shift", cT_S, 2, rfl, by decide, rfl, Or.inr ⟨"FigureLeave", nw_1 44 (by decide +kernel) rfl⟩⟩
theorem l_K_136 : fFL "FigureLeave$Clerk" 136 1 0 := ⟨"FigureLeave$House", cT_H, 6, rfl, by decide, rfl, Or.inr ⟨"FigureLeave", nw_1 151 (by decide +kernel) rfl⟩⟩
theorem l_K_139 : fFL "FigureLeave$Clerk" 139 2 1 := ⟨"FigureLeave$Shift", cT_S, 2, rfl, by decide, rfl, Or.inr ⟨"FigureLeave", nw_1 50 (by decide +kernel) rfl⟩⟩
theorem k_K_142 : fML "FigureLeave$Clerk" 142 M_I_wear := Or.inr ⟨"FigureLeave", nw_4 124 (by decide +kernel) rfl⟩
theorem k_K_147 : fML "FigureLeave$Clerk" 147 M_H_bears := Or.inr ⟨"FigureLeave", nw_4 125 (by decide +kernel) rfl⟩
theorem o_K_150 : Cond.constantLong "FigureLeave$Clerk" 150 1103515245 ∈ gw := gw_4 143 (by decide +kernel) (by decide +kernel)
theorem o_K_152 : Cond.constantLong "FigureLeave$Clerk" 152 12345 ∈ gw := gw_4 144 (by decide +kernel) (by decide +kernel)
theorem o_K_154 : Cond.constantLong "FigureLeave$Clerk" 154 2147483648 ∈ gw := gw_4 145 (by decide +kernel) (by decide +kernel)
theorem o_K_156 : Cond.constantLong "FigureLeave$Clerk" 156 65536 ∈ gw := gw_4 146 (by decide +kernel) (by decide +kernel)
theorem o_K_158 : Cond.constantLong "FigureLeave$Clerk" 158 100 ∈ gw := gw_4 147 (by decide +kernel) (by decide +kernel)
theorem k_C_3 : Cond.methodLink "FigureLeave$Clues" 3 objectInit ∈ gw := gw_1 99 (by decide +kernel) (by decide +kernel)
theorem l_C_9 : fFL "FigureLeave$Clues" 9 4 0 := ⟨"FigureLeave$Clues", cT_C, 8, rfl, by decide, rfl, Or.inl (gw_1 100 (by decide +kernel) (by decide +kernel))⟩
theorem q_C_9 : fPF "FigureLeave$Clues" 9 4 0 (.array .int) := ⟨"FigureLeave$Clues", cT_C, 8, rfl, by decide, rfl, rfl, rfl, by decide +kernel, gw_1 100 (by decide +kernel) (by decide +kernel)⟩
theorem l_C_15 : fFL "FigureLeave$Clues" 15 4 1 := ⟨"FigureLeave$Clues", cT_C, 8, rfl, by decide, rfl, Or.inl (gw_1 102 (by decide +kernel) (by decide +kernel))⟩
theorem q_C_15 : fPF "FigureLeave$Clues" 15 4 1 (.array .int) := ⟨"FigureLeave$Clues", cT_C, 8, rfl, by decide, rfl, rfl, rfl, by decide +kernel, gw_1 102 (by decide +kernel) (by decide +kernel)⟩
theorem l_C_18 : fFL "FigureLeave$Clues" 18 4 2 := ⟨"FigureLeave$Clues", cT_C, 8, rfl, by decide, rfl, Or.inl (gw_1 104 (by decide +kernel) (by decide +kernel))⟩
theorem p_C_18 : fPL "FigureLeave$Clues" 18 4 2 .int := ⟨"FigureLeave$Clues", cT_C, 8, rfl, by decide, rfl, rfl, by decide +kernel, Or.inl (gw_1 104 (by decide +kernel) (by decide +kernel))⟩
theorem l_C_22 : fFL "FigureLeave$Clues" 22 4 3 := ⟨"FigureLeave$Clues", cT_C, 8, rfl, by decide, rfl, Or.inl (gw_1 107 (by decide +kernel) (by decide +kernel))⟩
theorem q_C_22 : fPF "FigureLeave$Clues" 22 4 3 (.array .int) := ⟨"FigureLeave$Clues", cT_C, 8, rfl, by decide, rfl, rfl, rfl, by decide +kernel, gw_1 107 (by decide +kernel) (by decide +kernel)⟩
theorem l_C_25 : fFL "FigureLeave$Clues" 25 4 4 := ⟨"FigureLeave$Clues", cT_C, 8, rfl, by decide, rfl, Or.inl (gw_1 108 (by decide +kernel) (by decide +kernel))⟩
theorem q_C_25 : fPF "FigureLeave$Clues" 25 4 4 (.array .int) := ⟨"FigureLeave$Clues", cT_C, 8, rfl, by decide, rfl, rfl, rfl, by decide +kernel, gw_1 108 (by decide +kernel) (by decide +kernel)⟩
theorem l_C_28 : fFL "FigureLeave$Clues" 28 4 5 := ⟨"FigureLeave$Clues", cT_C, 8, rfl, by decide, rfl, Or.inl (gw_1 109 (by decide +kernel) (by decide +kernel))⟩
theorem q_C_28 : fPF "FigureLeave$Clues" 28 4 5 (.array .int) := ⟨"FigureLeave$Clues", cT_C, 8, rfl, by decide, rfl, rfl, rfl, by decide +kernel, gw_1 109 (by decide +kernel) (by decide +kernel)⟩
theorem l_C_31 : fFL "FigureLeave$Clues" 31 4 6 := ⟨"FigureLeave$Clues", cT_C, 8, rfl, by decide, rfl, Or.inl (gw_1 110 (by decide +kernel) (by decide +kernel))⟩
theorem q_C_31 : fPF "FigureLeave$Clues" 31 4 6 (.array .int) := ⟨"FigureLeave$Clues", cT_C, 8, rfl, by decide, rfl, rfl, rfl, by decide +kernel, gw_1 110 (by decide +kernel) (by decide +kernel)⟩
theorem l_C_34 : fFL "FigureLeave$Clues" 34 4 7 := ⟨"FigureLeave$Clues", cT_C, 8, rfl, by decide, rfl, Or.inl (gw_1 111 (by decide +kernel) (by decide +kernel))⟩
theorem p_C_34 : fPL "FigureLeave$Clues" 34 4 7 .int := ⟨"FigureLeave$Clues", cT_C, 8, rfl, by decide, rfl, rfl, by decide +kernel, Or.inl (gw_1 111 (by decide +kernel) (by decide +kernel))⟩
theorem k_C_37 : Cond.methodLink "FigureLeave$Clues" 37 arraycopyName ∈ gw := gw_3 79 (by decide +kernel) (by decide +kernel)
theorem k_C_45 : fML "FigureLeave$Clues" 45 M_C_mayBe := Or.inl (gw_4 82 (by decide +kernel) (by decide +kernel))
theorem k_C_49 : fML "FigureLeave$Clues" 49 M_I_wear := Or.inr ⟨"FigureLeave", nw_4 86 (by decide +kernel) rfl⟩
theorem o_C_53 : Cond.constantLong "FigureLeave$Clues" 53 31 ∈ gw := gw_4 191 (by decide +kernel) (by decide +kernel)
theorem k_H_3 : Cond.methodLink "FigureLeave$House" 3 objectInit ∈ gw := gw_1 33 (by decide +kernel) (by decide +kernel)
theorem l_H_9 : fFL "FigureLeave$House" 9 1 0 := ⟨"FigureLeave$House", cT_H, 6, rfl, by decide, rfl, Or.inl (gw_1 148 (by decide +kernel) (by decide +kernel))⟩
theorem q_H_9 : fPF "FigureLeave$House" 9 1 0 (.array .int) := ⟨"FigureLeave$House", cT_H, 6, rfl, by decide, rfl, rfl, rfl, by decide +kernel, gw_1 148 (by decide +kernel) (by decide +kernel)⟩
theorem l_H_15 : fFL "FigureLeave$House" 15 1 1 := ⟨"FigureLeave$House", cT_H, 6, rfl, by decide, rfl, Or.inl (gw_1 152 (by decide +kernel) (by decide +kernel))⟩
theorem q_H_15 : fPF "FigureLeave$House" 15 1 1 (.array .int) := ⟨"FigureLeave$House", cT_H, 6, rfl, by decide, rfl, rfl, rfl, by decide +kernel, gw_1 152 (by decide +kernel) (by decide +kernel)⟩
theorem n_H_18 : fNW "FigureLeave$House" 18 2 [.null, .int 0] 2 := ⟨"FigureLeave$Shift", cT_S, cy_S, rfl, gw_1 34 (by decide +kernel) (by decide +kernel), gw_1 35 (by decide +kernel) (by decide +kernel), gw_1 3 (by decide +kernel) (by decide +kernel), cp_S, by decide +kernel, fun _ => rfl⟩
theorem k_H_20 : fML "FigureLeave$House" 20 M_S_init := Or.inr ⟨"FigureLeave", nw_1 36 (by decide +kernel) rfl⟩
theorem l_H_21 : fFL "FigureLeave$House" 21 1 2 := ⟨"FigureLeave$House", cT_H, 6, rfl, by decide, rfl, Or.inl (gw_1 155 (by decide +kernel) (by decide +kernel))⟩
theorem q_H_21 : fPF "FigureLeave$House" 21 1 2 (.object "FigureLeave$Shift") := ⟨"FigureLeave$House", cT_H, 6, rfl, by decide, rfl, rfl, rfl, by decide +kernel, gw_1 155 (by decide +kernel) (by decide +kernel)⟩
theorem n_H_25 : fNW "FigureLeave$House" 25 3 [.null, .null, .int 0, .int 0, .int 0] 5 := ⟨"FigureLeave$Bills", cT_B, cy_B, rfl, gw_1 57 (by decide +kernel) (by decide +kernel), gw_1 58 (by decide +kernel) (by decide +kernel), gw_1 4 (by decide +kernel) (by decide +kernel), cp_B, by decide +kernel, fun _ => rfl⟩
theorem k_H_27 : fML "FigureLeave$House" 27 M_B_init := Or.inr ⟨"FigureLeave", nw_1 59 (by decide +kernel) rfl⟩
theorem l_H_28 : fFL "FigureLeave$House" 28 1 3 := ⟨"FigureLeave$House", cT_H, 6, rfl, by decide, rfl, Or.inl (gw_1 160 (by decide +kernel) (by decide +kernel))⟩
theorem q_H_28 : fPF "FigureLeave$House" 28 1 3 (.object "FigureLeave$Bills") := ⟨"FigureLeave$House", cT_H, 6, rfl, by decide, rfl, rfl, rfl, by decide +kernel, gw_1 160 (by decide +kernel) (by decide +kernel)⟩
theorem n_H_32 : fNW "FigureLeave$House" 32 4 [.null, .null, .int 0, .null, .null, .null, .null, .int 0] 8 := ⟨"FigureLeave$Clues", cT_C, cy_C, rfl, gw_1 94 (by decide +kernel) (by decide +kernel), gw_1 95 (by decide +kernel) (by decide +kernel), gw_1 5 (by decide +kernel) (by decide +kernel), cp_C, by decide +kernel, fun _ => rfl⟩
theorem k_H_34 : fML "FigureLeave$House" 34 M_C_init := Or.inr ⟨"FigureLeave", nw_1 96 (by decide +kernel) rfl⟩
theorem l_H_35 : fFL "FigureLeave$House" 35 1 4 := ⟨"FigureLeave$House", cT_H, 6, rfl, by decide, rfl, Or.inl (gw_1 164 (by decide +kernel) (by decide +kernel))⟩
theorem q_H_35 : fPF "FigureLeave$House" 35 1 4 (.object "FigureLeave$Clues") := ⟨"FigureLeave$House", cT_H, 6, rfl, by decide, rfl, rfl, rfl, by decide +kernel, gw_1 164 (by decide +kernel) (by decide +kernel)⟩
theorem n_H_39 : fNW "FigureLeave$House" 39 5 [.null, .int 0] 2 := ⟨"FigureLeave$Past", cT_P, cy_P, rfl, gw_1 130 (by decide +kernel) (by decide +kernel), gw_1 131 (by decide +kernel) (by decide +kernel), gw_1 6 (by decide +kernel) (by decide +kernel), cp_P, by decide +kernel, fun _ => rfl⟩
theorem k_H_41 : fML "FigureLeave$House" 41 M_P_init := Or.inr ⟨"FigureLeave", nw_1 132 (by decide +kernel) rfl⟩
theorem l_H_42 : fFL "FigureLeave$House" 42 1 5 := ⟨"FigureLeave$House", cT_H, 6, rfl, by decide, rfl, Or.inl (gw_1 167 (by decide +kernel) (by decide +kernel))⟩
theorem q_H_42 : fPF "FigureLeave$House" 42 1 5 (.object "FigureLeave$Past") := ⟨"FigureLeave$House", cT_H, 6, rfl, by decide, rfl, rfl, rfl, by decide +kernel, gw_1 167 (by decide +kernel) (by decide +kernel)⟩
theorem k_H_46 : fML "FigureLeave$House" 46 M_A_fill := Or.inl (gw_1 145 (by decide +kernel) (by decide +kernel))
theorem k_H_52 : fML "FigureLeave$House" 52 M_S_begin := Or.inr ⟨"FigureLeave", nw_2 82 (by decide +kernel) rfl⟩
theorem k_H_55 : fML "FigureLeave$House" 55 M_B_begin := Or.inr ⟨"FigureLeave", nw_2 87 (by decide +kernel) rfl⟩
theorem k_H_56 : fML "FigureLeave$House" 56 M_C_dropTraces := Or.inr ⟨"FigureLeave", nw_2 91 (by decide +kernel) rfl⟩
theorem k_H_60 : fML "FigureLeave$House" 60 M_C_dropNotes := Or.inr ⟨"FigureLeave", nw_2 95 (by decide +kernel) rfl⟩
theorem p_H_63 : fPL "FigureLeave$House" 63 5 1 .int := ⟨"FigureLeave$Past", cT_P, 2, rfl, by decide, rfl, rfl, by decide +kernel, Or.inr ⟨"FigureLeave", nw_1 138 (by decide +kernel) rfl⟩⟩
theorem k_H_67 : Cond.methodLink "FigureLeave$House" 67 arraycopyName ∈ gw := gw_3 62 (by decide +kernel) (by decide +kernel)
theorem k_H_73 : fML "FigureLeave$House" 73 M_S_become := Or.inr ⟨"FigureLeave", nw_3 65 (by decide +kernel) rfl⟩
theorem k_H_77 : fML "FigureLeave$House" 77 M_B_become := Or.inr ⟨"FigureLeave", nw_3 70 (by decide +kernel) rfl⟩
theorem k_H_80 : fML "FigureLeave$House" 80 M_C_become := Or.inr ⟨"FigureLeave", nw_3 75 (by decide +kernel) rfl⟩
theorem k_H_83 : fML "FigureLeave$House" 83 M_P_become := Or.inr ⟨"FigureLeave", nw_3 80 (by decide +kernel) rfl⟩
theorem k_H_86 : fML "FigureLeave$House" 86 M_F_isFigure := Or.inr ⟨"FigureLeave", nw_2 117 (by decide +kernel) rfl⟩
theorem k_H_90 : fML "FigureLeave$House" 90 M_B_add := Or.inr ⟨"FigureLeave", nw_2 133 (by decide +kernel) rfl⟩
theorem k_H_94 : fML "FigureLeave$House" 94 M_P_push := Or.inr ⟨"FigureLeave", nw_3 103 (by decide +kernel) rfl⟩
theorem k_H_98 : fML "FigureLeave$House" 98 M_P_pop := Or.inr ⟨"FigureLeave", nw_3 142 (by decide +kernel) rfl⟩
theorem k_H_101 : fML "FigureLeave$House" 101 M_H_rests := Or.inl (gw_3 40 (by decide +kernel) (by decide +kernel))
theorem l_H_104 : fFL "FigureLeave$House" 104 2 1 := ⟨"FigureLeave$Shift", cT_S, 2, rfl, by decide, rfl, Or.inr ⟨"FigureLeave", nw_1 48 (by decide +kernel) rfl⟩⟩
theorem p_H_104 : fPL "FigureLeave$House" 104 2 1 .int := ⟨"FigureLeave$Shift", cT_S, 2, rfl, by decide, rfl, rfl, by decide +kernel, Or.inr ⟨"FigureLeave", nw_1 48 (by decide +kernel) rfl⟩⟩
theorem k_H_107 : Cond.methodLink "FigureLeave$House" 107 Lib.Math.min.name ∈ gw := gw_3 53 (by decide +kernel) (by decide +kernel)
theorem l_H_113 : fFL "FigureLeave$House" 113 2 0 := ⟨"FigureLeave$Shift", cT_S, 2, rfl, by decide, rfl, Or.inr ⟨"FigureLeave", nw_1 42 (by decide +kernel) rfl⟩⟩
theorem k_H_116 : fML "FigureLeave$House" 116 M_I_rest := Or.inr ⟨"FigureLeave", nw_3 44 (by decide +kernel) rfl⟩
theorem k_H_121 : Cond.methodLink "FigureLeave$House" 121 Lib.Math.max.name ∈ gw := gw_3 50 (by decide +kernel) (by decide +kernel)
theorem l_H_124 : fFL "FigureLeave$House" 124 6 1 := ⟨"FigureLeave$Line", cT_L, 2, rfl, by decide, rfl, Or.inr ⟨"FigureLeave", nw_1 201 (by decide +kernel) rfl⟩⟩
theorem l_H_127 : fFL "FigureLeave$House" 127 6 0 := ⟨"FigureLeave$Line", cT_L, 2, rfl, by decide, rfl, Or.inr ⟨"FigureLeave", nw_1 197 (by decide +kernel) rfl⟩⟩
theorem k_H_130 : fML "FigureLeave$House" 130 M_I_wear := Or.inr ⟨"FigureLeave", nw_3 24 (by decide +kernel) rfl⟩
theorem k_H_134 : fML "FigureLeave$House" 134 M_H_wearBy := Or.inl (gw_3 20 (by decide +kernel) (by decide +kernel))
theorem k_H_138 : fML "FigureLeave$House" 138 M_H_bears := Or.inl (gw_3 27 (by decide +kernel) (by decide +kernel))
theorem o_H_142 : Cond.constantLong "FigureLeave$House" 142 31 ∈ gw := gw_4 186 (by decide +kernel) (by decide +kernel)
theorem l_H_144 : fFL "FigureLeave$House" 144 3 2 := ⟨"FigureLeave$Bills", cT_B, 5, rfl, by decide, rfl, Or.inr ⟨"FigureLeave", nw_1 75 (by decide +kernel) rfl⟩⟩
theorem l_H_145 : fFL "FigureLeave$House" 145 3 0 := ⟨"FigureLeave$Bills", cT_B, 5, rfl, by decide, rfl, Or.inr ⟨"FigureLeave", nw_1 66 (by decide +kernel) rfl⟩⟩
theorem l_H_148 : fFL "FigureLeave$House" 148 3 1 := ⟨"FigureLeave$Bills", cT_B, 5, rfl, by decide, rfl, Or.inr ⟨"FigureLeave", nw_1 70 (by decide +kernel) rfl⟩⟩
theorem k_H_151 : fML "FigureLeave$House" 151 M_C_mixInto := Or.inr ⟨"FigureLeave", nw_4 187 (by decide +kernel) rfl⟩
theorem k_I_9 : Cond.methodLink "FigureLeave$Kind" 9 Lib.Math.min.name ∈ gw := gw_3 47 (by decide +kernel) (by decide +kernel)
theorem k_L_3 : Cond.methodLink "FigureLeave$Line" 3 objectInit ∈ gw := gw_1 194 (by decide +kernel) (by decide +kernel)
theorem l_L_9 : fFL "FigureLeave$Line" 9 6 0 := ⟨"FigureLeave$Line", cT_L, 2, rfl, by decide, rfl, Or.inl (gw_1 195 (by decide +kernel) (by decide +kernel))⟩
theorem q_L_9 : fPF "FigureLeave$Line" 9 6 0 (.array .int) := ⟨"FigureLeave$Line", cT_L, 2, rfl, by decide, rfl, rfl, rfl, by decide +kernel, gw_1 195 (by decide +kernel) (by decide +kernel)⟩
theorem l_L_15 : fFL "FigureLeave$Line" 15 6 1 := ⟨"FigureLeave$Line", cT_L, 2, rfl, by decide, rfl, Or.inl (gw_1 199 (by decide +kernel) (by decide +kernel))⟩
theorem p_L_15 : fPL "FigureLeave$Line" 15 6 1 .int := ⟨"FigureLeave$Line", cT_L, 2, rfl, by decide, rfl, rfl, by decide +kernel, Or.inl (gw_1 199 (by decide +kernel) (by decide +kernel))⟩
theorem k_L_19 : fML "FigureLeave$Line" 19 M_L_addNumber := Or.inl (gw_3 9 (by decide +kernel) (by decide +kernel))
theorem k_L_23 : Cond.methodLink "FigureLeave$Line" 23 Lib.Math.abs.name ∈ gw := gw_3 13 (by decide +kernel) (by decide +kernel)
theorem k_P_3 : Cond.methodLink "FigureLeave$Past" 3 objectInit ∈ gw := gw_1 135 (by decide +kernel) (by decide +kernel)
theorem l_P_11 : fFL "FigureLeave$Past" 11 5 0 := ⟨"FigureLeave$Past", cT_P, 2, rfl, by decide, rfl, Or.inl (gw_1 136 (by decide +kernel) (by decide +kernel))⟩
theorem q_P_11 : fPF "FigureLeave$Past" 11 5 0 (.array .int) := ⟨"FigureLeave$Past", cT_P, 2, rfl, by decide, rfl, rfl, rfl, by decide +kernel, gw_1 136 (by decide +kernel) (by decide +kernel)⟩
theorem l_P_15 : fFL "FigureLeave$Past" 15 5 1 := ⟨"FigureLeave$Past", cT_P, 2, rfl, by decide, rfl, Or.inl (gw_1 137 (by decide +kernel) (by decide +kernel))⟩
theorem p_P_15 : fPL "FigureLeave$Past" 15 5 1 .int := ⟨"FigureLeave$Past", cT_P, 2, rfl, by decide, rfl, rfl, by decide +kernel, Or.inl (gw_1 137 (by decide +kernel) (by decide +kernel))⟩
theorem k_P_19 : Cond.methodLink "FigureLeave$Past" 19 arraycopyName ∈ gw := gw_3 84 (by decide +kernel) (by decide +kernel)
theorem l_P_25 : fFL "FigureLeave$Past" 25 2 0 := ⟨"FigureLeave$Shift", cT_S, 2, rfl, by decide, rfl, Or.inr ⟨"FigureLeave", nw_1 41 (by decide +kernel) rfl⟩⟩
theorem l_P_30 : fFL "FigureLeave$Past" 30 2 1 := ⟨"FigureLeave$Shift", cT_S, 2, rfl, by decide, rfl, Or.inr ⟨"FigureLeave", nw_1 46 (by decide +kernel) rfl⟩⟩
theorem p_P_30 : fPL "FigureLeave$Past" 30 2 1 .int := ⟨"FigureLeave$Shift", cT_S, 2, rfl, by decide, rfl, rfl, by decide +kernel, Or.inr ⟨"FigureLeave", nw_1 46 (by decide +kernel) rfl⟩⟩
theorem l_P_33 : fFL "FigureLeave$Past" 33 3 3 := ⟨"FigureLeave$Bills", cT_B, 5, rfl, by decide, rfl, Or.inr ⟨"FigureLeave", nw_1 77 (by decide +kernel) rfl⟩⟩
theorem p_P_33 : fPL "FigureLeave$Past" 33 3 3 .int := ⟨"FigureLeave$Bills", cT_B, 5, rfl, by decide, rfl, rfl, by decide +kernel, Or.inr ⟨"FigureLeave", nw_1 77 (by decide +kernel) rfl⟩⟩
theorem l_P_38 : fFL "FigureLeave$Past" 38 3 4 := ⟨"FigureLeave$Bills", cT_B, 5, rfl, by decide, rfl, Or.inr ⟨"FigureLeave", nw_1 81 (by decide +kernel) rfl⟩⟩
theorem p_P_38 : fPL "FigureLeave$Past" 38 3 4 .int := ⟨"FigureLeave$Bills", cT_B, 5, rfl, by decide, rfl, rfl, by decide +kernel, Or.inr ⟨"FigureLeave", nw_1 81 (by decide +kernel) rfl⟩⟩
theorem k_S_3 : Cond.methodLink "FigureLeave$Shift" 3 objectInit ∈ gw := gw_1 39 (by decide +kernel) (by decide +kernel)
theorem l_S_9 : fFL "FigureLeave$Shift" 9 2 0 := ⟨"FigureLeave$Shift", cT_S, 2, rfl, by decide, rfl, Or.inl (gw_1 40 (by decide +kernel) (by decide +kernel))⟩
theorem q_S_9 : fPF "FigureLeave$Shift" 9 2 0 (.array .int) := ⟨"FigureLeave$Shift", cT_S, 2, rfl, by decide, rfl, rfl, rfl, by decide +kernel, gw_1 40 (by decide +kernel) (by decide +kernel)⟩
theorem l_S_15 : fFL "FigureLeave$Shift" 15 2 1 := ⟨"FigureLeave$Shift", cT_S, 2, rfl, by decide, rfl, Or.inl (gw_1 45 (by decide +kernel) (by decide +kernel))⟩
theorem p_S_15 : fPL "FigureLeave$Shift" 15 2 1 .int := ⟨"FigureLeave$Shift", cT_S, 2, rfl, by decide, rfl, rfl, by decide +kernel, Or.inl (gw_1 45 (by decide +kernel) (by decide +kernel))⟩
theorem k_S_19 : fML "FigureLeave$Shift" 19 M_A_fill := Or.inl (gw_2 86 (by decide +kernel) (by decide +kernel))
theorem k_S_25 : Cond.methodLink "FigureLeave$Shift" 25 arraycopyName ∈ gw := gw_3 69 (by decide +kernel) (by decide +kernel)
theorem k_U_3 : Cond.methodLink "FigureLeave$Sleuth" 3 objectInit ∈ gw := gw_1 235 (by decide +kernel) (by decide +kernel)
theorem n_U_9 : fNW "FigureLeave$Sleuth" 9 6 [.null, .int 0] 2 := ⟨"FigureLeave$Line", cT_L, cy_L, rfl, gw_1 236 (by decide +kernel) (by decide +kernel), gw_1 190 (by decide +kernel) (by decide +kernel), gw_1 9 (by decide +kernel) (by decide +kernel), cp_L, by decide +kernel, fun _ => rfl⟩
theorem k_U_11 : fML "FigureLeave$Sleuth" 11 M_L_init := Or.inr ⟨"FigureLeave", nw_1 237 (by decide +kernel) rfl⟩
theorem l_U_12 : fFL "FigureLeave$Sleuth" 12 8 0 := ⟨"FigureLeave$Sleuth", cT_U, 1, rfl, by decide, rfl, Or.inl (gw_1 238 (by decide +kernel) (by decide +kernel))⟩
theorem q_U_12 : fPF "FigureLeave$Sleuth" 12 8 0 (.object "FigureLeave$Line") := ⟨"FigureLeave$Sleuth", cT_U, 1, rfl, by decide, rfl, rfl, rfl, by decide +kernel, gw_1 238 (by decide +kernel) (by decide +kernel)⟩
theorem k_U_18 : fML "FigureLeave$Sleuth" 18 M_U_fitsTraces := Or.inl (gw_4 46 (by decide +kernel) (by decide +kernel))
theorem k_U_22 : fML "FigureLeave$Sleuth" 22 M_L_tell := Or.inr ⟨"FigureLeave", nw_4 50 (by decide +kernel) rfl⟩
theorem l_U_26 : fFL "FigureLeave$Sleuth" 26 1 4 := ⟨"FigureLeave$House", cT_H, 6, rfl, by decide, rfl, Or.inr ⟨"FigureLeave", nw_1 165 (by decide +kernel) rfl⟩⟩
theorem l_U_32 : fFL "FigureLeave$Sleuth" 32 4 2 := ⟨"FigureLeave$Clues", cT_C, 8, rfl, by decide, rfl, Or.inr ⟨"FigureLeave", nw_1 105 (by decide +kernel) rfl⟩⟩
theorem l_U_38 : fFL "FigureLeave$Sleuth" 38 4 0 := ⟨"FigureLeave$Clues", cT_C, 8, rfl, by decide, rfl, Or.inr ⟨"FigureLeave", nw_1 101 (by decide +kernel) rfl⟩⟩
theorem k_U_42 : fML "FigureLeave$Sleuth" 42 M_U_moreWorn := Or.inl (gw_4 51 (by decide +kernel) (by decide +kernel))
theorem l_U_46 : fFL "FigureLeave$Sleuth" 46 4 1 := ⟨"FigureLeave$Clues", cT_C, 8, rfl, by decide, rfl, Or.inr ⟨"FigureLeave", nw_1 103 (by decide +kernel) rfl⟩⟩
theorem l_U_49 : fFL "FigureLeave$Sleuth" 49 6 1 := ⟨"FigureLeave$Line", cT_L, 2, rfl, by decide, rfl, Or.inr ⟨"FigureLeave", nw_1 200 (by decide +kernel) rfl⟩⟩
theorem l_U_52 : fFL "FigureLeave$Sleuth" 52 6 0 := ⟨"FigureLeave$Line", cT_L, 2, rfl, by decide, rfl, Or.inr ⟨"FigureLeave", nw_1 196 (by decide +kernel) rfl⟩⟩
theorem l_U_55 : fFL "FigureLeave$Sleuth" 55 1 0 := ⟨"FigureLeave$House", cT_H, 6, rfl, by decide, rfl, Or.inr ⟨"FigureLeave", nw_1 150 (by decide +kernel) rfl⟩⟩
theorem l_U_58 : fFL "FigureLeave$Sleuth" 58 1 2 := ⟨"FigureLeave$House", cT_H, 6, rfl, by decide, rfl, Or.inr ⟨"FigureLeave", nw_1 157 (by decide +kernel) rfl⟩⟩
theorem l_U_62 : fFL "FigureLeave$Sleuth" 62 2 1 := ⟨"FigureLeave$Shift", cT_S, 2, rfl, by decide, rfl, Or.inr ⟨"FigureLeave", nw_1 47 (by decide +kernel) rfl⟩⟩
theorem k_U_67 : fML "FigureLeave$Sleuth" 67 M_I_wear := Or.inr ⟨"FigureLeave", nw_4 55 (by decide +kernel) rfl⟩
theorem k_U_73 : fML "FigureLeave$Sleuth" 73 M_U_mostAlike := Or.inl (gw_4 95 (by decide +kernel) (by decide +kernel))
theorem k_U_76 : Cond.methodLink "FigureLeave$Sleuth" 76 Lib.Math.max.name ∈ gw := gw_4 99 (by decide +kernel) (by decide +kernel)
theorem k_T_3 : Cond.methodLink "FigureLeave$Text" 3 objectInit ∈ gw := gw_2 7 (by decide +kernel) (by decide +kernel)
theorem l_T_9 : fFL "FigureLeave$Text" 9 9 0 := ⟨"FigureLeave$Text", cT_T, 7, rfl, by decide, rfl, Or.inl (gw_2 10 (by decide +kernel) (by decide +kernel))⟩
theorem q_T_9 : fPF "FigureLeave$Text" 9 9 0 (.array .int) := ⟨"FigureLeave$Text", cT_T, 7, rfl, by decide, rfl, rfl, rfl, by decide +kernel, gw_2 10 (by decide +kernel) (by decide +kernel)⟩
theorem n_T_15 : fNW "FigureLeave$Text" 15 6 [.null, .int 0] 2 := ⟨"FigureLeave$Line", cT_L, cy_L, rfl, gw_2 8 (by decide +kernel) (by decide +kernel), gw_1 190 (by decide +kernel) (by decide +kernel), gw_1 9 (by decide +kernel) (by decide +kernel), cp_L, by decide +kernel, fun _ => rfl⟩
theorem k_T_17 : fML "FigureLeave$Text" 17 M_L_init := Or.inr ⟨"FigureLeave", nw_2 9 (by decide +kernel) rfl⟩
theorem l_T_18 : fFL "FigureLeave$Text" 18 9 1 := ⟨"FigureLeave$Text", cT_T, 7, rfl, by decide, rfl, Or.inl (gw_2 12 (by decide +kernel) (by decide +kernel))⟩
theorem q_T_18 : fPF "FigureLeave$Text" 18 9 1 (.object "FigureLeave$Line") := ⟨"FigureLeave$Text", cT_T, 7, rfl, by decide, rfl, rfl, rfl, by decide +kernel, gw_2 12 (by decide +kernel) (by decide +kernel)⟩
theorem l_T_22 : fFL "FigureLeave$Text" 22 9 2 := ⟨"FigureLeave$Text", cT_T, 7, rfl, by decide, rfl, Or.inl (gw_2 13 (by decide +kernel) (by decide +kernel))⟩
theorem p_T_22 : fPL "FigureLeave$Text" 22 9 2 .int := ⟨"FigureLeave$Text", cT_T, 7, rfl, by decide, rfl, rfl, by decide +kernel, Or.inl (gw_2 13 (by decide +kernel) (by decide +kernel))⟩
theorem l_T_26 : fFL "FigureLeave$Text" 26 9 3 := ⟨"FigureLeave$Text", cT_T, 7, rfl, by decide, rfl, Or.inl (gw_2 15 (by decide +kernel) (by decide +kernel))⟩
theorem p_T_26 : fPL "FigureLeave$Text" 26 9 3 .int := ⟨"FigureLeave$Text", cT_T, 7, rfl, by decide, rfl, rfl, by decide +kernel, Or.inl (gw_2 15 (by decide +kernel) (by decide +kernel))⟩
theorem l_T_29 : fFL "FigureLeave$Text" 29 9 4 := ⟨"FigureLeave$Text", cT_T, 7, rfl, by decide, rfl, Or.inl (gw_2 16 (by decide +kernel) (by decide +kernel))⟩
theorem p_T_29 : fPL "FigureLeave$Text" 29 9 4 .int := ⟨"FigureLeave$Text", cT_T, 7, rfl, by decide, rfl, rfl, by decide +kernel, Or.inl (gw_2 16 (by decide +kernel) (by decide +kernel))⟩
theorem l_T_32 : fFL "FigureLeave$Text" 32 9 5 := ⟨"FigureLeave$Text", cT_T, 7, rfl, by decide, rfl, Or.inl (gw_2 18 (by decide +kernel) (by decide +kernel))⟩
theorem p_T_32 : fPL "FigureLeave$Text" 32 9 5 .int := ⟨"FigureLeave$Text", cT_T, 7, rfl, by decide, rfl, rfl, by decide +kernel, Or.inl (gw_2 18 (by decide +kernel) (by decide +kernel))⟩
theorem l_T_35 : fFL "FigureLeave$Text" 35 9 6 := ⟨"FigureLeave$Text", cT_T, 7, rfl, by decide, rfl, Or.inl (gw_2 19 (by decide +kernel) (by decide +kernel))⟩
theorem p_T_35 : fPL "FigureLeave$Text" 35 9 6 .int := ⟨"FigureLeave$Text", cT_T, 7, rfl, by decide, rfl, rfl, by decide +kernel, Or.inl (gw_2 19 (by decide +kernel) (by decide +kernel))⟩
theorem k_T_38 : fML "FigureLeave$Text" 38 M_H_begin := Or.inr ⟨"FigureLeave", nw_2 153 (by decide +kernel) rfl⟩
theorem k_T_43 : fML "FigureLeave$Text" 43 M_T_nextToken := Or.inl (gw_2 154 (by decide +kernel) (by decide +kernel))
theorem k_T_46 : fML "FigureLeave$Text" 46 M_T_readItem := Or.inl (gw_2 166 (by decide +kernel) (by decide +kernel))
theorem k_T_52 : fML "FigureLeave$Text" 52 M_T_isWord := Or.inl (gw_2 171 (by decide +kernel) (by decide +kernel))
theorem k_T_58 : fML "FigureLeave$Text" 58 M_T_readFigure := Or.inl (gw_2 224 (by decide +kernel) (by decide +kernel))
theorem k_T_64 : fML "FigureLeave$Text" 64 M_T_readBill := Or.inl (gw_2 235 (by decide +kernel) (by decide +kernel))
theorem k_T_69 : fML "FigureLeave$Text" 69 M_T_readWrite := Or.inl (gw_3 1 (by decide +kernel) (by decide +kernel))
theorem k_T_74 : fML "FigureLeave$Text" 74 M_T_readNight := Or.inl (gw_3 32 (by decide +kernel) (by decide +kernel))
theorem k_T_77 : fML "FigureLeave$Text" 77 M_T_nextIsStop := Or.inl (gw_3 54 (by decide +kernel) (by decide +kernel))
theorem k_T_81 : fML "FigureLeave$Text" 81 M_T_nextIsNumber := Or.inl (gw_2 228 (by decide +kernel) (by decide +kernel))
theorem k_T_87 : fML "FigureLeave$Text" 87 M_H_tellFigure := Or.inr ⟨"FigureLeave", nw_2 233 (by decide +kernel) rfl⟩
theorem l_T_91 : fFL "FigureLeave$Text" 91 1 3 := ⟨"FigureLeave$House", cT_H, 6, rfl, by decide, rfl, Or.inr ⟨"FigureLeave", nw_1 162 (by decide +kernel) rfl⟩⟩
theorem l_T_95 : fFL "FigureLeave$Text" 95 3 2 := ⟨"FigureLeave$Bills", cT_B, 5, rfl, by decide, rfl, Or.inr ⟨"FigureLeave", nw_1 73 (by decide +kernel) rfl⟩⟩
theorem k_T_98 : fML "FigureLeave$Text" 98 M_H_tellBill := Or.inr ⟨"FigureLeave", nw_2 239 (by decide +kernel) rfl⟩
theorem k_T_102 : fML "FigureLeave$Text" 102 M_L_tell := Or.inr ⟨"FigureLeave", nw_3 5 (by decide +kernel) rfl⟩
theorem l_T_105 : fFL "FigureLeave$Text" 105 1 2 := ⟨"FigureLeave$House", cT_H, 6, rfl, by decide, rfl, Or.inr ⟨"FigureLeave", nw_1 158 (by decide +kernel) rfl⟩⟩
theorem k_T_109 : fML "FigureLeave$Text" 109 M_H_puts := Or.inr ⟨"FigureLeave", nw_3 16 (by decide +kernel) rfl⟩
theorem k_T_113 : fML "FigureLeave$Text" 113 M_H_sleep := Or.inr ⟨"FigureLeave", nw_3 36 (by decide +kernel) rfl⟩
theorem k_T_117 : fML "FigureLeave$Text" 117 M_F_within := Or.inr ⟨"FigureLeave", nw_2 232 (by decide +kernel) rfl⟩
theorem k_T_121 : fML "FigureLeave$Text" 121 M_T_sortAt := Or.inl (gw_2 158 (by decide +kernel) (by decide +kernel))
theorem k_T_125 : fML "FigureLeave$Text" 125 M_T_weighNumber := Or.inl (gw_2 162 (by decide +kernel) (by decide +kernel))
theorem k_T_128 : fML "FigureLeave$Text" 128 M_J_length := Or.inl (gw_2 175 (by decide +kernel) (by decide +kernel))
theorem k_T_134 : fML "FigureLeave$Text" 134 M_J_charAt := Or.inl (gw_2 185 (by decide +kernel) (by decide +kernel))
theorem n_W_7 : fNW "FigureLeaveLaw" 7 0 [.null, .null, .null, .null, .null, .null, .null, .int 0, .int 0, .int 0, .int 0, .int 0] 12 := ⟨"FigureLeave", cT_F, cy_F, rfl, gw_1 20 (by decide +kernel) (by decide +kernel), gw_1 21 (by decide +kernel) (by decide +kernel), gw_1 1 (by decide +kernel) (by decide +kernel), cp_F, by decide +kernel, fun _ => rfl⟩
theorem k_W_9 : fML "FigureLeaveLaw" 9 M_F_init := Or.inl (gw_1 22 (by decide +kernel) (by decide +kernel))
theorem n_W_10 : fNW "FigureLeaveLaw" 10 10 [.int 0, .null, .null, .null, .null, .null, .int 0, .int 0, .int 0, .int 0, .int 0, .null, .long 0, .long 0, .null, .null, .int 0] 17 := ⟨"FigureLeaveModel", cT_M, cy_M, rfl, gw_4 192 (by decide +kernel) (by decide +kernel), gw_4 193 (by decide +kernel) (by decide +kernel), gw_1 12 (by decide +kernel) (by decide +kernel), cp_M, by decide +kernel, fun _ => rfl⟩
theorem k_W_12 : fML "FigureLeaveLaw" 12 M_M_init := Or.inl (gw_4 194 (by decide +kernel) (by decide +kernel))
theorem k_W_13 : fML "FigureLeaveLaw" 13 M_F_house := Or.inl (gw_2 74 (by decide +kernel) (by decide +kernel))
theorem k_W_17 : fML "FigureLeaveLaw" 17 M_M_house := Or.inl (gw_5 14 (by decide +kernel) (by decide +kernel))
theorem k_W_18 : fML "FigureLeaveLaw" 18 M_F_figure := Or.inl (gw_2 99 (by decide +kernel) (by decide +kernel))
theorem k_W_22 : fML "FigureLeaveLaw" 22 M_M_figure := Or.inl (gw_5 18 (by decide +kernel) (by decide +kernel))
theorem k_W_23 : fML "FigureLeaveLaw" 23 M_F_bill := Or.inl (gw_2 118 (by decide +kernel) (by decide +kernel))
theorem k_W_27 : fML "FigureLeaveLaw" 27 M_M_bill := Or.inl (gw_5 29 (by decide +kernel) (by decide +kernel))
theorem k_W_28 : fML "FigureLeaveLaw" 28 M_F_type := Or.inl (gw_2 137 (by decide +kernel) (by decide +kernel))
theorem k_W_32 : fML "FigureLeaveLaw" 32 M_M_type := Or.inl (gw_5 36 (by decide +kernel) (by decide +kernel))
theorem k_W_33 : fML "FigureLeaveLaw" 33 M_F_clear := Or.inl (gw_2 141 (by decide +kernel) (by decide +kernel))
theorem k_W_36 : fML "FigureLeaveLaw" 36 M_M_clear := Or.inl (gw_5 40 (by decide +kernel) (by decide +kernel))
theorem k_W_37 : fML "FigureLeaveLaw" 37 M_F_read := Or.inl (gw_2 145 (by decide +kernel) (by decide +kernel))
theorem k_W_40 : fML "FigureLeaveLaw" 40 M_M_read := Or.inl (gw_5 44 (by decide +kernel) (by decide +kernel))
theorem k_W_41 : fML "FigureLeaveLaw" 41 M_F_write := Or.inl (gw_3 86 (by decide +kernel) (by decide +kernel))
theorem k_W_44 : fML "FigureLeaveLaw" 44 M_M_write := Or.inl (gw_5 115 (by decide +kernel) (by decide +kernel))
theorem k_W_45 : fML "FigureLeaveLaw" 45 M_F_pay := Or.inl (gw_3 112 (by decide +kernel) (by decide +kernel))
theorem k_W_48 : fML "FigureLeaveLaw" 48 M_M_pay := Or.inl (gw_5 130 (by decide +kernel) (by decide +kernel))
theorem k_W_49 : fML "FigureLeaveLaw" 49 M_F_night := Or.inl (gw_3 129 (by decide +kernel) (by decide +kernel))
theorem k_W_52 : fML "FigureLeaveLaw" 52 M_M_night := Or.inl (gw_5 142 (by decide +kernel) (by decide +kernel))
theorem k_W_53 : fML "FigureLeaveLaw" 53 M_F_undo := Or.inl (gw_3 134 (by decide +kernel) (by decide +kernel))
theorem k_W_56 : fML "FigureLeaveLaw" 56 M_M_undo := Or.inl (gw_5 146 (by decide +kernel) (by decide +kernel))
theorem k_W_57 : fML "FigureLeaveLaw" 57 M_F_of := Or.inl (gw_3 146 (by decide +kernel) (by decide +kernel))
theorem k_W_60 : fML "FigureLeaveLaw" 60 M_M_of := Or.inl (gw_5 150 (by decide +kernel) (by decide +kernel))
theorem k_W_61 : fML "FigureLeaveLaw" 61 M_F_about := Or.inl (gw_3 155 (by decide +kernel) (by decide +kernel))
theorem k_W_64 : fML "FigureLeaveLaw" 64 M_M_about := Or.inl (gw_5 158 (by decide +kernel) (by decide +kernel))
theorem k_W_65 : fML "FigureLeaveLaw" 65 M_F_wears := Or.inl (gw_3 159 (by decide +kernel) (by decide +kernel))
theorem k_W_68 : fML "FigureLeaveLaw" 68 M_M_wears := Or.inl (gw_5 162 (by decide +kernel) (by decide +kernel))
theorem k_W_69 : fML "FigureLeaveLaw" 69 M_F_cost := Or.inl (gw_3 167 (by decide +kernel) (by decide +kernel))
theorem k_W_72 : fML "FigureLeaveLaw" 72 M_M_cost := Or.inl (gw_5 166 (by decide +kernel) (by decide +kernel))
theorem k_W_73 : fML "FigureLeaveLaw" 73 M_F_can := Or.inl (gw_3 171 (by decide +kernel) (by decide +kernel))
theorem k_W_76 : fML "FigureLeaveLaw" 76 M_M_can := Or.inl (gw_5 170 (by decide +kernel) (by decide +kernel))
theorem k_W_77 : fML "FigureLeaveLaw" 77 M_F_best := Or.inl (gw_3 175 (by decide +kernel) (by decide +kernel))
theorem k_W_80 : fML "FigureLeaveLaw" 80 M_M_best := Or.inl (gw_5 174 (by decide +kernel) (by decide +kernel))
theorem k_W_81 : fML "FigureLeaveLaw" 81 M_F_first := Or.inl (gw_3 186 (by decide +kernel) (by decide +kernel))
theorem k_W_84 : fML "FigureLeaveLaw" 84 M_M_first := Or.inl (gw_5 182 (by decide +kernel) (by decide +kernel))
theorem k_W_85 : fML "FigureLeaveLaw" 85 M_F_counts := Or.inl (gw_3 198 (by decide +kernel) (by decide +kernel))
theorem k_W_88 : fML "FigureLeaveLaw" 88 M_M_counts := Or.inl (gw_5 186 (by decide +kernel) (by decide +kernel))
theorem k_W_89 : fML "FigureLeaveLaw" 89 M_F_when := Or.inl (gw_3 208 (by decide +kernel) (by decide +kernel))
theorem k_W_92 : fML "FigureLeaveLaw" 92 M_M_when := Or.inl (gw_5 202 (by decide +kernel) (by decide +kernel))
theorem k_W_93 : fML "FigureLeaveLaw" 93 M_F_most := Or.inl (gw_3 217 (by decide +kernel) (by decide +kernel))
theorem k_W_96 : fML "FigureLeaveLaw" 96 M_M_most := Or.inl (gw_5 210 (by decide +kernel) (by decide +kernel))
theorem k_W_97 : fML "FigureLeaveLaw" 97 M_F_plan := Or.inl (gw_3 234 (by decide +kernel) (by decide +kernel))
theorem k_W_100 : fML "FigureLeaveLaw" 100 M_M_plan := Or.inl (gw_5 230 (by decide +kernel) (by decide +kernel))
theorem k_W_101 : fML "FigureLeaveLaw" 101 M_F_wanted := Or.inl (gw_4 16 (by decide +kernel) (by decide +kernel))
theorem k_W_104 : fML "FigureLeaveLaw" 104 M_M_wanted := Or.inl (gw_6 5 (by decide +kernel) (by decide +kernel))
theorem k_W_105 : fML "FigureLeaveLaw" 105 M_F_trace := Or.inl (gw_4 30 (by decide +kernel) (by decide +kernel))
theorem k_W_108 : fML "FigureLeaveLaw" 108 M_M_trace := Or.inl (gw_6 13 (by decide +kernel) (by decide +kernel))
theorem k_W_109 : fML "FigureLeaveLaw" 109 M_F_which := Or.inl (gw_4 38 (by decide +kernel) (by decide +kernel))
theorem k_W_112 : fML "FigureLeaveLaw" 112 M_M_which := Or.inl (gw_6 17 (by decide +kernel) (by decide +kernel))
theorem k_W_113 : fML "FigureLeaveLaw" 113 M_F_note := Or.inl (gw_4 60 (by decide +kernel) (by decide +kernel))
theorem k_W_117 : fML "FigureLeaveLaw" 117 M_M_note := Or.inl (gw_6 29 (by decide +kernel) (by decide +kernel))
theorem k_W_118 : fML "FigureLeaveLaw" 118 M_F_forget := Or.inl (gw_4 68 (by decide +kernel) (by decide +kernel))
theorem k_W_121 : fML "FigureLeaveLaw" 121 M_M_forget := Or.inl (gw_6 33 (by decide +kernel) (by decide +kernel))
theorem k_W_122 : fML "FigureLeaveLaw" 122 M_F_is := Or.inl (gw_4 74 (by decide +kernel) (by decide +kernel))
theorem k_W_125 : fML "FigureLeaveLaw" 125 M_M_is := Or.inl (gw_6 37 (by decide +kernel) (by decide +kernel))
theorem k_W_126 : fML "FigureLeaveLaw" 126 M_F_look := Or.inl (gw_4 87 (by decide +kernel) (by decide +kernel))
theorem k_W_129 : fML "FigureLeaveLaw" 129 M_M_look := Or.inl (gw_6 45 (by decide +kernel) (by decide +kernel))
theorem k_W_130 : fML "FigureLeaveLaw" 130 M_F_two := Or.inl (gw_4 100 (by decide +kernel) (by decide +kernel))
theorem k_W_133 : fML "FigureLeaveLaw" 133 M_M_two := Or.inl (gw_6 49 (by decide +kernel) (by decide +kernel))
theorem k_W_134 : fML "FigureLeaveLaw" 134 M_F_odds := Or.inl (gw_4 112 (by decide +kernel) (by decide +kernel))
theorem k_W_137 : fML "FigureLeaveLaw" 137 M_M_odds := Or.inl (gw_6 57 (by decide +kernel) (by decide +kernel))
theorem k_W_138 : fML "FigureLeaveLaw" 138 M_F_years := Or.inl (gw_4 134 (by decide +kernel) (by decide +kernel))
theorem k_W_141 : fML "FigureLeaveLaw" 141 M_M_years := Or.inl (gw_6 69 (by decide +kernel) (by decide +kernel))
theorem k_W_142 : fML "FigureLeaveLaw" 142 M_F_part := Or.inl (gw_4 148 (by decide +kernel) (by decide +kernel))
theorem k_W_146 : fML "FigureLeaveLaw" 146 M_M_part := Or.inl (gw_6 83 (by decide +kernel) (by decide +kernel))
theorem k_W_147 : fML "FigureLeaveLaw" 147 M_F_image := Or.inl (gw_4 152 (by decide +kernel) (by decide +kernel))
theorem k_W_150 : fML "FigureLeaveLaw" 150 M_M_image := Or.inl (gw_6 87 (by decide +kernel) (by decide +kernel))
theorem k_W_151 : fML "FigureLeaveLaw" 151 M_F_from := Or.inl (gw_4 156 (by decide +kernel) (by decide +kernel))
theorem k_W_154 : fML "FigureLeaveLaw" 154 M_M_from := Or.inl (gw_6 91 (by decide +kernel) (by decide +kernel))
theorem k_W_155 : fML "FigureLeaveLaw" 155 M_F_status := Or.inl (gw_4 160 (by decide +kernel) (by decide +kernel))
theorem k_W_158 : fML "FigureLeaveLaw" 158 M_M_status := Or.inl (gw_6 95 (by decide +kernel) (by decide +kernel))
theorem k_W_159 : fML "FigureLeaveLaw" 159 M_F_count := Or.inl (gw_4 164 (by decide +kernel) (by decide +kernel))
theorem k_W_162 : fML "FigureLeaveLaw" 162 M_M_count := Or.inl (gw_6 99 (by decide +kernel) (by decide +kernel))
theorem k_W_163 : fML "FigureLeaveLaw" 163 M_F_digest := Or.inl (gw_4 176 (by decide +kernel) (by decide +kernel))
theorem k_W_167 : fML "FigureLeaveLaw" 167 M_M_digest := Or.inl (gw_6 107 (by decide +kernel) (by decide +kernel))
theorem k_M_1 : Cond.methodLink "FigureLeaveModel" 1 objectInit ∈ gw := gw_4 197 (by decide +kernel) (by decide +kernel)
theorem l_M_7 : fFL "FigureLeaveModel" 7 10 1 := ⟨"FigureLeaveModel", cT_M, 17, rfl, by decide, rfl, Or.inl (gw_4 202 (by decide +kernel) (by decide +kernel))⟩
theorem q_M_7 : fPF "FigureLeaveModel" 7 10 1 (.array .int) := ⟨"FigureLeaveModel", cT_M, 17, rfl, by decide, rfl, rfl, rfl, by decide +kernel, gw_4 202 (by decide +kernel) (by decide +kernel)⟩
theorem l_M_13 : fFL "FigureLeaveModel" 13 10 2 := ⟨"FigureLeaveModel", cT_M, 17, rfl, by decide, rfl, Or.inl (gw_4 203 (by decide +kernel) (by decide +kernel))⟩
theorem q_M_13 : fPF "FigureLeaveModel" 13 10 2 (.array .int) := ⟨"FigureLeaveModel", cT_M, 17, rfl, by decide, rfl, rfl, rfl, by decide +kernel, gw_4 203 (by decide +kernel) (by decide +kernel)⟩
theorem l_M_16 : fFL "FigureLeaveModel" 16 10 3 := ⟨"FigureLeaveModel", cT_M, 17, rfl, by decide, rfl, Or.inl (gw_4 204 (by decide +kernel) (by decide +kernel))⟩
theorem q_M_16 : fPF "FigureLeaveModel" 16 10 3 (.array .int) := ⟨"FigureLeaveModel", cT_M, 17, rfl, by decide, rfl, rfl, rfl, by decide +kernel, gw_4 204 (by decide +kernel) (by decide +kernel)⟩
theorem l_M_19 : fFL "FigureLeaveModel" 19 10 4 := ⟨"FigureLeaveModel", cT_M, 17, rfl, by decide, rfl, Or.inl (gw_4 205 (by decide +kernel) (by decide +kernel))⟩
theorem q_M_19 : fPF "FigureLeaveModel" 19 10 4 (.array .boolean) := ⟨"FigureLeaveModel", cT_M, 17, rfl, by decide, rfl, rfl, rfl, by decide +kernel, gw_4 205 (by decide +kernel) (by decide +kernel)⟩
theorem l_M_23 : fFL "FigureLeaveModel" 23 10 5 := ⟨"FigureLeaveModel", cT_M, 17, rfl, by decide, rfl, Or.inl (gw_4 206 (by decide +kernel) (by decide +kernel))⟩
theorem q_M_23 : fPF "FigureLeaveModel" 23 10 5 (.array .int) := ⟨"FigureLeaveModel", cT_M, 17, rfl, by decide, rfl, rfl, rfl, by decide +kernel, gw_4 206 (by decide +kernel) (by decide +kernel)⟩
theorem l_M_26 : fFL "FigureLeaveModel" 26 10 11 := ⟨"FigureLeaveModel", cT_M, 17, rfl, by decide, rfl, Or.inl (gw_4 212 (by decide +kernel) (by decide +kernel))⟩
theorem q_M_26 : fPF "FigureLeaveModel" 26 10 11 (.array .int) := ⟨"FigureLeaveModel", cT_M, 17, rfl, by decide, rfl, rfl, rfl, by decide +kernel, gw_4 212 (by decide +kernel) (by decide +kernel)⟩
theorem l_M_29 : fFL "FigureLeaveModel" 29 10 13 := ⟨"FigureLeaveModel", cT_M, 17, rfl, by decide, rfl, Or.inl (gw_4 214 (by decide +kernel) (by decide +kernel))⟩
theorem p_M_29 : fPL "FigureLeaveModel" 29 10 13 .long := ⟨"FigureLeaveModel", cT_M, 17, rfl, by decide, rfl, rfl, by decide +kernel, Or.inl (gw_4 214 (by decide +kernel) (by decide +kernel))⟩
theorem l_M_33 : fFL "FigureLeaveModel" 33 10 14 := ⟨"FigureLeaveModel", cT_M, 17, rfl, by decide, rfl, Or.inl (gw_4 215 (by decide +kernel) (by decide +kernel))⟩
theorem q_M_33 : fPF "FigureLeaveModel" 33 10 14 (.array .int) := ⟨"FigureLeaveModel", cT_M, 17, rfl, by decide, rfl, rfl, rfl, by decide +kernel, gw_4 215 (by decide +kernel) (by decide +kernel)⟩
theorem l_M_36 : fFL "FigureLeaveModel" 36 10 15 := ⟨"FigureLeaveModel", cT_M, 17, rfl, by decide, rfl, Or.inl (gw_4 216 (by decide +kernel) (by decide +kernel))⟩
theorem q_M_36 : fPF "FigureLeaveModel" 36 10 15 (.array .int) := ⟨"FigureLeaveModel", cT_M, 17, rfl, by decide, rfl, rfl, rfl, by decide +kernel, gw_4 216 (by decide +kernel) (by decide +kernel)⟩
theorem k_M_39 : fML "FigureLeaveModel" 39 M_M_begins := Or.inl (gw_4 198 (by decide +kernel) (by decide +kernel))
theorem p_M_43 : fPL "FigureLeaveModel" 43 10 0 .int := ⟨"FigureLeaveModel", cT_M, 17, rfl, by decide, rfl, rfl, by decide +kernel, Or.inl (gw_4 201 (by decide +kernel) (by decide +kernel))⟩
theorem k_M_47 : fML "FigureLeaveModel" 47 M_M_restOf := Or.inl (gw_5 112 (by decide +kernel) (by decide +kernel))
theorem l_M_51 : fFL "FigureLeaveModel" 51 10 16 := ⟨"FigureLeaveModel", cT_M, 17, rfl, by decide, rfl, Or.inl (gw_4 217 (by decide +kernel) (by decide +kernel))⟩
theorem p_M_51 : fPL "FigureLeaveModel" 51 10 16 .int := ⟨"FigureLeaveModel", cT_M, 17, rfl, by decide, rfl, rfl, by decide +kernel, Or.inl (gw_4 217 (by decide +kernel) (by decide +kernel))⟩
theorem k_M_54 : fML "FigureLeaveModel" 54 M_M_adds := Or.inl (gw_5 94 (by decide +kernel) (by decide +kernel))
theorem k_M_58 : fML "FigureLeaveModel" 58 M_M_wearOf := Or.inl (gw_5 102 (by decide +kernel) (by decide +kernel))
theorem k_M_62 : fML "FigureLeaveModel" 62 M_M_line := Or.inl (gw_5 90 (by decide +kernel) (by decide +kernel))
theorem k_M_66 : fML "FigureLeaveModel" 66 M_M_wearsBy := Or.inl (gw_5 98 (by decide +kernel) (by decide +kernel))
theorem k_M_70 : fML "FigureLeaveModel" 70 M_M_in := Or.inl (gw_5 22 (by decide +kernel) (by decide +kernel))
theorem k_M_74 : fML "FigureLeaveModel" 74 M_M_refuses := Or.inl (gw_5 25 (by decide +kernel) (by decide +kernel))
theorem k_M_78 : fML "FigureLeaveModel" 78 M_M_bills := Or.inl (gw_5 33 (by decide +kernel) (by decide +kernel))
theorem l_M_82 : fFL "FigureLeaveModel" 82 10 6 := ⟨"FigureLeaveModel", cT_M, 17, rfl, by decide, rfl, Or.inl (gw_4 207 (by decide +kernel) (by decide +kernel))⟩
theorem p_M_82 : fPL "FigureLeaveModel" 82 10 6 .int := ⟨"FigureLeaveModel", cT_M, 17, rfl, by decide, rfl, rfl, by decide +kernel, Or.inl (gw_4 207 (by decide +kernel) (by decide +kernel))⟩
theorem l_M_85 : fFL "FigureLeaveModel" 85 10 7 := ⟨"FigureLeaveModel", cT_M, 17, rfl, by decide, rfl, Or.inl (gw_4 208 (by decide +kernel) (by decide +kernel))⟩
theorem p_M_85 : fPL "FigureLeaveModel" 85 10 7 .int := ⟨"FigureLeaveModel", cT_M, 17, rfl, by decide, rfl, rfl, by decide +kernel, Or.inl (gw_4 208 (by decide +kernel) (by decide +kernel))⟩
theorem k_M_88 : fML "FigureLeaveModel" 88 M_M_at := Or.inl (gw_5 52 (by decide +kernel) (by decide +kernel))
theorem k_M_91 : fML "FigureLeaveModel" 91 M_M_isLetter := Or.inl (gw_5 56 (by decide +kernel) (by decide +kernel))
theorem l_M_95 : fFL "FigureLeaveModel" 95 10 8 := ⟨"FigureLeaveModel", cT_M, 17, rfl, by decide, rfl, Or.inl (gw_4 209 (by decide +kernel) (by decide +kernel))⟩
theorem p_M_95 : fPL "FigureLeaveModel" 95 10 8 .int := ⟨"FigureLeaveModel", cT_M, 17, rfl, by decide, rfl, rfl, by decide +kernel, Or.inl (gw_4 209 (by decide +kernel) (by decide +kernel))⟩
theorem l_M_98 : fFL "FigureLeaveModel" 98 10 9 := ⟨"FigureLeaveModel", cT_M, 17, rfl, by decide, rfl, Or.inl (gw_4 210 (by decide +kernel) (by decide +kernel))⟩
theorem p_M_98 : fPL "FigureLeaveModel" 98 10 9 .int := ⟨"FigureLeaveModel", cT_M, 17, rfl, by decide, rfl, rfl, by decide +kernel, Or.inl (gw_4 210 (by decide +kernel) (by decide +kernel))⟩
theorem k_M_101 : fML "FigureLeaveModel" 101 M_M_word := Or.inl (gw_5 59 (by decide +kernel) (by decide +kernel))
theorem l_M_105 : fFL "FigureLeaveModel" 105 10 10 := ⟨"FigureLeaveModel", cT_M, 17, rfl, by decide, rfl, Or.inl (gw_4 211 (by decide +kernel) (by decide +kernel))⟩
theorem p_M_105 : fPL "FigureLeaveModel" 105 10 10 .int := ⟨"FigureLeaveModel", cT_M, 17, rfl, by decide, rfl, rfl, by decide +kernel, Or.inl (gw_4 211 (by decide +kernel) (by decide +kernel))⟩
theorem k_M_108 : fML "FigureLeaveModel" 108 M_M_isWell := Or.inl (gw_5 63 (by decide +kernel) (by decide +kernel))
theorem k_M_112 : fML "FigureLeaveModel" 112 M_M_advances := Or.inl (gw_5 48 (by decide +kernel) (by decide +kernel))
theorem k_M_115 : fML "FigureLeaveModel" 115 M_M_takes := Or.inl (gw_5 74 (by decide +kernel) (by decide +kernel))
theorem k_M_119 : fML "FigureLeaveModel" 119 M_M_sum := Or.inl (gw_5 71 (by decide +kernel) (by decide +kernel))
theorem k_M_123 : fML "FigureLeaveModel" 123 M_M_number := Or.inl (gw_5 82 (by decide +kernel) (by decide +kernel))
theorem k_M_126 : fML "FigureLeaveModel" 126 M_M_canOf := Or.inl (gw_5 86 (by decide +kernel) (by decide +kernel))
theorem k_M_130 : fML "FigureLeaveModel" 130 M_M_writes := Or.inl (gw_5 105 (by decide +kernel) (by decide +kernel))
theorem k_M_133 : fML "FigureLeaveModel" 133 M_M_sleeps := Or.inl (gw_5 109 (by decide +kernel) (by decide +kernel))
theorem k_M_136 : fML "FigureLeaveModel" 136 M_M_wordIs := Or.inl (gw_5 67 (by decide +kernel) (by decide +kernel))
theorem k_M_139 : fML "FigureLeaveModel" 139 M_M_reads := Or.inl (gw_5 78 (by decide +kernel) (by decide +kernel))
theorem k_M_142 : fML "FigureLeaveModel" 142 M_M_areLine := Or.inl (gw_5 119 (by decide +kernel) (by decide +kernel))
theorem k_M_146 : fML "FigureLeaveModel" 146 M_M_notes := Or.inl (gw_5 122 (by decide +kernel) (by decide +kernel))
theorem k_M_149 : fML "FigureLeaveModel" 149 M_M_costOf := Or.inl (gw_5 126 (by decide +kernel) (by decide +kernel))
theorem k_M_152 : fML "FigureLeaveModel" 152 M_M_isBill := Or.inl (gw_5 134 (by decide +kernel) (by decide +kernel))
theorem k_M_155 : fML "FigureLeaveModel" 155 M_M_isPaid := Or.inl (gw_5 138 (by decide +kernel) (by decide +kernel))
theorem k_M_158 : fML "FigureLeaveModel" 158 M_M_leftOf := Or.inl (gw_5 154 (by decide +kernel) (by decide +kernel))
theorem k_M_161 : fML "FigureLeaveModel" 161 M_M_bestOf := Or.inl (gw_5 178 (by decide +kernel) (by decide +kernel))
theorem k_M_164 : fML "FigureLeaveModel" 164 M_M_wornNow := Or.inl (gw_5 190 (by decide +kernel) (by decide +kernel))
theorem k_M_167 : fML "FigureLeaveModel" 167 M_M_asideBy := Or.inl (gw_5 194 (by decide +kernel) (by decide +kernel))
theorem k_M_170 : fML "FigureLeaveModel" 170 M_M_isWithin := Or.inl (gw_5 198 (by decide +kernel) (by decide +kernel))
theorem k_M_173 : fML "FigureLeaveModel" 173 M_M_rests := Or.inl (gw_5 206 (by decide +kernel) (by decide +kernel))
theorem k_M_176 : fML "FigureLeaveModel" 176 M_M_areWithin := Or.inl (gw_5 226 (by decide +kernel) (by decide +kernel))
theorem k_M_179 : fML "FigureLeaveModel" 179 M_M_unpaid := Or.inl (gw_5 214 (by decide +kernel) (by decide +kernel))
theorem k_M_182 : fML "FigureLeaveModel" 182 M_M_worthOf := Or.inl (gw_5 218 (by decide +kernel) (by decide +kernel))
theorem k_M_185 : fML "FigureLeaveModel" 185 M_M_canAll := Or.inl (gw_5 222 (by decide +kernel) (by decide +kernel))
theorem k_M_188 : fML "FigureLeaveModel" 188 M_M_dayOf := Or.inl (gw_5 238 (by decide +kernel) (by decide +kernel))
theorem k_M_191 : fML "FigureLeaveModel" 191 M_M_refusesAs := Or.inl (gw_5 234 (by decide +kernel) (by decide +kernel))
theorem k_M_194 : fML "FigureLeaveModel" 194 M_M_daysOf := Or.inl (gw_6 1 (by decide +kernel) (by decide +kernel))
theorem k_M_197 : fML "FigureLeaveModel" 197 M_M_manyCan := Or.inl (gw_6 9 (by decide +kernel) (by decide +kernel))
theorem k_M_200 : fML "FigureLeaveModel" 200 M_M_wornBy := Or.inl (gw_6 25 (by decide +kernel) (by decide +kernel))
theorem k_M_203 : fML "FigureLeaveModel" 203 M_M_isTraced := Or.inl (gw_6 21 (by decide +kernel) (by decide +kernel))
theorem k_M_206 : fML "FigureLeaveModel" 206 M_M_kindsOf := Or.inl (gw_6 41 (by decide +kernel) (by decide +kernel))
theorem k_M_209 : fML "FigureLeaveModel" 209 M_M_has := Or.inl (gw_6 53 (by decide +kernel) (by decide +kernel))
theorem o_M_212 : Cond.constantLong "FigureLeaveModel" 212 10 ∈ gw := gw_6 61 (by decide +kernel) (by decide +kernel)
theorem k_M_214 : fML "FigureLeaveModel" 214 M_M_canFree := Or.inl (gw_6 62 (by decide +kernel) (by decide +kernel))
theorem k_M_217 : fML "FigureLeaveModel" 217 M_M_gcd := Or.inl (gw_6 66 (by decide +kernel) (by decide +kernel))
theorem l_M_221 : fFL "FigureLeaveModel" 221 10 12 := ⟨"FigureLeaveModel", cT_M, 17, rfl, by decide, rfl, Or.inl (gw_4 213 (by decide +kernel) (by decide +kernel))⟩
theorem p_M_221 : fPL "FigureLeaveModel" 221 10 12 .long := ⟨"FigureLeaveModel", cT_M, 17, rfl, by decide, rfl, rfl, by decide +kernel, Or.inl (gw_4 213 (by decide +kernel) (by decide +kernel))⟩
theorem o_M_224 : Cond.constant "FigureLeaveModel" 224 999999 ∈ gw := gw_6 73 (by decide +kernel) (by decide +kernel)
theorem o_M_225 : Cond.constantLong "FigureLeaveModel" 225 1103515245 ∈ gw := gw_6 74 (by decide +kernel) (by decide +kernel)
theorem o_M_227 : Cond.constantLong "FigureLeaveModel" 227 12345 ∈ gw := gw_6 75 (by decide +kernel) (by decide +kernel)
theorem o_M_229 : Cond.constantLong "FigureLeaveModel" 229 2147483648 ∈ gw := gw_6 76 (by decide +kernel) (by decide +kernel)
theorem o_M_231 : Cond.constantLong "FigureLeaveModel" 231 65536 ∈ gw := gw_6 77 (by decide +kernel) (by decide +kernel)
theorem o_M_233 : Cond.constantLong "FigureLeaveModel" 233 100 ∈ gw := gw_6 78 (by decide +kernel) (by decide +kernel)
theorem k_M_235 : fML "FigureLeaveModel" 235 M_M_takesBack := Or.inl (gw_6 79 (by decide +kernel) (by decide +kernel))
theorem k_M_238 : fML "FigureLeaveModel" 238 M_M_counted := Or.inl (gw_6 103 (by decide +kernel) (by decide +kernel))
theorem o_M_241 : Cond.constantLong "FigureLeaveModel" 241 1493 ∈ gw := gw_6 111 (by decide +kernel) (by decide +kernel)
theorem o_M_243 : Cond.constantLong "FigureLeaveModel" 243 31 ∈ gw := gw_6 112 (by decide +kernel) (by decide +kernel)
theorem k_J_335 : fML "java/lang/String" 335 M_J_coder := Or.inl (gw_2 179 (by decide +kernel) (by decide +kernel))
theorem k_J_492 : fML "java/lang/String" 492 M_J_isLatin1 := Or.inl (gw_2 189 (by decide +kernel) (by decide +kernel))
theorem k_J_495 : fML "java/lang/String" 495 M_Q_charAt := Or.inl (gw_2 193 (by decide +kernel) (by decide +kernel))
theorem k_J_1059 : fML "java/lang/String" 1059 M_R_checkIndex := Or.inl (gw_2 201 (by decide +kernel) (by decide +kernel))
theorem k_Q_9 : fML "java/lang/StringLatin1" 9 M_J_checkIndex := Or.inl (gw_2 196 (by decide +kernel) (by decide +kernel))
theorem w_maxS : Cond.static Lib.Math.max.name ∈ gw := gw_3 51 (by decide +kernel) (by decide +kernel)
theorem w_maxC : Cond.code Lib.Math.max.name Lib.Math.max.code 2 (some .int) ∈ gw := gw_3 52 (by decide +kernel) (by decide +kernel)
theorem w_minS : Cond.static Lib.Math.min.name ∈ gw := gw_3 48 (by decide +kernel) (by decide +kernel)
theorem w_minC : Cond.code Lib.Math.min.name Lib.Math.min.code 2 (some .int) ∈ gw := gw_3 49 (by decide +kernel) (by decide +kernel)
theorem w_absS : Cond.static Lib.Math.abs.name ∈ gw := gw_3 14 (by decide +kernel) (by decide +kernel)
theorem w_absC : Cond.code Lib.Math.abs.name Lib.Math.abs.code 1 (some .int) ∈ gw := gw_3 15 (by decide +kernel) (by decide +kernel)
theorem w_Math : Cond.initialized "java/lang/Math" ∈ gw := gw_1 17 (by decide +kernel) (by decide +kernel)
theorem w_acN : Cond.native arraycopyName ∈ gw := gw_3 64 (by decide +kernel) (by decide +kernel)
theorem w_acS : Cond.static arraycopyName ∈ gw := gw_3 63 (by decide +kernel) (by decide +kernel)
theorem w_sys : Cond.initialized "java/lang/System" ∈ gw := gw_1 19 (by decide +kernel) (by decide +kernel)
theorem w_oiI : Cond.instanceMethod objectInit ∈ gw := gw_1 26 (by decide +kernel) (by decide +kernel)
theorem w_oiC : Cond.code objectInit ⟨#[0xb1]⟩ 1 none ∈ gw := gw_1 27 (by decide +kernel) (by decide +kernel)
theorem w_ai : Cond.arrayClass .int ∈ gw := gw_1 56 (by decide +kernel) (by decide +kernel)
theorem w_az : Cond.arrayClass .boolean ∈ gw := gw_5 13 (by decide +kernel) (by decide +kernel)
end
section
section FM
variable {y : mI} {E : eT} {Z : zT} {k : Nat} {h : hT} {nc ns pc pc2 tgt : Nat} {t : lT} {st : List Value}
theorem a_il0 {v : Int32} (hd : fIL y pc 0 pc2) (kk : fA y E Z k h nc ns pc2 (some (.int v) :: t) (.int v :: st)) : fA y E Z k h nc ns pc (some (.int v) :: t) st := a_il hd rfl kk
theorem a_al0 {v : Nat} (hd : fAL y pc 0 pc2) (kk : fA y E Z k h nc ns pc2 (some (.ref v) :: t) (.ref v :: st)) : fA y E Z k h nc ns pc (some (.ref v) :: t) st := a_al hd rfl kk
theorem a_ll0 {v : Int64} (hd : fLL y pc 0 pc2) (kk : fA y E Z k h nc ns pc2 (some (.long v) :: t) (.long v :: st)) : fA y E Z k h nc ns pc (some (.long v) :: t) st := a_ll hd rfl kk
theorem a_is0 { z : Option Value} {v : Int32} (hd : fIS y pc 0 pc2) (hj : 0 < y.2.2.1) (kk : fA y E Z k h nc ns pc2 (some (.int v) :: t) st) : fA y E Z k h nc ns pc (z :: t) (.int v :: st) := a_is hd hj rfl (fun i x hi hx => by omega) kk
theorem a_as0 { z : Option Value} {v : Nat} (hd : fAS y pc 0 pc2) (hj : 0 < y.2.2.1) (kk : fA y E Z k h nc ns pc2 (some (.ref v) :: t) st) : fA y E Z k h nc ns pc (z :: t) (.ref v :: st) := a_as hd hj rfl (fun i x hi hx => by omega) kk
theorem a_ns0 { z : Option Value} (hd : fAS y pc 0 pc2) (hj : 0 < y.2.2.1) (kk : fA y E Z k h nc ns pc2 (some .null :: t) st) : fA y E Z k h nc ns pc (z :: t) (.null :: st) := a_ns hd hj rfl (fun i x hi hx => by omega) kk
theorem a_nl0 (hd : fAL y pc 0 pc2) (kk : fA y E Z k h nc ns pc2 (some .null :: t) (.null :: st)) : fA y E Z k h nc ns pc (some .null :: t) st := a_nl hd rfl kk
theorem a_lt0 { z z2 : Option Value} {v : Int64} (hd : fLS y pc 0 pc2) (hj : 0 + 1 < y.2.2.1) (kk : fA y E Z k h nc ns pc2 (some (.long v) :: none :: t) st) : fA y E Z k h nc ns pc (z :: z2 :: t) (.long v :: st) := a_ls hd hj rfl (fun i x hi hx => by omega) kk
theorem a_inc0 {x : Int32} (hd : fD y pc (.iinc 0 1) 3 pc2) (hj : 0 < y.2.2.1) (kk : fA y E Z k h nc ns pc2 (some (.int (x + 1)) :: t) st) : fA y E Z k h nc ns pc (some (.int x) :: t) st := a_iinc hd rfl rfl hj rfl (fun i x hi hx => by omega) kk
theorem a_incm0 {x : Int32} (hd : fD y pc (.iinc 0 (-1)) 3 pc2) (hj : 0 < y.2.2.1) (kk : fA y E Z k h nc ns pc2 (some (.int (x + (-1))) :: t) st) : fA y E Z k h nc ns pc (some (.int x) :: t) st := a_iinc hd rfl rfl hj rfl (fun i x hi hx => by omega) kk
theorem a_il1 {x0 : Option Value} {v : Int32} (hd : fIL y pc 1 pc2) (kk : fA y E Z k h nc ns pc2 (x0 :: some (.int v) :: t) (.int v :: st)) : fA y E Z k h nc ns pc (x0 :: some (.int v) :: t) st := a_il hd rfl kk
theorem a_al1 {x0 : Option Value} {v : Nat} (hd : fAL y pc 1 pc2) (kk : fA y E Z k h nc ns pc2 (x0 :: some (.ref v) :: t) (.ref v :: st)) : fA y E Z k h nc ns pc (x0 :: some (.ref v) :: t) st := a_al hd rfl kk
theorem a_ll1 {x0 : Option Value} {v : Int64} (hd : fLL y pc 1 pc2) (kk : fA y E Z k h nc ns pc2 (x0 :: some (.long v) :: t) (.long v :: st)) : fA y E Z k h nc ns pc (x0 :: some (.long v) :: t) st := a_ll hd rfl kk
theorem a_is1 {x0 z : Option Value} {v : Int32} (hd : fIS y pc 1 pc2) (hj : 1 < y.2.2.1) (hc : c1 x0 = true) (kk : fA y E Z k h nc ns pc2 (x0 :: some (.int v) :: t) st) : fA y E Z k h nc ns pc (x0 :: z :: t) (.int v :: st) := a_is hd hj rfl (fun i x hi hx => by obtain rfl : i = 0 := (by omega); cases hx; exact hc) kk
theorem a_as1 {x0 z : Option Value} {v : Nat} (hd : fAS y pc 1 pc2) (hj : 1 < y.2.2.1) (hc : c1 x0 = true) (kk : fA y E Z k h nc ns pc2 (x0 :: some (.ref v) :: t) st) : fA y E Z k h nc ns pc (x0 :: z :: t) (.ref v :: st) := a_as hd hj rfl (fun i x hi hx => by obtain rfl : i = 0 := (by omega); cases hx; exact hc) kk
theorem a_ns1 {x0 z : Option Value} (hd : fAS y pc 1 pc2) (hj : 1 < y.2.2.1) (hc : c1 x0 = true) (kk : fA y E Z k h nc ns pc2 (x0 :: some .null :: t) st) : fA y E Z k h nc ns pc (x0 :: z :: t) (.null :: st) := a_ns hd hj rfl (fun i x hi hx => by obtain rfl : i = 0 := (by omega); cases hx; exact hc) kk
theorem a_nl1 {x0 : Option Value} (hd : fAL y pc 1 pc2) (kk : fA y E Z k h nc ns pc2 (x0 :: some .null :: t) (.null :: st)) : fA y E Z k h nc ns pc (x0 :: some .null :: t) st := a_nl hd rfl kk
theorem a_lt1 {x0 z z2 : Option Value} {v : Int64} (hd : fLS y pc 1 pc2) (hj : 1 + 1 < y.2.2.1) (hc : c1 x0 = true) (kk : fA y E Z k h nc ns pc2 (x0 :: some (.long v) :: none :: t) st) : fA y E Z k h nc ns pc (x0 :: z :: z2 :: t) (.long v :: st) := a_ls hd hj rfl (fun i x hi hx => by obtain rfl : i = 0 := (by omega); cases hx; exact hc) kk
theorem a_inc1 {x0 : Option Value} {x : Int32} (hd : fD y pc (.iinc 1 1) 3 pc2) (hj : 1 < y.2.2.1) (hc : c1 x0 = true) (kk : fA y E Z k h nc ns pc2 (x0 :: some (.int (x + 1)) :: t) st) : fA y E Z k h nc ns pc (x0 :: some (.int x) :: t) st := a_iinc hd rfl rfl hj rfl (fun i x hi hx => by obtain rfl : i = 0 := (by omega); cases hx; exact hc) kk
theorem a_incm1 {x0 : Option Value} {x : Int32} (hd : fD y pc (.iinc 1 (-1)) 3 pc2) (hj : 1 < y.2.2.1) (hc : c1 x0 = true) (kk : fA y E Z k h nc ns pc2 (x0 :: some (.int (x + (-1))) :: t) st) : fA y E Z k h nc ns pc (x0 :: some (.int x) :: t) st := a_iinc hd rfl rfl hj rfl (fun i x hi hx => by obtain rfl : i = 0 := (by omega); cases hx; exact hc) kk
theorem a_il2 {x0 x1 : Option Value} {v : Int32} (hd : fIL y pc 2 pc2) (kk : fA y E Z k h nc ns pc2 (x0 :: x1 :: some (.int v) :: t) (.int v :: st)) : fA y E Z k h nc ns pc (x0 :: x1 :: some (.int v) :: t) st := a_il hd rfl kk
theorem a_al2 {x0 x1 : Option Value} {v : Nat} (hd : fAL y pc 2 pc2) (kk : fA y E Z k h nc ns pc2 (x0 :: x1 :: some (.ref v) :: t) (.ref v :: st)) : fA y E Z k h nc ns pc (x0 :: x1 :: some (.ref v) :: t) st := a_al hd rfl kk
theorem a_ll2 {x0 x1 : Option Value} {v : Int64} (hd : fLL y pc 2 pc2) (kk : fA y E Z k h nc ns pc2 (x0 :: x1 :: some (.long v) :: t) (.long v :: st)) : fA y E Z k h nc ns pc (x0 :: x1 :: some (.long v) :: t) st := a_ll hd rfl kk
theorem a_is2 {x0 x1 z : Option Value} {v : Int32} (hd : fIS y pc 2 pc2) (hj : 2 < y.2.2.1) (hc : c1 x1 = true) (kk : fA y E Z k h nc ns pc2 (x0 :: x1 :: some (.int v) :: t) st) : fA y E Z k h nc ns pc (x0 :: x1 :: z :: t) (.int v :: st) := a_is hd hj rfl (fun i x hi hx => by obtain rfl : i = 1 := (by omega); cases hx; exact hc) kk
theorem a_as2 {x0 x1 z : Option Value} {v : Nat} (hd : fAS y pc 2 pc2) (hj : 2 < y.2.2.1) (hc : c1 x1 = true) (kk : fA y E Z k h nc ns pc2 (x0 :: x1 :: some (.ref v) :: t) st) : fA y E Z k h nc ns pc (x0 :: x1 :: z :: t) (.ref v :: st) := a_as hd hj rfl (fun i x hi hx => by obtain rfl : i = 1 := (by omega); cases hx; exact hc) kk
theorem a_ns2 {x0 x1 z : Option Value} (hd : fAS y pc 2 pc2) (hj : 2 < y.2.2.1) (hc : c1 x1 = true) (kk : fA y E Z k h nc ns pc2 (x0 :: x1 :: some .null :: t) st) : fA y E Z k h nc ns pc (x0 :: x1 :: z :: t) (.null :: st) := a_ns hd hj rfl (fun i x hi hx => by obtain rfl : i = 1 := (by omega); cases hx; exact hc) kk
theorem a_nl2 {x0 x1 : Option Value} (hd : fAL y pc 2 pc2) (kk : fA y E Z k h nc ns pc2 (x0 :: x1 :: some .null :: t) (.null :: st)) : fA y E Z k h nc ns pc (x0 :: x1 :: some .null :: t) st := a_nl hd rfl kk
theorem a_lt2 {x0 x1 z z2 : Option Value} {v : Int64} (hd : fLS y pc 2 pc2) (hj : 2 + 1 < y.2.2.1) (hc : c1 x1 = true) (kk : fA y E Z k h nc ns pc2 (x0 :: x1 :: some (.long v) :: none :: t) st) : fA y E Z k h nc ns pc (x0 :: x1 :: z :: z2 :: t) (.long v :: st) := a_ls hd hj rfl (fun i x hi hx => by obtain rfl : i = 1 := (by omega); cases hx; exact hc) kk
theorem a_inc2 {x0 x1 : Option Value} {x : Int32} (hd : fD y pc (.iinc 2 1) 3 pc2) (hj : 2 < y.2.2.1) (hc : c1 x1 = true) (kk : fA y E Z k h nc ns pc2 (x0 :: x1 :: some (.int (x + 1)) :: t) st) : fA y E Z k h nc ns pc (x0 :: x1 :: some (.int x) :: t) st := a_iinc hd rfl rfl hj rfl (fun i x hi hx => by obtain rfl : i = 1 := (by omega); cases hx; exact hc) kk
theorem a_incm2 {x0 x1 : Option Value} {x : Int32} (hd : fD y pc (.iinc 2 (-1)) 3 pc2) (hj : 2 < y.2.2.1) (hc : c1 x1 = true) (kk : fA y E Z k h nc ns pc2 (x0 :: x1 :: some (.int (x + (-1))) :: t) st) : fA y E Z k h nc ns pc (x0 :: x1 :: some (.int x) :: t) st := a_iinc hd rfl rfl hj rfl (fun i x hi hx => by obtain rfl : i = 1 := (by omega); cases hx; exact hc) kk
theorem a_il3 {x0 x1 x2 : Option Value} {v : Int32} (hd : fIL y pc 3 pc2) (kk : fA y E Z k h nc ns pc2 (x0 :: x1 :: x2 :: some (.int v) :: t) (.int v :: st)) : fA y E Z k h nc ns pc (x0 :: x1 :: x2 :: some (.int v) :: t) st := a_il hd rfl kk
theorem a_al3 {x0 x1 x2 : Option Value} {v : Nat} (hd : fAL y pc 3 pc2) (kk : fA y E Z k h nc ns pc2 (x0 :: x1 :: x2 :: some (.ref v) :: t) (.ref v :: st)) : fA y E Z k h nc ns pc (x0 :: x1 :: x2 :: some (.ref v) :: t) st := a_al hd rfl kk
theorem a_ll3 {x0 x1 x2 : Option Value} {v : Int64} (hd : fLL y pc 3 pc2) (kk : fA y E Z k h nc ns pc2 (x0 :: x1 :: x2 :: some (.long v) :: t) (.long v :: st)) : fA y E Z k h nc ns pc (x0 :: x1 :: x2 :: some (.long v) :: t) st := a_ll hd rfl kk
theorem a_is3 {x0 x1 x2 z : Option Value} {v : Int32} (hd : fIS y pc 3 pc2) (hj : 3 < y.2.2.1) (hc : c1 x2 = true) (kk : fA y E Z k h nc ns pc2 (x0 :: x1 :: x2 :: some (.int v) :: t) st) : fA y E Z k h nc ns pc (x0 :: x1 :: x2 :: z :: t) (.int v :: st) := a_is hd hj rfl (fun i x hi hx => by obtain rfl : i = 2 := (by omega); cases hx; exact hc) kk
theorem a_as3 {x0 x1 x2 z : Option Value} {v : Nat} (hd : fAS y pc 3 pc2) (hj : 3 < y.2.2.1) (hc : c1 x2 = true) (kk : fA y E Z k h nc ns pc2 (x0 :: x1 :: x2 :: some (.ref v) :: t) st) : fA y E Z k h nc ns pc (x0 :: x1 :: x2 :: z :: t) (.ref v :: st) := a_as hd hj rfl (fun i x hi hx => by obtain rfl : i = 2 := (by omega); cases hx; exact hc) kk
theorem a_ns3 {x0 x1 x2 z : Option Value} (hd : fAS y pc 3 pc2) (hj : 3 < y.2.2.1) (hc : c1 x2 = true) (kk : fA y E Z k h nc ns pc2 (x0 :: x1 :: x2 :: some .null :: t) st) : fA y E Z k h nc ns pc (x0 :: x1 :: x2 :: z :: t) (.null :: st) := a_ns hd hj rfl (fun i x hi hx => by obtain rfl : i = 2 := (by omega); cases hx; exact hc) kk
theorem a_nl3 {x0 x1 x2 : Option Value} (hd : fAL y pc 3 pc2) (kk : fA y E Z k h nc ns pc2 (x0 :: x1 :: x2 :: some .null :: t) (.null :: st)) : fA y E Z k h nc ns pc (x0 :: x1 :: x2 :: some .null :: t) st := a_nl hd rfl kk
theorem a_lt3 {x0 x1 x2 z z2 : Option Value} {v : Int64} (hd : fLS y pc 3 pc2) (hj : 3 + 1 < y.2.2.1) (hc : c1 x2 = true) (kk : fA y E Z k h nc ns pc2 (x0 :: x1 :: x2 :: some (.long v) :: none :: t) st) : fA y E Z k h nc ns pc (x0 :: x1 :: x2 :: z :: z2 :: t) (.long v :: st) := a_ls hd hj rfl (fun i x hi hx => by obtain rfl : i = 2 := (by omega); cases hx; exact hc) kk
theorem a_inc3 {x0 x1 x2 : Option Value} {x : Int32} (hd : fD y pc (.iinc 3 1) 3 pc2) (hj : 3 < y.2.2.1) (hc : c1 x2 = true) (kk : fA y E Z k h nc ns pc2 (x0 :: x1 :: x2 :: some (.int (x + 1)) :: t) st) : fA y E Z k h nc ns pc (x0 :: x1 :: x2 :: some (.int x) :: t) st := a_iinc hd rfl rfl hj rfl (fun i x hi hx => by obtain rfl : i = 2 := (by omega); cases hx; exact hc) kk
theorem a_incm3 {x0 x1 x2 : Option Value} {x : Int32} (hd : fD y pc (.iinc 3 (-1)) 3 pc2) (hj : 3 < y.2.2.1) (hc : c1 x2 = true) (kk : fA y E Z k h nc ns pc2 (x0 :: x1 :: x2 :: some (.int (x + (-1))) :: t) st) : fA y E Z k h nc ns pc (x0 :: x1 :: x2 :: some (.int x) :: t) st := a_iinc hd rfl rfl hj rfl (fun i x hi hx => by obtain rfl : i = 2 := (by omega); cases hx; exact hc) kk
theorem a_il4 {x0 x1 x2 x3 : Option Value} {v : Int32} (hd : fIL y pc 4 pc2) (kk : fA y E Z k h nc ns pc2 (x0 :: x1 :: x2 :: x3 :: some (.int v) :: t) (.int v :: st)) : fA y E Z k h nc ns pc (x0 :: x1 :: x2 :: x3 :: some (.int v) :: t) st := a_il hd rfl kk
theorem a_al4 {x0 x1 x2 x3 : Option Value} {v : Nat} (hd : fAL y pc 4 pc2) (kk : fA y E Z k h nc ns pc2 (x0 :: x1 :: x2 :: x3 :: some (.ref v) :: t) (.ref v :: st)) : fA y E Z k h nc ns pc (x0 :: x1 :: x2 :: x3 :: some (.ref v) :: t) st := a_al hd rfl kk
theorem a_ll4 {x0 x1 x2 x3 : Option Value} {v : Int64} (hd : fLL y pc 4 pc2) (kk : fA y E Z k h nc ns pc2 (x0 :: x1 :: x2 :: x3 :: some (.long v) :: t) (.long v :: st)) : fA y E Z k h nc ns pc (x0 :: x1 :: x2 :: x3 :: some (.long v) :: t) st := a_ll hd rfl kk
theorem a_is4 {x0 x1 x2 x3 z : Option Value} {v : Int32} (hd : fIS y pc 4 pc2) (hj : 4 < y.2.2.1) (hc : c1 x3 = true) (kk : fA y E Z k h nc ns pc2 (x0 :: x1 :: x2 :: x3 :: some (.int v) :: t) st) : fA y E Z k h nc ns pc (x0 :: x1 :: x2 :: x3 :: z :: t) (.int v :: st) := a_is hd hj rfl (fun i x hi hx => by obtain rfl : i = 3 := (by omega); cases hx; exact hc) kk
theorem a_as4 {x0 x1 x2 x3 z : Option Value} {v : Nat} (hd : fAS y pc 4 pc2) (hj : 4 < y.2.2.1) (hc : c1 x3 = true) (kk : fA y E Z k h nc ns pc2 (x0 :: x1 :: x2 :: x3 :: some (.ref v) :: t) st) : fA y E Z k h nc ns pc (x0 :: x1 :: x2 :: x3 :: z :: t) (.ref v :: st) := a_as hd hj rfl (fun i x hi hx => by obtain rfl : i = 3 := (by omega); cases hx; exact hc) kk
theorem a_ns4 {x0 x1 x2 x3 z : Option Value} (hd : fAS y pc 4 pc2) (hj : 4 < y.2.2.1) (hc : c1 x3 = true) (kk : fA y E Z k h nc ns pc2 (x0 :: x1 :: x2 :: x3 :: some .null :: t) st) : fA y E Z k h nc ns pc (x0 :: x1 :: x2 :: x3 :: z :: t) (.null :: st) := a_ns hd hj rfl (fun i x hi hx => by obtain rfl : i = 3 := (by omega); cases hx; exact hc) kk
theorem a_nl4 {x0 x1 x2 x3 : Option Value} (hd : fAL y pc 4 pc2) (kk : fA y E Z k h nc ns pc2 (x0 :: x1 :: x2 :: x3 :: some .null :: t) (.null :: st)) : fA y E Z k h nc ns pc (x0 :: x1 :: x2 :: x3 :: some .null :: t) st := a_nl hd rfl kk
theorem a_lt4 {x0 x1 x2 x3 z z2 : Option Value} {v : Int64} (hd : fLS y pc 4 pc2) (hj : 4 + 1 < y.2.2.1) (hc : c1 x3 = true) (kk : fA y E Z k h nc ns pc2 (x0 :: x1 :: x2 :: x3 :: some (.long v) :: none :: t) st) : fA y E Z k h nc ns pc (x0 :: x1 :: x2 :: x3 :: z :: z2 :: t) (.long v :: st) := a_ls hd hj rfl (fun i x hi hx => by obtain rfl : i = 3 := (by omega); cases hx; exact hc) kk
theorem a_inc4 {x0 x1 x2 x3 : Option Value} {x : Int32} (hd : fD y pc (.iinc 4 1) 3 pc2) (hj : 4 < y.2.2.1) (hc : c1 x3 = true) (kk : fA y E Z k h nc ns pc2 (x0 :: x1 :: x2 :: x3 :: some (.int (x + 1)) :: t) st) : fA y E Z k h nc ns pc (x0 :: x1 :: x2 :: x3 :: some (.int x) :: t) st := a_iinc hd rfl rfl hj rfl (fun i x hi hx => by obtain rfl : i = 3 := (by omega); cases hx; exact hc) kk
theorem a_incm4 {x0 x1 x2 x3 : Option Value} {x : Int32} (hd : fD y pc (.iinc 4 (-1)) 3 pc2) (hj : 4 < y.2.2.1) (hc : c1 x3 = true) (kk : fA y E Z k h nc ns pc2 (x0 :: x1 :: x2 :: x3 :: some (.int (x + (-1))) :: t) st) : fA y E Z k h nc ns pc (x0 :: x1 :: x2 :: x3 :: some (.int x) :: t) st := a_iinc hd rfl rfl hj rfl (fun i x hi hx => by obtain rfl : i = 3 := (by omega); cases hx; exact hc) kk
theorem a_il5 {x0 x1 x2 x3 x4 : Option Value} {v : Int32} (hd : fIL y pc 5 pc2) (kk : fA y E Z k h nc ns pc2 (x0 :: x1 :: x2 :: x3 :: x4 :: some (.int v) :: t) (.int v :: st)) : fA y E Z k h nc ns pc (x0 :: x1 :: x2 :: x3 :: x4 :: some (.int v) :: t) st := a_il hd rfl kk
theorem a_al5 {x0 x1 x2 x3 x4 : Option Value} {v : Nat} (hd : fAL y pc 5 pc2) (kk : fA y E Z k h nc ns pc2 (x0 :: x1 :: x2 :: x3 :: x4 :: some (.ref v) :: t) (.ref v :: st)) : fA y E Z k h nc ns pc (x0 :: x1 :: x2 :: x3 :: x4 :: some (.ref v) :: t) st := a_al hd rfl kk
theorem a_ll5 {x0 x1 x2 x3 x4 : Option Value} {v : Int64} (hd : fLL y pc 5 pc2) (kk : fA y E Z k h nc ns pc2 (x0 :: x1 :: x2 :: x3 :: x4 :: some (.long v) :: t) (.long v :: st)) : fA y E Z k h nc ns pc (x0 :: x1 :: x2 :: x3 :: x4 :: some (.long v) :: t) st := a_ll hd rfl kk
theorem a_is5 {x0 x1 x2 x3 x4 z : Option Value} {v : Int32} (hd : fIS y pc 5 pc2) (hj : 5 < y.2.2.1) (hc : c1 x4 = true) (kk : fA y E Z k h nc ns pc2 (x0 :: x1 :: x2 :: x3 :: x4 :: some (.int v) :: t) st) : fA y E Z k h nc ns pc (x0 :: x1 :: x2 :: x3 :: x4 :: z :: t) (.int v :: st) := a_is hd hj rfl (fun i x hi hx => by obtain rfl : i = 4 := (by omega); cases hx; exact hc) kk
theorem a_as5 {x0 x1 x2 x3 x4 z : Option Value} {v : Nat} (hd : fAS y pc 5 pc2) (hj : 5 < y.2.2.1) (hc : c1 x4 = true) (kk : fA y E Z k h nc ns pc2 (x0 :: x1 :: x2 :: x3 :: x4 :: some (.ref v) :: t) st) : fA y E Z k h nc ns pc (x0 :: x1 :: x2 :: x3 :: x4 :: z :: t) (.ref v :: st) := a_as hd hj rfl (fun i x hi hx => by obtain rfl : i = 4 := (by omega); cases hx; exact hc) kk
theorem a_ns5 {x0 x1 x2 x3 x4 z : Option Value} (hd : fAS y pc 5 pc2) (hj : 5 < y.2.2.1) (hc : c1 x4 = true) (kk : fA y E Z k h nc ns pc2 (x0 :: x1 :: x2 :: x3 :: x4 :: some .null :: t) st) : fA y E Z k h nc ns pc (x0 :: x1 :: x2 :: x3 :: x4 :: z :: t) (.null :: st) := a_ns hd hj rfl (fun i x hi hx => by obtain rfl : i = 4 := (by omega); cases hx; exact hc) kk
theorem a_nl5 {x0 x1 x2 x3 x4 : Option Value} (hd : fAL y pc 5 pc2) (kk : fA y E Z k h nc ns pc2 (x0 :: x1 :: x2 :: x3 :: x4 :: some .null :: t) (.null :: st)) : fA y E Z k h nc ns pc (x0 :: x1 :: x2 :: x3 :: x4 :: some .null :: t) st := a_nl hd rfl kk
theorem a_lt5 {x0 x1 x2 x3 x4 z z2 : Option Value} {v : Int64} (hd : fLS y pc 5 pc2) (hj : 5 + 1 < y.2.2.1) (hc : c1 x4 = true) (kk : fA y E Z k h nc ns pc2 (x0 :: x1 :: x2 :: x3 :: x4 :: some (.long v) :: none :: t) st) : fA y E Z k h nc ns pc (x0 :: x1 :: x2 :: x3 :: x4 :: z :: z2 :: t) (.long v :: st) := a_ls hd hj rfl (fun i x hi hx => by obtain rfl : i = 4 := (by omega); cases hx; exact hc) kk
theorem a_inc5 {x0 x1 x2 x3 x4 : Option Value} {x : Int32} (hd : fD y pc (.iinc 5 1) 3 pc2) (hj : 5 < y.2.2.1) (hc : c1 x4 = true) (kk : fA y E Z k h nc ns pc2 (x0 :: x1 :: x2 :: x3 :: x4 :: some (.int (x + 1)) :: t) st) : fA y E Z k h nc ns pc (x0 :: x1 :: x2 :: x3 :: x4 :: some (.int x) :: t) st := a_iinc hd rfl rfl hj rfl (fun i x hi hx => by obtain rfl : i = 4 := (by omega); cases hx; exact hc) kk
theorem a_incm5 {x0 x1 x2 x3 x4 : Option Value} {x : Int32} (hd : fD y pc (.iinc 5 (-1)) 3 pc2) (hj : 5 < y.2.2.1) (hc : c1 x4 = true) (kk : fA y E Z k h nc ns pc2 (x0 :: x1 :: x2 :: x3 :: x4 :: some (.int (x + (-1))) :: t) st) : fA y E Z k h nc ns pc (x0 :: x1 :: x2 :: x3 :: x4 :: some (.int x) :: t) st := a_iinc hd rfl rfl hj rfl (fun i x hi hx => by obtain rfl : i = 4 := (by omega); cases hx; exact hc) kk
theorem a_il6 {x0 x1 x2 x3 x4 x5 : Option Value} {v : Int32} (hd : fIL y pc 6 pc2) (kk : fA y E Z k h nc ns pc2 (x0 :: x1 :: x2 :: x3 :: x4 :: x5 :: some (.int v) :: t) (.int v :: st)) : fA y E Z k h nc ns pc (x0 :: x1 :: x2 :: x3 :: x4 :: x5 :: some (.int v) :: t) st := a_il hd rfl kk
theorem a_al6 {x0 x1 x2 x3 x4 x5 : Option Value} {v : Nat} (hd : fAL y pc 6 pc2) (kk : fA y E Z k h nc ns pc2 (x0 :: x1 :: x2 :: x3 :: x4 :: x5 :: some (.ref v) :: t) (.ref v :: st)) : fA y E Z k h nc ns pc (x0 :: x1 :: x2 :: x3 :: x4 :: x5 :: some (.ref v) :: t) st := a_al hd rfl kk
theorem a_ll6 {x0 x1 x2 x3 x4 x5 : Option Value} {v : Int64} (hd : fLL y pc 6 pc2) (kk : fA y E Z k h nc ns pc2 (x0 :: x1 :: x2 :: x3 :: x4 :: x5 :: some (.long v) :: t) (.long v :: st)) : fA y E Z k h nc ns pc (x0 :: x1 :: x2 :: x3 :: x4 :: x5 :: some (.long v) :: t) st := a_ll hd rfl kk
theorem a_is6 {x0 x1 x2 x3 x4 x5 z : Option Value} {v : Int32} (hd : fIS y pc 6 pc2) (hj : 6 < y.2.2.1) (hc : c1 x5 = true) (kk : fA y E Z k h nc ns pc2 (x0 :: x1 :: x2 :: x3 :: x4 :: x5 :: some (.int v) :: t) st) : fA y E Z k h nc ns pc (x0 :: x1 :: x2 :: x3 :: x4 :: x5 :: z :: t) (.int v :: st) := a_is hd hj rfl (fun i x hi hx => by obtain rfl : i = 5 := (by omega); cases hx; exact hc) kk
theorem a_as6 {x0 x1 x2 x3 x4 x5 z : Option Value} {v : Nat} (hd : fAS y pc 6 pc2) (hj : 6 < y.2.2.1) (hc : c1 x5 = true) (kk : fA y E Z k h nc ns pc2 (x0 :: x1 :: x2 :: x3 :: x4 :: x5 :: some (.ref v) :: t) st) : fA y E Z k h nc ns pc (x0 :: x1 :: x2 :: x3 :: x4 :: x5 :: z :: t) (.ref v :: st) := a_as hd hj rfl (fun i x hi hx => by obtain rfl : i = 5 := (by omega); cases hx; exact hc) kk
theorem a_ns6 {x0 x1 x2 x3 x4 x5 z : Option Value} (hd : fAS y pc 6 pc2) (hj : 6 < y.2.2.1) (hc : c1 x5 = true) (kk : fA y E Z k h nc ns pc2 (x0 :: x1 :: x2 :: x3 :: x4 :: x5 :: some .null :: t) st) : fA y E Z k h nc ns pc (x0 :: x1 :: x2 :: x3 :: x4 :: x5 :: z :: t) (.null :: st) := a_ns hd hj rfl (fun i x hi hx => by obtain rfl : i = 5 := (by omega); cases hx; exact hc) kk
theorem a_nl6 {x0 x1 x2 x3 x4 x5 : Option Value} (hd : fAL y pc 6 pc2) (kk : fA y E Z k h nc ns pc2 (x0 :: x1 :: x2 :: x3 :: x4 :: x5 :: some .null :: t) (.null :: st)) : fA y E Z k h nc ns pc (x0 :: x1 :: x2 :: x3 :: x4 :: x5 :: some .null :: t) st := a_nl hd rfl kk
theorem a_lt6 {x0 x1 x2 x3 x4 x5 z z2 : Option Value} {v : Int64} (hd : fLS y pc 6 pc2) (hj : 6 + 1 < y.2.2.1) (hc : c1 x5 = true) (kk : fA y E Z k h nc ns pc2 (x0 :: x1 :: x2 :: x3 :: x4 :: x5 :: some (.long v) :: none :: t) st) : fA y E Z k h nc ns pc (x0 :: x1 :: x2 :: x3 :: x4 :: x5 :: z :: z2 :: t) (.long v :: st) := a_ls hd hj rfl (fun i x hi hx => by obtain rfl : i = 5 := (by omega); cases hx; exact hc) kk
theorem a_inc6 {x0 x1 x2 x3 x4 x5 : Option Value} {x : Int32} (hd : fD y pc (.iinc 6 1) 3 pc2) (hj : 6 < y.2.2.1) (hc : c1 x5 = true) (kk : fA y E Z k h nc ns pc2 (x0 :: x1 :: x2 :: x3 :: x4 :: x5 :: some (.int (x + 1)) :: t) st) : fA y E Z k h nc ns pc (x0 :: x1 :: x2 :: x3 :: x4 :: x5 :: some (.int x) :: t) st := a_iinc hd rfl rfl hj rfl (fun i x hi hx => by obtain rfl : i = 5 := (by omega); cases hx; exact hc) kk
theorem a_incm6 {x0 x1 x2 x3 x4 x5 : Option Value} {x : Int32} (hd : fD y pc (.iinc 6 (-1)) 3 pc2) (hj : 6 < y.2.2.1) (hc : c1 x5 = true) (kk : fA y E Z k h nc ns pc2 (x0 :: x1 :: x2 :: x3 :: x4 :: x5 :: some (.int (x + (-1))) :: t) st) : fA y E Z k h nc ns pc (x0 :: x1 :: x2 :: x3 :: x4 :: x5 :: some (.int x) :: t) st := a_iinc hd rfl rfl hj rfl (fun i x hi hx => by obtain rfl : i = 5 := (by omega); cases hx; exact hc) kk
theorem a_il7 {x0 x1 x2 x3 x4 x5 x6 : Option Value} {v : Int32} (hd : fIL y pc 7 pc2) (kk : fA y E Z k h nc ns pc2 (x0 :: x1 :: x2 :: x3 :: x4 :: x5 :: x6 :: some (.int v) :: t) (.int v :: st)) : fA y E Z k h nc ns pc (x0 :: x1 :: x2 :: x3 :: x4 :: x5 :: x6 :: some (.int v) :: t) st := a_il hd rfl kk
theorem a_al7 {x0 x1 x2 x3 x4 x5 x6 : Option Value} {v : Nat} (hd : fAL y pc 7 pc2) (kk : fA y E Z k h nc ns pc2 (x0 :: x1 :: x2 :: x3 :: x4 :: x5 :: x6 :: some (.ref v) :: t) (.ref v :: st)) : fA y E Z k h nc ns pc (x0 :: x1 :: x2 :: x3 :: x4 :: x5 :: x6 :: some (.ref v) :: t) st := a_al hd rfl kk
theorem a_ll7 {x0 x1 x2 x3 x4 x5 x6 : Option Value} {v : Int64} (hd : fLL y pc 7 pc2) (kk : fA y E Z k h nc ns pc2 (x0 :: x1 :: x2 :: x3 :: x4 :: x5 :: x6 :: some (.long v) :: t) (.long v :: st)) : fA y E Z k h nc ns pc (x0 :: x1 :: x2 :: x3 :: x4 :: x5 :: x6 :: some (.long v) :: t) st := a_ll hd rfl kk
theorem a_is7 {x0 x1 x2 x3 x4 x5 x6 z : Option Value} {v : Int32} (hd : fIS y pc 7 pc2) (hj : 7 < y.2.2.1) (hc : c1 x6 = true) (kk : fA y E Z k h nc ns pc2 (x0 :: x1 :: x2 :: x3 :: x4 :: x5 :: x6 :: some (.int v) :: t) st) : fA y E Z k h nc ns pc (x0 :: x1 :: x2 :: x3 :: x4 :: x5 :: x6 :: z :: t) (.int v :: st) := a_is hd hj rfl (fun i x hi hx => by obtain rfl : i = 6 := (by omega); cases hx; exact hc) kk
theorem a_as7 {x0 x1 x2 x3 x4 x5 x6 z : Option Value} {v : Nat} (hd : fAS y pc 7 pc2) (hj : 7 < y.2.2.1) (hc : c1 x6 = true) (kk : fA y E Z k h nc ns pc2 (x0 :: x1 :: x2 :: x3 :: x4 :: x5 :: x6 :: some (.ref v) :: t) st) : fA y E Z k h nc ns pc (x0 :: x1 :: x2 :: x3 :: x4 :: x5 :: x6 :: z :: t) (.ref v :: st) := a_as hd hj rfl (fun i x hi hx => by obtain rfl : i = 6 := (by omega); cases hx; exact hc) kk
theorem a_ns7 {x0 x1 x2 x3 x4 x5 x6 z : Option Value} (hd : fAS y pc 7 pc2) (hj : 7 < y.2.2.1) (hc : c1 x6 = true) (kk : fA y E Z k h nc ns pc2 (x0 :: x1 :: x2 :: x3 :: x4 :: x5 :: x6 :: some .null :: t) st) : fA y E Z k h nc ns pc (x0 :: x1 :: x2 :: x3 :: x4 :: x5 :: x6 :: z :: t) (.null :: st) := a_ns hd hj rfl (fun i x hi hx => by obtain rfl : i = 6 := (by omega); cases hx; exact hc) kk
theorem a_nl7 {x0 x1 x2 x3 x4 x5 x6 : Option Value} (hd : fAL y pc 7 pc2) (kk : fA y E Z k h nc ns pc2 (x0 :: x1 :: x2 :: x3 :: x4 :: x5 :: x6 :: some .null :: t) (.null :: st)) : fA y E Z k h nc ns pc (x0 :: x1 :: x2 :: x3 :: x4 :: x5 :: x6 :: some .null :: t) st := a_nl hd rfl kk
theorem a_lt7 {x0 x1 x2 x3 x4 x5 x6 z z2 : Option Value} {v : Int64} (hd : fLS y pc 7 pc2) (hj : 7 + 1 < y.2.2.1) (hc : c1 x6 = true) (kk : fA y E Z k h nc ns pc2 (x0 :: x1 :: x2 :: x3 :: x4 :: x5 :: x6 :: some (.long v) :: none :: t) st) : fA y E Z k h nc ns pc (x0 :: x1 :: x2 :: x3 :: x4 :: x5 :: x6 :: z :: z2 :: t) (.long v :: st) := a_ls hd hj rfl (fun i x hi hx => by obtain rfl : i = 6 := (by omega); cases hx; exact hc) kk
theorem a_inc7 {x0 x1 x2 x3 x4 x5 x6 : Option Value} {x : Int32} (hd : fD y pc (.iinc 7 1) 3 pc2) (hj : 7 < y.2.2.1) (hc : c1 x6 = true) (kk : fA y E Z k h nc ns pc2 (x0 :: x1 :: x2 :: x3 :: x4 :: x5 :: x6 :: some (.int (x + 1)) :: t) st) : fA y E Z k h nc ns pc (x0 :: x1 :: x2 :: x3 :: x4 :: x5 :: x6 :: some (.int x) :: t) st := a_iinc hd rfl rfl hj rfl (fun i x hi hx => by obtain rfl : i = 6 := (by omega); cases hx; exact hc) kk
theorem a_incm7 {x0 x1 x2 x3 x4 x5 x6 : Option Value} {x : Int32} (hd : fD y pc (.iinc 7 (-1)) 3 pc2) (hj : 7 < y.2.2.1) (hc : c1 x6 = true) (kk : fA y E Z k h nc ns pc2 (x0 :: x1 :: x2 :: x3 :: x4 :: x5 :: x6 :: some (.int (x + (-1))) :: t) st) : fA y E Z k h nc ns pc (x0 :: x1 :: x2 :: x3 :: x4 :: x5 :: x6 :: some (.int x) :: t) st := a_iinc hd rfl rfl hj rfl (fun i x hi hx => by obtain rfl : i = 6 := (by omega); cases hx; exact hc) kk
theorem a_il8 {x0 x1 x2 x3 x4 x5 x6 x7 : Option Value} {v : Int32} (hd : fIL y pc 8 pc2) (kk : fA y E Z k h nc ns pc2 (x0 :: x1 :: x2 :: x3 :: x4 :: x5 :: x6 :: x7 :: some (.int v) :: t) (.int v :: st)) : fA y E Z k h nc ns pc (x0 :: x1 :: x2 :: x3 :: x4 :: x5 :: x6 :: x7 :: some (.int v) :: t) st := a_il hd rfl kk
theorem a_al8 {x0 x1 x2 x3 x4 x5 x6 x7 : Option Value} {v : Nat} (hd : fAL y pc 8 pc2) (kk : fA y E Z k h nc ns pc2 (x0 :: x1 :: x2 :: x3 :: x4 :: x5 :: x6 :: x7 :: some (.ref v) :: t) (.ref v :: st)) : fA y E Z k h nc ns pc (x0 :: x1 :: x2 :: x3 :: x4 :: x5 :: x6 :: x7 :: some (.ref v) :: t) st := a_al hd rfl kk
theorem a_ll8 {x0 x1 x2 x3 x4 x5 x6 x7 : Option Value} {v : Int64} (hd : fLL y pc 8 pc2) (kk : fA y E Z k h nc ns pc2 (x0 :: x1 :: x2 :: x3 :: x4 :: x5 :: x6 :: x7 :: some (.long v) :: t) (.long v :: st)) : fA y E Z k h nc ns pc (x0 :: x1 :: x2 :: x3 :: x4 :: x5 :: x6 :: x7 :: some (.long v) :: t) st := a_ll hd rfl kk
theorem a_is8 {x0 x1 x2 x3 x4 x5 x6 x7 z : Option Value} {v : Int32} (hd : fIS y pc 8 pc2) (hj : 8 < y.2.2.1) (hc : c1 x7 = true) (kk : fA y E Z k h nc ns pc2 (x0 :: x1 :: x2 :: x3 :: x4 :: x5 :: x6 :: x7 :: some (.int v) :: t) st) : fA y E Z k h nc ns pc (x0 :: x1 :: x2 :: x3 :: x4 :: x5 :: x6 :: x7 :: z :: t) (.int v :: st) := a_is hd hj rfl (fun i x hi hx => by obtain rfl : i = 7 := (by omega); cases hx; exact hc) kk
theorem a_as8 {x0 x1 x2 x3 x4 x5 x6 x7 z : Option Value} {v : Nat} (hd : fAS y pc 8 pc2) (hj : 8 < y.2.2.1) (hc : c1 x7 = true) (kk : fA y E Z k h nc ns pc2 (x0 :: x1 :: x2 :: x3 :: x4 :: x5 :: x6 :: x7 :: some (.ref v) :: t) st) : fA y E Z k h nc ns pc (x0 :: x1 :: x2 :: x3 :: x4 :: x5 :: x6 :: x7 :: z :: t) (.ref v :: st) := a_as hd hj rfl (fun i x hi hx => by obtain rfl : i = 7 := (by omega); cases hx; exact hc) kk
theorem a_ns8 {x0 x1 x2 x3 x4 x5 x6 x7 z : Option Value} (hd : fAS y pc 8 pc2) (hj : 8 < y.2.2.1) (hc : c1 x7 = true) (kk : fA y E Z k h nc ns pc2 (x0 :: x1 :: x2 :: x3 :: x4 :: x5 :: x6 :: x7 :: some .null :: t) st) : fA y E Z k h nc ns pc (x0 :: x1 :: x2 :: x3 :: x4 :: x5 :: x6 :: x7 :: z :: t) (.null :: st) := a_ns hd hj rfl (fun i x hi hx => by obtain rfl : i = 7 := (by omega); cases hx; exact hc) kk
theorem a_nl8 {x0 x1 x2 x3 x4 x5 x6 x7 : Option Value} (hd : fAL y pc 8 pc2) (kk : fA y E Z k h nc ns pc2 (x0 :: x1 :: x2 :: x3 :: x4 :: x5 :: x6 :: x7 :: some .null :: t) (.null :: st)) : fA y E Z k h nc ns pc (x0 :: x1 :: x2 :: x3 :: x4 :: x5 :: x6 :: x7 :: some .null :: t) st := a_nl hd rfl kk
theorem a_lt8 {x0 x1 x2 x3 x4 x5 x6 x7 z z2 : Option Value} {v : Int64} (hd : fLS y pc 8 pc2) (hj : 8 + 1 < y.2.2.1) (hc : c1 x7 = true) (kk : fA y E Z k h nc ns pc2 (x0 :: x1 :: x2 :: x3 :: x4 :: x5 :: x6 :: x7 :: some (.long v) :: none :: t) st) : fA y E Z k h nc ns pc (x0 :: x1 :: x2 :: x3 :: x4 :: x5 :: x6 :: x7 :: z :: z2 :: t) (.long v :: st) := a_ls hd hj rfl (fun i x hi hx => by obtain rfl : i = 7 := (by omega); cases hx; exact hc) kk
theorem a_inc8 {x0 x1 x2 x3 x4 x5 x6 x7 : Option Value} {x : Int32} (hd : fD y pc (.iinc 8 1) 3 pc2) (hj : 8 < y.2.2.1) (hc : c1 x7 = true) (kk : fA y E Z k h nc ns pc2 (x0 :: x1 :: x2 :: x3 :: x4 :: x5 :: x6 :: x7 :: some (.int (x + 1)) :: t) st) : fA y E Z k h nc ns pc (x0 :: x1 :: x2 :: x3 :: x4 :: x5 :: x6 :: x7 :: some (.int x) :: t) st := a_iinc hd rfl rfl hj rfl (fun i x hi hx => by obtain rfl : i = 7 := (by omega); cases hx; exact hc) kk
theorem a_incm8 {x0 x1 x2 x3 x4 x5 x6 x7 : Option Value} {x : Int32} (hd : fD y pc (.iinc 8 (-1)) 3 pc2) (hj : 8 < y.2.2.1) (hc : c1 x7 = true) (kk : fA y E Z k h nc ns pc2 (x0 :: x1 :: x2 :: x3 :: x4 :: x5 :: x6 :: x7 :: some (.int (x + (-1))) :: t) st) : fA y E Z k h nc ns pc (x0 :: x1 :: x2 :: x3 :: x4 :: x5 :: x6 :: x7 :: some (.int x) :: t) st := a_iinc hd rfl rfl hj rfl (fun i x hi hx => by obtain rfl : i = 7 := (by omega); cases hx; exact hc) kk
theorem a_il9 {x0 x1 x2 x3 x4 x5 x6 x7 x8 : Option Value} {v : Int32} (hd : fIL y pc 9 pc2) (kk : fA y E Z k h nc ns pc2 (x0 :: x1 :: x2 :: x3 :: x4 :: x5 :: x6 :: x7 :: x8 :: some (.int v) :: t) (.int v :: st)) : fA y E Z k h nc ns pc (x0 :: x1 :: x2 :: x3 :: x4 :: x5 :: x6 :: x7 :: x8 :: some (.int v) :: t) st := a_il hd rfl kk
theorem a_al9 {x0 x1 x2 x3 x4 x5 x6 x7 x8 : Option Value} {v : Nat} (hd : fAL y pc 9 pc2) (kk : fA y E Z k h nc ns pc2 (x0 :: x1 :: x2 :: x3 :: x4 :: x5 :: x6 :: x7 :: x8 :: some (.ref v) :: t) (.ref v :: st)) : fA y E Z k h nc ns pc (x0 :: x1 :: x2 :: x3 :: x4 :: x5 :: x6 :: x7 :: x8 :: some (.ref v) :: t) st := a_al hd rfl kk
theorem a_ll9 {x0 x1 x2 x3 x4 x5 x6 x7 x8 : Option Value} {v : Int64} (hd : fLL y pc 9 pc2) (kk : fA y E Z k h nc ns pc2 (x0 :: x1 :: x2 :: x3 :: x4 :: x5 :: x6 :: x7 :: x8 :: some (.long v) :: t) (.long v :: st)) : fA y E Z k h nc ns pc (x0 :: x1 :: x2 :: x3 :: x4 :: x5 :: x6 :: x7 :: x8 :: some (.long v) :: t) st := a_ll hd rfl kk
theorem a_is9 {x0 x1 x2 x3 x4 x5 x6 x7 x8 z : Option Value} {v : Int32} (hd : fIS y pc 9 pc2) (hj : 9 < y.2.2.1) (hc : c1 x8 = true) (kk : fA y E Z k h nc ns pc2 (x0 :: x1 :: x2 :: x3 :: x4 :: x5 :: x6 :: x7 :: x8 :: some (.int v) :: t) st) : fA y E Z k h nc ns pc (x0 :: x1 :: x2 :: x3 :: x4 :: x5 :: x6 :: x7 :: x8 :: z :: t) (.int v :: st) := a_is hd hj rfl (fun i x hi hx => by obtain rfl : i = 8 := (by omega); cases hx; exact hc) kk
theorem a_as9 {x0 x1 x2 x3 x4 x5 x6 x7 x8 z : Option Value} {v : Nat} (hd : fAS y pc 9 pc2) (hj : 9 < y.2.2.1) (hc : c1 x8 = true) (kk : fA y E Z k h nc ns pc2 (x0 :: x1 :: x2 :: x3 :: x4 :: x5 :: x6 :: x7 :: x8 :: some (.ref v) :: t) st) : fA y E Z k h nc ns pc (x0 :: x1 :: x2 :: x3 :: x4 :: x5 :: x6 :: x7 :: x8 :: z :: t) (.ref v :: st) := a_as hd hj rfl (fun i x hi hx => by obtain rfl : i = 8 := (by omega); cases hx; exact hc) kk
theorem a_ns9 {x0 x1 x2 x3 x4 x5 x6 x7 x8 z : Option Value} (hd : fAS y pc 9 pc2) (hj : 9 < y.2.2.1) (hc : c1 x8 = true) (kk : fA y E Z k h nc ns pc2 (x0 :: x1 :: x2 :: x3 :: x4 :: x5 :: x6 :: x7 :: x8 :: some .null :: t) st) : fA y E Z k h nc ns pc (x0 :: x1 :: x2 :: x3 :: x4 :: x5 :: x6 :: x7 :: x8 :: z :: t) (.null :: st) := a_ns hd hj rfl (fun i x hi hx => by obtain rfl : i = 8 := (by omega); cases hx; exact hc) kk
theorem a_nl9 {x0 x1 x2 x3 x4 x5 x6 x7 x8 : Option Value} (hd : fAL y pc 9 pc2) (kk : fA y E Z k h nc ns pc2 (x0 :: x1 :: x2 :: x3 :: x4 :: x5 :: x6 :: x7 :: x8 :: some .null :: t) (.null :: st)) : fA y E Z k h nc ns pc (x0 :: x1 :: x2 :: x3 :: x4 :: x5 :: x6 :: x7 :: x8 :: some .null :: t) st := a_nl hd rfl kk
theorem a_lt9 {x0 x1 x2 x3 x4 x5 x6 x7 x8 z z2 : Option Value} {v : Int64} (hd : fLS y pc 9 pc2) (hj : 9 + 1 < y.2.2.1) (hc : c1 x8 = true) (kk : fA y E Z k h nc ns pc2 (x0 :: x1 :: x2 :: x3 :: x4 :: x5 :: x6 :: x7 :: x8 :: some (.long v) :: none :: t) st) : fA y E Z k h nc ns pc (x0 :: x1 :: x2 :: x3 :: x4 :: x5 :: x6 :: x7 :: x8 :: z :: z2 :: t) (.long v :: st) := a_ls hd hj rfl (fun i x hi hx => by obtain rfl : i = 8 := (by omega); cases hx; exact hc) kk
theorem a_inc9 {x0 x1 x2 x3 x4 x5 x6 x7 x8 : Option Value} {x : Int32} (hd : fD y pc (.iinc 9 1) 3 pc2) (hj : 9 < y.2.2.1) (hc : c1 x8 = true) (kk : fA y E Z k h nc ns pc2 (x0 :: x1 :: x2 :: x3 :: x4 :: x5 :: x6 :: x7 :: x8 :: some (.int (x + 1)) :: t) st) : fA y E Z k h nc ns pc (x0 :: x1 :: x2 :: x3 :: x4 :: x5 :: x6 :: x7 :: x8 :: some (.int x) :: t) st := a_iinc hd rfl rfl hj rfl (fun i x hi hx => by obtain rfl : i = 8 := (by omega); cases hx; exact hc) kk
theorem a_incm9 {x0 x1 x2 x3 x4 x5 x6 x7 x8 : Option Value} {x : Int32} (hd : fD y pc (.iinc 9 (-1)) 3 pc2) (hj : 9 < y.2.2.1) (hc : c1 x8 = true) (kk : fA y E Z k h nc ns pc2 (x0 :: x1 :: x2 :: x3 :: x4 :: x5 :: x6 :: x7 :: x8 :: some (.int (x + (-1))) :: t) st) : fA y E Z k h nc ns pc (x0 :: x1 :: x2 :: x3 :: x4 :: x5 :: x6 :: x7 :: x8 :: some (.int x) :: t) st := a_iinc hd rfl rfl hj rfl (fun i x hi hx => by obtain rfl : i = 8 := (by omega); cases hx; exact hc) kk
theorem a_il10 {x0 x1 x2 x3 x4 x5 x6 x7 x8 x9 : Option Value} {v : Int32} (hd : fIL y pc 10 pc2) (kk : fA y E Z k h nc ns pc2 (x0 :: x1 :: x2 :: x3 :: x4 :: x5 :: x6 :: x7 :: x8 :: x9 :: some (.int v) :: t) (.int v :: st)) : fA y E Z k h nc ns pc (x0 :: x1 :: x2 :: x3 :: x4 :: x5 :: x6 :: x7 :: x8 :: x9 :: some (.int v) :: t) st := a_il hd rfl kk
theorem a_al10 {x0 x1 x2 x3 x4 x5 x6 x7 x8 x9 : Option Value} {v : Nat} (hd : fAL y pc 10 pc2) (kk : fA y E Z k h nc ns pc2 (x0 :: x1 :: x2 :: x3 :: x4 :: x5 :: x6 :: x7 :: x8 :: x9 :: some (.ref v) :: t) (.ref v :: st)) : fA y E Z k h nc ns pc (x0 :: x1 :: x2 :: x3 :: x4 :: x5 :: x6 :: x7 :: x8 :: x9 :: some (.ref v) :: t) st := a_al hd rfl kk
theorem a_ll10 {x0 x1 x2 x3 x4 x5 x6 x7 x8 x9 : Option Value} {v : Int64} (hd : fLL y pc 10 pc2) (kk : fA y E Z k h nc ns pc2 (x0 :: x1 :: x2 :: x3 :: x4 :: x5 :: x6 :: x7 :: x8 :: x9 :: some (.long v) :: t) (.long v :: st)) : fA y E Z k h nc ns pc (x0 :: x1 :: x2 :: x3 :: x4 :: x5 :: x6 :: x7 :: x8 :: x9 :: some (.long v) :: t) st := a_ll hd rfl kk
theorem a_is10 {x0 x1 x2 x3 x4 x5 x6 x7 x8 x9 z : Option Value} {v : Int32} (hd : fIS y pc 10 pc2) (hj : 10 < y.2.2.1) (hc : c1 x9 = true) (kk : fA y E Z k h nc ns pc2 (x0 :: x1 :: x2 :: x3 :: x4 :: x5 :: x6 :: x7 :: x8 :: x9 :: some (.int v) :: t) st) : fA y E Z k h nc ns pc (x0 :: x1 :: x2 :: x3 :: x4 :: x5 :: x6 :: x7 :: x8 :: x9 :: z :: t) (.int v :: st) := a_is hd hj rfl (fun i x hi hx => by obtain rfl : i = 9 := (by omega); cases hx; exact hc) kk
theorem a_as10 {x0 x1 x2 x3 x4 x5 x6 x7 x8 x9 z : Option Value} {v : Nat} (hd : fAS y pc 10 pc2) (hj : 10 < y.2.2.1) (hc : c1 x9 = true) (kk : fA y E Z k h nc ns pc2 (x0 :: x1 :: x2 :: x3 :: x4 :: x5 :: x6 :: x7 :: x8 :: x9 :: some (.ref v) :: t) st) : fA y E Z k h nc ns pc (x0 :: x1 :: x2 :: x3 :: x4 :: x5 :: x6 :: x7 :: x8 :: x9 :: z :: t) (.ref v :: st) := a_as hd hj rfl (fun i x hi hx => by obtain rfl : i = 9 := (by omega); cases hx; exact hc) kk
theorem a_ns10 {x0 x1 x2 x3 x4 x5 x6 x7 x8 x9 z : Option Value} (hd : fAS y pc 10 pc2) (hj : 10 < y.2.2.1) (hc : c1 x9 = true) (kk : fA y E Z k h nc ns pc2 (x0 :: x1 :: x2 :: x3 :: x4 :: x5 :: x6 :: x7 :: x8 :: x9 :: some .null :: t) st) : fA y E Z k h nc ns pc (x0 :: x1 :: x2 :: x3 :: x4 :: x5 :: x6 :: x7 :: x8 :: x9 :: z :: t) (.null :: st) := a_ns hd hj rfl (fun i x hi hx => by obtain rfl : i = 9 := (by omega); cases hx; exact hc) kk
theorem a_nl10 {x0 x1 x2 x3 x4 x5 x6 x7 x8 x9 : Option Value} (hd : fAL y pc 10 pc2) (kk : fA y E Z k h nc ns pc2 (x0 :: x1 :: x2 :: x3 :: x4 :: x5 :: x6 :: x7 :: x8 :: x9 :: some .null :: t) (.null :: st)) : fA y E Z k h nc ns pc (x0 :: x1 :: x2 :: x3 :: x4 :: x5 :: x6 :: x7 :: x8 :: x9 :: some .null :: t) st := a_nl hd rfl kk
theorem a_lt10 {x0 x1 x2 x3 x4 x5 x6 x7 x8 x9 z z2 : Option Value} {v : Int64} (hd : fLS y pc 10 pc2) (hj : 10 + 1 < y.2.2.1) (hc : c1 x9 = true) (kk : fA y E Z k h nc ns pc2 (x0 :: x1 :: x2 :: x3 :: x4 :: x5 :: x6 :: x7 :: x8 :: x9 :: some (.long v) :: none :: t) st) : fA y E Z k h nc ns pc (x0 :: x1 :: x2 :: x3 :: x4 :: x5 :: x6 :: x7 :: x8 :: x9 :: z :: z2 :: t) (.long v :: st) := a_ls hd hj rfl (fun i x hi hx => by obtain rfl : i = 9 := (by omega); cases hx; exact hc) kk
theorem a_inc10 {x0 x1 x2 x3 x4 x5 x6 x7 x8 x9 : Option Value} {x : Int32} (hd : fD y pc (.iinc 10 1) 3 pc2) (hj : 10 < y.2.2.1) (hc : c1 x9 = true) (kk : fA y E Z k h nc ns pc2 (x0 :: x1 :: x2 :: x3 :: x4 :: x5 :: x6 :: x7 :: x8 :: x9 :: some (.int (x + 1)) :: t) st) : fA y E Z k h nc ns pc (x0 :: x1 :: x2 :: x3 :: x4 :: x5 :: x6 :: x7 :: x8 :: x9 :: some (.int x) :: t) st := a_iinc hd rfl rfl hj rfl (fun i x hi hx => by obtain rfl : i = 9 := (by omega); cases hx; exact hc) kk
theorem a_incm10 {x0 x1 x2 x3 x4 x5 x6 x7 x8 x9 : Option Value} {x : Int32} (hd : fD y pc (.iinc 10 (-1)) 3 pc2) (hj : 10 < y.2.2.1) (hc : c1 x9 = true) (kk : fA y E Z k h nc ns pc2 (x0 :: x1 :: x2 :: x3 :: x4 :: x5 :: x6 :: x7 :: x8 :: x9 :: some (.int (x + (-1))) :: t) st) : fA y E Z k h nc ns pc (x0 :: x1 :: x2 :: x3 :: x4 :: x5 :: x6 :: x7 :: x8 :: x9 :: some (.int x) :: t) st := a_iinc hd rfl rfl hj rfl (fun i x hi hx => by obtain rfl : i = 9 := (by omega); cases hx; exact hc) kk
theorem a_il11 {x0 x1 x2 x3 x4 x5 x6 x7 x8 x9 x10 : Option Value} {v : Int32} (hd : fIL y pc 11 pc2) (kk : fA y E Z k h nc ns pc2 (x0 :: x1 :: x2 :: x3 :: x4 :: x5 :: x6 :: x7 :: x8 :: x9 :: x10 :: some (.int v) :: t) (.int v :: st)) : fA y E Z k h nc ns pc (x0 :: x1 :: x2 :: x3 :: x4 :: x5 :: x6 :: x7 :: x8 :: x9 :: x10 :: some (.int v) :: t) st := a_il hd rfl kk
theorem a_al11 {x0 x1 x2 x3 x4 x5 x6 x7 x8 x9 x10 : Option Value} {v : Nat} (hd : fAL y pc 11 pc2) (kk : fA y E Z k h nc ns pc2 (x0 :: x1 :: x2 :: x3 :: x4 :: x5 :: x6 :: x7 :: x8 :: x9 :: x10 :: some (.ref v) :: t) (.ref v :: st)) : fA y E Z k h nc ns pc (x0 :: x1 :: x2 :: x3 :: x4 :: x5 :: x6 :: x7 :: x8 :: x9 :: x10 :: some (.ref v) :: t) st := a_al hd rfl kk
theorem a_ll11 {x0 x1 x2 x3 x4 x5 x6 x7 x8 x9 x10 : Option Value} {v : Int64} (hd : fLL y pc 11 pc2) (kk : fA y E Z k h nc ns pc2 (x0 :: x1 :: x2 :: x3 :: x4 :: x5 :: x6 :: x7 :: x8 :: x9 :: x10 :: some (.long v) :: t) (.long v :: st)) : fA y E Z k h nc ns pc (x0 :: x1 :: x2 :: x3 :: x4 :: x5 :: x6 :: x7 :: x8 :: x9 :: x10 :: some (.long v) :: t) st := a_ll hd rfl kk
theorem a_is11 {x0 x1 x2 x3 x4 x5 x6 x7 x8 x9 x10 z : Option Value} {v : Int32} (hd : fIS y pc 11 pc2) (hj : 11 < y.2.2.1) (hc : c1 x10 = true) (kk : fA y E Z k h nc ns pc2 (x0 :: x1 :: x2 :: x3 :: x4 :: x5 :: x6 :: x7 :: x8 :: x9 :: x10 :: some (.int v) :: t) st) : fA y E Z k h nc ns pc (x0 :: x1 :: x2 :: x3 :: x4 :: x5 :: x6 :: x7 :: x8 :: x9 :: x10 :: z :: t) (.int v :: st) := a_is hd hj rfl (fun i x hi hx => by obtain rfl : i = 10 := (by omega); cases hx; exact hc) kk
theorem a_as11 {x0 x1 x2 x3 x4 x5 x6 x7 x8 x9 x10 z : Option Value} {v : Nat} (hd : fAS y pc 11 pc2) (hj : 11 < y.2.2.1) (hc : c1 x10 = true) (kk : fA y E Z k h nc ns pc2 (x0 :: x1 :: x2 :: x3 :: x4 :: x5 :: x6 :: x7 :: x8 :: x9 :: x10 :: some (.ref v) :: t) st) : fA y E Z k h nc ns pc (x0 :: x1 :: x2 :: x3 :: x4 :: x5 :: x6 :: x7 :: x8 :: x9 :: x10 :: z :: t) (.ref v :: st) := a_as hd hj rfl (fun i x hi hx => by obtain rfl : i = 10 := (by omega); cases hx; exact hc) kk
theorem a_ns11 {x0 x1 x2 x3 x4 x5 x6 x7 x8 x9 x10 z : Option Value} (hd : fAS y pc 11 pc2) (hj : 11 < y.2.2.1) (hc : c1 x10 = true) (kk : fA y E Z k h nc ns pc2 (x0 :: x1 :: x2 :: x3 :: x4 :: x5 :: x6 :: x7 :: x8 :: x9 :: x10 :: some .null :: t) st) : fA y E Z k h nc ns pc (x0 :: x1 :: x2 :: x3 :: x4 :: x5 :: x6 :: x7 :: x8 :: x9 :: x10 :: z :: t) (.null :: st) := a_ns hd hj rfl (fun i x hi hx => by obtain rfl : i = 10 := (by omega); cases hx; exact hc) kk
theorem a_nl11 {x0 x1 x2 x3 x4 x5 x6 x7 x8 x9 x10 : Option Value} (hd : fAL y pc 11 pc2) (kk : fA y E Z k h nc ns pc2 (x0 :: x1 :: x2 :: x3 :: x4 :: x5 :: x6 :: x7 :: x8 :: x9 :: x10 :: some .null :: t) (.null :: st)) : fA y E Z k h nc ns pc (x0 :: x1 :: x2 :: x3 :: x4 :: x5 :: x6 :: x7 :: x8 :: x9 :: x10 :: some .null :: t) st := a_nl hd rfl kk
theorem a_lt11 {x0 x1 x2 x3 x4 x5 x6 x7 x8 x9 x10 z z2 : Option Value} {v : Int64} (hd : fLS y pc 11 pc2) (hj : 11 + 1 < y.2.2.1) (hc : c1 x10 = true) (kk : fA y E Z k h nc ns pc2 (x0 :: x1 :: x2 :: x3 :: x4 :: x5 :: x6 :: x7 :: x8 :: x9 :: x10 :: some (.long v) :: none :: t) st) : fA y E Z k h nc ns pc (x0 :: x1 :: x2 :: x3 :: x4 :: x5 :: x6 :: x7 :: x8 :: x9 :: x10 :: z :: z2 :: t) (.long v :: st) := a_ls hd hj rfl (fun i x hi hx => by obtain rfl : i = 10 := (by omega); cases hx; exact hc) kk
theorem a_inc11 {x0 x1 x2 x3 x4 x5 x6 x7 x8 x9 x10 : Option Value} {x : Int32} (hd : fD y pc (.iinc 11 1) 3 pc2) (hj : 11 < y.2.2.1) (hc : c1 x10 = true) (kk : fA y E Z k h nc ns pc2 (x0 :: x1 :: x2 :: x3 :: x4 :: x5 :: x6 :: x7 :: x8 :: x9 :: x10 :: some (.int (x + 1)) :: t) st) : fA y E Z k h nc ns pc (x0 :: x1 :: x2 :: x3 :: x4 :: x5 :: x6 :: x7 :: x8 :: x9 :: x10 :: some (.int x) :: t) st := a_iinc hd rfl rfl hj rfl (fun i x hi hx => by obtain rfl : i = 10 := (by omega); cases hx; exact hc) kk
theorem a_incm11 {x0 x1 x2 x3 x4 x5 x6 x7 x8 x9 x10 : Option Value} {x : Int32} (hd : fD y pc (.iinc 11 (-1)) 3 pc2) (hj : 11 < y.2.2.1) (hc : c1 x10 = true) (kk : fA y E Z k h nc ns pc2 (x0 :: x1 :: x2 :: x3 :: x4 :: x5 :: x6 :: x7 :: x8 :: x9 :: x10 :: some (.int (x + (-1))) :: t) st) : fA y E Z k h nc ns pc (x0 :: x1 :: x2 :: x3 :: x4 :: x5 :: x6 :: x7 :: x8 :: x9 :: x10 :: some (.int x) :: t) st := a_iinc hd rfl rfl hj rfl (fun i x hi hx => by obtain rfl : i = 10 := (by omega); cases hx; exact hc) kk
theorem a_il12 {x0 x1 x2 x3 x4 x5 x6 x7 x8 x9 x10 x11 : Option Value} {v : Int32} (hd : fIL y pc 12 pc2) (kk : fA y E Z k h nc ns pc2 (x0 :: x1 :: x2 :: x3 :: x4 :: x5 :: x6 :: x7 :: x8 :: x9 :: x10 :: x11 :: some (.int v) :: t) (.int v :: st)) : fA y E Z k h nc ns pc (x0 :: x1 :: x2 :: x3 :: x4 :: x5 :: x6 :: x7 :: x8 :: x9 :: x10 :: x11 :: some (.int v) :: t) st := a_il hd rfl kk
theorem a_al12 {x0 x1 x2 x3 x4 x5 x6 x7 x8 x9 x10 x11 : Option Value} {v : Nat} (hd : fAL y pc 12 pc2) (kk : fA y E Z k h nc ns pc2 (x0 :: x1 :: x2 :: x3 :: x4 :: x5 :: x6 :: x7 :: x8 :: x9 :: x10 :: x11 :: some (.ref v) :: t) (.ref v :: st)) : fA y E Z k h nc ns pc (x0 :: x1 :: x2 :: x3 :: x4 :: x5 :: x6 :: x7 :: x8 :: x9 :: x10 :: x11 :: some (.ref v) :: t) st := a_al hd rfl kk
theorem a_ll12 {x0 x1 x2 x3 x4 x5 x6 x7 x8 x9 x10 x11 : Option Value} {v : Int64} (hd : fLL y pc 12 pc2) (kk : fA y E Z k h nc ns pc2 (x0 :: x1 :: x2 :: x3 :: x4 :: x5 :: x6 :: x7 :: x8 :: x9 :: x10 :: x11 :: some (.long v) :: t) (.long v :: st)) : fA y E Z k h nc ns pc (x0 :: x1 :: x2 :: x3 :: x4 :: x5 :: x6 :: x7 :: x8 :: x9 :: x10 :: x11 :: some (.long v) :: t) st := a_ll hd rfl kk
theorem a_is12 {x0 x1 x2 x3 x4 x5 x6 x7 x8 x9 x10 x11 z : Option Value} {v : Int32} (hd : fIS y pc 12 pc2) (hj : 12 < y.2.2.1) (hc : c1 x11 = true) (kk : fA y E Z k h nc ns pc2 (x0 :: x1 :: x2 :: x3 :: x4 :: x5 :: x6 :: x7 :: x8 :: x9 :: x10 :: x11 :: some (.int v) :: t) st) : fA y E Z k h nc ns pc (x0 :: x1 :: x2 :: x3 :: x4 :: x5 :: x6 :: x7 :: x8 :: x9 :: x10 :: x11 :: z :: t) (.int v :: st) := a_is hd hj rfl (fun i x hi hx => by obtain rfl : i = 11 := (by omega); cases hx; exact hc) kk
theorem a_as12 {x0 x1 x2 x3 x4 x5 x6 x7 x8 x9 x10 x11 z : Option Value} {v : Nat} (hd : fAS y pc 12 pc2) (hj : 12 < y.2.2.1) (hc : c1 x11 = true) (kk : fA y E Z k h nc ns pc2 (x0 :: x1 :: x2 :: x3 :: x4 :: x5 :: x6 :: x7 :: x8 :: x9 :: x10 :: x11 :: some (.ref v) :: t) st) : fA y E Z k h nc ns pc (x0 :: x1 :: x2 :: x3 :: x4 :: x5 :: x6 :: x7 :: x8 :: x9 :: x10 :: x11 :: z :: t) (.ref v :: st) := a_as hd hj rfl (fun i x hi hx => by obtain rfl : i = 11 := (by omega); cases hx; exact hc) kk
theorem a_ns12 {x0 x1 x2 x3 x4 x5 x6 x7 x8 x9 x10 x11 z : Option Value} (hd : fAS y pc 12 pc2) (hj : 12 < y.2.2.1) (hc : c1 x11 = true) (kk : fA y E Z k h nc ns pc2 (x0 :: x1 :: x2 :: x3 :: x4 :: x5 :: x6 :: x7 :: x8 :: x9 :: x10 :: x11 :: some .null :: t) st) : fA y E Z k h nc ns pc (x0 :: x1 :: x2 :: x3 :: x4 :: x5 :: x6 :: x7 :: x8 :: x9 :: x10 :: x11 :: z :: t) (.null :: st) := a_ns hd hj rfl (fun i x hi hx => by obtain rfl : i = 11 := (by omega); cases hx; exact hc) kk
theorem a_nl12 {x0 x1 x2 x3 x4 x5 x6 x7 x8 x9 x10 x11 : Option Value} (hd : fAL y pc 12 pc2) (kk : fA y E Z k h nc ns pc2 (x0 :: x1 :: x2 :: x3 :: x4 :: x5 :: x6 :: x7 :: x8 :: x9 :: x10 :: x11 :: some .null :: t) (.null :: st)) : fA y E Z k h nc ns pc (x0 :: x1 :: x2 :: x3 :: x4 :: x5 :: x6 :: x7 :: x8 :: x9 :: x10 :: x11 :: some .null :: t) st := a_nl hd rfl kk
theorem a_lt12 {x0 x1 x2 x3 x4 x5 x6 x7 x8 x9 x10 x11 z z2 : Option Value} {v : Int64} (hd : fLS y pc 12 pc2) (hj : 12 + 1 < y.2.2.1) (hc : c1 x11 = true) (kk : fA y E Z k h nc ns pc2 (x0 :: x1 :: x2 :: x3 :: x4 :: x5 :: x6 :: x7 :: x8 :: x9 :: x10 :: x11 :: some (.long v) :: none :: t) st) : fA y E Z k h nc ns pc (x0 :: x1 :: x2 :: x3 :: x4 :: x5 :: x6 :: x7 :: x8 :: x9 :: x10 :: x11 :: z :: z2 :: t) (.long v :: st) := a_ls hd hj rfl (fun i x hi hx => by obtain rfl : i = 11 := (by omega); cases hx; exact hc) kk
theorem a_inc12 {x0 x1 x2 x3 x4 x5 x6 x7 x8 x9 x10 x11 : Option Value} {x : Int32} (hd : fD y pc (.iinc 12 1) 3 pc2) (hj : 12 < y.2.2.1) (hc : c1 x11 = true) (kk : fA y E Z k h nc ns pc2 (x0 :: x1 :: x2 :: x3 :: x4 :: x5 :: x6 :: x7 :: x8 :: x9 :: x10 :: x11 :: some (.int (x + 1)) :: t) st) : fA y E Z k h nc ns pc (x0 :: x1 :: x2 :: x3 :: x4 :: x5 :: x6 :: x7 :: x8 :: x9 :: x10 :: x11 :: some (.int x) :: t) st := a_iinc hd rfl rfl hj rfl (fun i x hi hx => by obtain rfl : i = 11 := (by omega); cases hx; exact hc) kk
theorem a_incm12 {x0 x1 x2 x3 x4 x5 x6 x7 x8 x9 x10 x11 : Option Value} {x : Int32} (hd : fD y pc (.iinc 12 (-1)) 3 pc2) (hj : 12 < y.2.2.1) (hc : c1 x11 = true) (kk : fA y E Z k h nc ns pc2 (x0 :: x1 :: x2 :: x3 :: x4 :: x5 :: x6 :: x7 :: x8 :: x9 :: x10 :: x11 :: some (.int (x + (-1))) :: t) st) : fA y E Z k h nc ns pc (x0 :: x1 :: x2 :: x3 :: x4 :: x5 :: x6 :: x7 :: x8 :: x9 :: x10 :: x11 :: some (.int x) :: t) st := a_iinc hd rfl rfl hj rfl (fun i x hi hx => by obtain rfl : i = 11 := (by omega); cases hx; exact hc) kk
theorem a_il13 {x0 x1 x2 x3 x4 x5 x6 x7 x8 x9 x10 x11 x12 : Option Value} {v : Int32} (hd : fIL y pc 13 pc2) (kk : fA y E Z k h nc ns pc2 (x0 :: x1 :: x2 :: x3 :: x4 :: x5 :: x6 :: x7 :: x8 :: x9 :: x10 :: x11 :: x12 :: some (.int v) :: t) (.int v :: st)) : fA y E Z k h nc ns pc (x0 :: x1 :: x2 :: x3 :: x4 :: x5 :: x6 :: x7 :: x8 :: x9 :: x10 :: x11 :: x12 :: some (.int v) :: t) st := a_il hd rfl kk
theorem a_al13 {x0 x1 x2 x3 x4 x5 x6 x7 x8 x9 x10 x11 x12 : Option Value} {v : Nat} (hd : fAL y pc 13 pc2) (kk : fA y E Z k h nc ns pc2 (x0 :: x1 :: x2 :: x3 :: x4 :: x5 :: x6 :: x7 :: x8 :: x9 :: x10 :: x11 :: x12 :: some (.ref v) :: t) (.ref v :: st)) : fA y E Z k h nc ns pc (x0 :: x1 :: x2 :: x3 :: x4 :: x5 :: x6 :: x7 :: x8 :: x9 :: x10 :: x11 :: x12 :: some (.ref v) :: t) st := a_al hd rfl kk
theorem a_ll13 {x0 x1 x2 x3 x4 x5 x6 x7 x8 x9 x10 x11 x12 : Option Value} {v : Int64} (hd : fLL y pc 13 pc2) (kk : fA y E Z k h nc ns pc2 (x0 :: x1 :: x2 :: x3 :: x4 :: x5 :: x6 :: x7 :: x8 :: x9 :: x10 :: x11 :: x12 :: some (.long v) :: t) (.long v :: st)) : fA y E Z k h nc ns pc (x0 :: x1 :: x2 :: x3 :: x4 :: x5 :: x6 :: x7 :: x8 :: x9 :: x10 :: x11 :: x12 :: some (.long v) :: t) st := a_ll hd rfl kk
theorem a_is13 {x0 x1 x2 x3 x4 x5 x6 x7 x8 x9 x10 x11 x12 z : Option Value} {v : Int32} (hd : fIS y pc 13 pc2) (hj : 13 < y.2.2.1) (hc : c1 x12 = true) (kk : fA y E Z k h nc ns pc2 (x0 :: x1 :: x2 :: x3 :: x4 :: x5 :: x6 :: x7 :: x8 :: x9 :: x10 :: x11 :: x12 :: some (.int v) :: t) st) : fA y E Z k h nc ns pc (x0 :: x1 :: x2 :: x3 :: x4 :: x5 :: x6 :: x7 :: x8 :: x9 :: x10 :: x11 :: x12 :: z :: t) (.int v :: st) := a_is hd hj rfl (fun i x hi hx => by obtain rfl : i = 12 := (by omega); cases hx; exact hc) kk
theorem a_as13 {x0 x1 x2 x3 x4 x5 x6 x7 x8 x9 x10 x11 x12 z : Option Value} {v : Nat} (hd : fAS y pc 13 pc2) (hj : 13 < y.2.2.1) (hc : c1 x12 = true) (kk : fA y E Z k h nc ns pc2 (x0 :: x1 :: x2 :: x3 :: x4 :: x5 :: x6 :: x7 :: x8 :: x9 :: x10 :: x11 :: x12 :: some (.ref v) :: t) st) : fA y E Z k h nc ns pc (x0 :: x1 :: x2 :: x3 :: x4 :: x5 :: x6 :: x7 :: x8 :: x9 :: x10 :: x11 :: x12 :: z :: t) (.ref v :: st) := a_as hd hj rfl (fun i x hi hx => by obtain rfl : i = 12 := (by omega); cases hx; exact hc) kk
theorem a_ns13 {x0 x1 x2 x3 x4 x5 x6 x7 x8 x9 x10 x11 x12 z : Option Value} (hd : fAS y pc 13 pc2) (hj : 13 < y.2.2.1) (hc : c1 x12 = true) (kk : fA y E Z k h nc ns pc2 (x0 :: x1 :: x2 :: x3 :: x4 :: x5 :: x6 :: x7 :: x8 :: x9 :: x10 :: x11 :: x12 :: some .null :: t) st) : fA y E Z k h nc ns pc (x0 :: x1 :: x2 :: x3 :: x4 :: x5 :: x6 :: x7 :: x8 :: x9 :: x10 :: x11 :: x12 :: z :: t) (.null :: st) := a_ns hd hj rfl (fun i x hi hx => by obtain rfl : i = 12 := (by omega); cases hx; exact hc) kk
theorem a_nl13 {x0 x1 x2 x3 x4 x5 x6 x7 x8 x9 x10 x11 x12 : Option Value} (hd : fAL y pc 13 pc2) (kk : fA y E Z k h nc ns pc2 (x0 :: x1 :: x2 :: x3 :: x4 :: x5 :: x6 :: x7 :: x8 :: x9 :: x10 :: x11 :: x12 :: some .null :: t) (.null :: st)) : fA y E Z k h nc ns pc (x0 :: x1 :: x2 :: x3 :: x4 :: x5 :: x6 :: x7 :: x8 :: x9 :: x10 :: x11 :: x12 :: some .null :: t) st := a_nl hd rfl kk
theorem a_lt13 {x0 x1 x2 x3 x4 x5 x6 x7 x8 x9 x10 x11 x12 z z2 : Option Value} {v : Int64} (hd : fLS y pc 13 pc2) (hj : 13 + 1 < y.2.2.1) (hc : c1 x12 = true) (kk : fA y E Z k h nc ns pc2 (x0 :: x1 :: x2 :: x3 :: x4 :: x5 :: x6 :: x7 :: x8 :: x9 :: x10 :: x11 :: x12 :: some (.long v) :: none :: t) st) : fA y E Z k h nc ns pc (x0 :: x1 :: x2 :: x3 :: x4 :: x5 :: x6 :: x7 :: x8 :: x9 :: x10 :: x11 :: x12 :: z :: z2 :: t) (.long v :: st) := a_ls hd hj rfl (fun i x hi hx => by obtain rfl : i = 12 := (by omega); cases hx; exact hc) kk
theorem a_inc13 {x0 x1 x2 x3 x4 x5 x6 x7 x8 x9 x10 x11 x12 : Option Value} {x : Int32} (hd : fD y pc (.iinc 13 1) 3 pc2) (hj : 13 < y.2.2.1) (hc : c1 x12 = true) (kk : fA y E Z k h nc ns pc2 (x0 :: x1 :: x2 :: x3 :: x4 :: x5 :: x6 :: x7 :: x8 :: x9 :: x10 :: x11 :: x12 :: some (.int (x + 1)) :: t) st) : fA y E Z k h nc ns pc (x0 :: x1 :: x2 :: x3 :: x4 :: x5 :: x6 :: x7 :: x8 :: x9 :: x10 :: x11 :: x12 :: some (.int x) :: t) st := a_iinc hd rfl rfl hj rfl (fun i x hi hx => by obtain rfl : i = 12 := (by omega); cases hx; exact hc) kk
theorem a_incm13 {x0 x1 x2 x3 x4 x5 x6 x7 x8 x9 x10 x11 x12 : Option Value} {x : Int32} (hd : fD y pc (.iinc 13 (-1)) 3 pc2) (hj : 13 < y.2.2.1) (hc : c1 x12 = true) (kk : fA y E Z k h nc ns pc2 (x0 :: x1 :: x2 :: x3 :: x4 :: x5 :: x6 :: x7 :: x8 :: x9 :: x10 :: x11 :: x12 :: some (.int (x + (-1))) :: t) st) : fA y E Z k h nc ns pc (x0 :: x1 :: x2 :: x3 :: x4 :: x5 :: x6 :: x7 :: x8 :: x9 :: x10 :: x11 :: x12 :: some (.int x) :: t) st := a_iinc hd rfl rfl hj rfl (fun i x hi hx => by obtain rfl : i = 12 := (by omega); cases hx; exact hc) kk
theorem a_pfi0 {z : Value} {tl : List Value} {idx ci q : Nat} {v : Int32} (hd : fD y pc (.putfield idx) 3 pc2) (hf : fPL y.1.cls idx ci 0 .int) {L : lT} (hq : h q = .inr (ci, z :: tl)) (kk : fA y E Z k (va_up h q (.inr (ci, .int v :: tl))) nc ns pc2 L st) : fA y E Z k h nc ns pc L (.int v :: .ref q :: st) := a_pf hd hf hq rfl rfl (by simp) kk
theorem a_pfl0 {z : Value} {tl : List Value} {idx ci q : Nat} {v : Int64} (hd : fD y pc (.putfield idx) 3 pc2) (hf : fPL y.1.cls idx ci 0 .long) {L : lT} (hq : h q = .inr (ci, z :: tl)) (kk : fA y E Z k (va_up h q (.inr (ci, .long v :: tl))) nc ns pc2 L st) : fA y E Z k h nc ns pc L (.long v :: .ref q :: st) := a_pf hd hf hq rfl rfl (by simp) kk
theorem a_pF0 {z : Value} {tl : List Value} {idx ci q v : Nat} {ty : FieldType} (hd : fD y pc (.putfield idx) 3 pc2) (hf : fPF y.1.cls idx ci 0 ty) (hn9 : y.1.name = "<init>") (hty : (∃ c, ty = .object c) ∨ ∃ c, ty = .array c) {L : lT} (hq : h q = .inr (ci, z :: tl)) (kk : fA y E Z k (va_up h q (.inr (ci, .ref v :: tl))) nc ns pc2 L st) : fA y E Z k h nc ns pc L (.ref v :: .ref q :: st) := a_pF hd hf hn9 hq (by rcases hty with ⟨c, rfl⟩ | ⟨c, rfl⟩ <;> rfl) (by rcases hty with ⟨c, rfl⟩ | ⟨c, rfl⟩ <;> rfl) (by simp) kk
theorem a_pfi1 {x0 z : Value} {tl : List Value} {idx ci q : Nat} {v : Int32} (hd : fD y pc (.putfield idx) 3 pc2) (hf : fPL y.1.cls idx ci 1 .int) {L : lT} (hq : h q = .inr (ci, x0 :: z :: tl)) (kk : fA y E Z k (va_up h q (.inr (ci, x0 :: .int v :: tl))) nc ns pc2 L st) : fA y E Z k h nc ns pc L (.int v :: .ref q :: st) := a_pf hd hf hq rfl rfl (by simp) kk
theorem a_pfl1 {x0 z : Value} {tl : List Value} {idx ci q : Nat} {v : Int64} (hd : fD y pc (.putfield idx) 3 pc2) (hf : fPL y.1.cls idx ci 1 .long) {L : lT} (hq : h q = .inr (ci, x0 :: z :: tl)) (kk : fA y E Z k (va_up h q (.inr (ci, x0 :: .long v :: tl))) nc ns pc2 L st) : fA y E Z k h nc ns pc L (.long v :: .ref q :: st) := a_pf hd hf hq rfl rfl (by simp) kk
theorem a_pF1 {x0 z : Value} {tl : List Value} {idx ci q v : Nat} {ty : FieldType} (hd : fD y pc (.putfield idx) 3 pc2) (hf : fPF y.1.cls idx ci 1 ty) (hn9 : y.1.name = "<init>") (hty : (∃ c, ty = .object c) ∨ ∃ c, ty = .array c) {L : lT} (hq : h q = .inr (ci, x0 :: z :: tl)) (kk : fA y E Z k (va_up h q (.inr (ci, x0 :: .ref v :: tl))) nc ns pc2 L st) : fA y E Z k h nc ns pc L (.ref v :: .ref q :: st) := a_pF hd hf hn9 hq (by rcases hty with ⟨c, rfl⟩ | ⟨c, rfl⟩ <;> rfl) (by rcases hty with ⟨c, rfl⟩ | ⟨c, rfl⟩ <;> rfl) (by simp) kk
theorem a_pfi2 {x0 x1 z : Value} {tl : List Value} {idx ci q : Nat} {v : Int32} (hd : fD y pc (.putfield idx) 3 pc2) (hf : fPL y.1.cls idx ci 2 .int) {L : lT} (hq : h q = .inr (ci, x0 :: x1 :: z :: tl)) (kk : fA y E Z k (va_up h q (.inr (ci, x0 :: x1 :: .int v :: tl))) nc ns pc2 L st) : fA y E Z k h nc ns pc L (.int v :: .ref q :: st) := a_pf hd hf hq rfl rfl (by simp) kk
theorem a_pfl2 {x0 x1 z : Value} {tl : List Value} {idx ci q : Nat} {v : Int64} (hd : fD y pc (.putfield idx) 3 pc2) (hf : fPL y.1.cls idx ci 2 .long) {L : lT} (hq : h q = .inr (ci, x0 :: x1 :: z :: tl)) (kk : fA y E Z k (va_up h q (.inr (ci, x0 :: x1 :: .long v :: tl))) nc ns pc2 L st) : fA y E Z k h nc ns pc L (.long v :: .ref q :: st) := a_pf hd hf hq rfl rfl (by simp) kk
theorem a_pF2 {x0 x1 z : Value} {tl : List Value} {idx ci q v : Nat} {ty : FieldType} (hd : fD y pc (.putfield idx) 3 pc2) (hf : fPF y.1.cls idx ci 2 ty) (hn9 : y.1.name = "<init>") (hty : (∃ c, ty = .object c) ∨ ∃ c, ty = .array c) {L : lT} (hq : h q = .inr (ci, x0 :: x1 :: z :: tl)) (kk : fA y E Z k (va_up h q (.inr (ci, x0 :: x1 :: .ref v :: tl))) nc ns pc2 L st) : fA y E Z k h nc ns pc L (.ref v :: .ref q :: st) := a_pF hd hf hn9 hq (by rcases hty with ⟨c, rfl⟩ | ⟨c, rfl⟩ <;> rfl) (by rcases hty with ⟨c, rfl⟩ | ⟨c, rfl⟩ <;> rfl) (by simp) kk
theorem a_pfi3 {x0 x1 x2 z : Value} {tl : List Value} {idx ci q : Nat} {v : Int32} (hd : fD y pc (.putfield idx) 3 pc2) (hf : fPL y.1.cls idx ci 3 .int) {L : lT} (hq : h q = .inr (ci, x0 :: x1 :: x2 :: z :: tl)) (kk : fA y E Z k (va_up h q (.inr (ci, x0 :: x1 :: x2 :: .int v :: tl))) nc ns pc2 L st) : fA y E Z k h nc ns pc L (.int v :: .ref q :: st) := a_pf hd hf hq rfl rfl (by simp) kk
theorem a_pfl3 {x0 x1 x2 z : Value} {tl : List Value} {idx ci q : Nat} {v : Int64} (hd : fD y pc (.putfield idx) 3 pc2) (hf : fPL y.1.cls idx ci 3 .long) {L : lT} (hq : h q = .inr (ci, x0 :: x1 :: x2 :: z :: tl)) (kk : fA y E Z k (va_up h q (.inr (ci, x0 :: x1 :: x2 :: .long v :: tl))) nc ns pc2 L st) : fA y E Z k h nc ns pc L (.long v :: .ref q :: st) := a_pf hd hf hq rfl rfl (by simp) kk
theorem a_pF3 {x0 x1 x2 z : Value} {tl : List Value} {idx ci q v : Nat} {ty : FieldType} (hd : fD y pc (.putfield idx) 3 pc2) (hf : fPF y.1.cls idx ci 3 ty) (hn9 : y.1.name = "<init>") (hty : (∃ c, ty = .object c) ∨ ∃ c, ty = .array c) {L : lT} (hq : h q = .inr (ci, x0 :: x1 :: x2 :: z :: tl)) (kk : fA y E Z k (va_up h q (.inr (ci, x0 :: x1 :: x2 :: .ref v :: tl))) nc ns pc2 L st) : fA y E Z k h nc ns pc L (.ref v :: .ref q :: st) := a_pF hd hf hn9 hq (by rcases hty with ⟨c, rfl⟩ | ⟨c, rfl⟩ <;> rfl) (by rcases hty with ⟨c, rfl⟩ | ⟨c, rfl⟩ <;> rfl) (by simp) kk
theorem a_pfi4 {x0 x1 x2 x3 z : Value} {tl : List Value} {idx ci q : Nat} {v : Int32} (hd : fD y pc (.putfield idx) 3 pc2) (hf : fPL y.1.cls idx ci 4 .int) {L : lT} (hq : h q = .inr (ci, x0 :: x1 :: x2 :: x3 :: z :: tl)) (kk : fA y E Z k (va_up h q (.inr (ci, x0 :: x1 :: x2 :: x3 :: .int v :: tl))) nc ns pc2 L st) : fA y E Z k h nc ns pc L (.int v :: .ref q :: st) := a_pf hd hf hq rfl rfl (by simp) kk
theorem a_pfl4 {x0 x1 x2 x3 z : Value} {tl : List Value} {idx ci q : Nat} {v : Int64} (hd : fD y pc (.putfield idx) 3 pc2) (hf : fPL y.1.cls idx ci 4 .long) {L : lT} (hq : h q = .inr (ci, x0 :: x1 :: x2 :: x3 :: z :: tl)) (kk : fA y E Z k (va_up h q (.inr (ci, x0 :: x1 :: x2 :: x3 :: .long v :: tl))) nc ns pc2 L st) : fA y E Z k h nc ns pc L (.long v :: .ref q :: st) := a_pf hd hf hq rfl rfl (by simp) kk
theorem a_pF4 {x0 x1 x2 x3 z : Value} {tl : List Value} {idx ci q v : Nat} {ty : FieldType} (hd : fD y pc (.putfield idx) 3 pc2) (hf : fPF y.1.cls idx ci 4 ty) (hn9 : y.1.name = "<init>") (hty : (∃ c, ty = .object c) ∨ ∃ c, ty = .array c) {L : lT} (hq : h q = .inr (ci, x0 :: x1 :: x2 :: x3 :: z :: tl)) (kk : fA y E Z k (va_up h q (.inr (ci, x0 :: x1 :: x2 :: x3 :: .ref v :: tl))) nc ns pc2 L st) : fA y E Z k h nc ns pc L (.ref v :: .ref q :: st) := a_pF hd hf hn9 hq (by rcases hty with ⟨c, rfl⟩ | ⟨c, rfl⟩ <;> rfl) (by rcases hty with ⟨c, rfl⟩ | ⟨c, rfl⟩ <;> rfl) (by simp) kk
theorem a_pfi5 {x0 x1 x2 x3 x4 z : Value} {tl : List Value} {idx ci q : Nat} {v : Int32} (hd : fD y pc (.putfield idx) 3 pc2) (hf : fPL y.1.cls idx ci 5 .int) {L : lT} (hq : h q = .inr (ci, x0 :: x1 :: x2 :: x3 :: x4 :: z :: tl)) (kk : fA y E Z k (va_up h q (.inr (ci, x0 :: x1 :: x2 :: x3 :: x4 :: .int v :: tl))) nc ns pc2 L st) : fA y E Z k h nc ns pc L (.int v :: .ref q :: st) := a_pf hd hf hq rfl rfl (by simp) kk
theorem a_pfl5 {x0 x1 x2 x3 x4 z : Value} {tl : List Value} {idx ci q : Nat} {v : Int64} (hd : fD y pc (.putfield idx) 3 pc2) (hf : fPL y.1.cls idx ci 5 .long) {L : lT} (hq : h q = .inr (ci, x0 :: x1 :: x2 :: x3 :: x4 :: z :: tl)) (kk : fA y E Z k (va_up h q (.inr (ci, x0 :: x1 :: x2 :: x3 :: x4 :: .long v :: tl))) nc ns pc2 L st) : fA y E Z k h nc ns pc L (.long v :: .ref q :: st) := a_pf hd hf hq rfl rfl (by simp) kk
theorem a_pF5 {x0 x1 x2 x3 x4 z : Value} {tl : List Value} {idx ci q v : Nat} {ty : FieldType} (hd : fD y pc (.putfield idx) 3 pc2) (hf : fPF y.1.cls idx ci 5 ty) (hn9 : y.1.name = "<init>") (hty : (∃ c, ty = .object c) ∨ ∃ c, ty = .array c) {L : lT} (hq : h q = .inr (ci, x0 :: x1 :: x2 :: x3 :: x4 :: z :: tl)) (kk : fA y E Z k (va_up h q (.inr (ci, x0 :: x1 :: x2 :: x3 :: x4 :: .ref v :: tl))) nc ns pc2 L st) : fA y E Z k h nc ns pc L (.ref v :: .ref q :: st) := a_pF hd hf hn9 hq (by rcases hty with ⟨c, rfl⟩ | ⟨c, rfl⟩ <;> rfl) (by rcases hty with ⟨c, rfl⟩ | ⟨c, rfl⟩ <;> rfl) (by simp) kk
theorem a_pfi6 {x0 x1 x2 x3 x4 x5 z : Value} {tl : List Value} {idx ci q : Nat} {v : Int32} (hd : fD y pc (.putfield idx) 3 pc2) (hf : fPL y.1.cls idx ci 6 .int) {L : lT} (hq : h q = .inr (ci, x0 :: x1 :: x2 :: x3 :: x4 :: x5 :: z :: tl)) (kk : fA y E Z k (va_up h q (.inr (ci, x0 :: x1 :: x2 :: x3 :: x4 :: x5 :: .int v :: tl))) nc ns pc2 L st) : fA y E Z k h nc ns pc L (.int v :: .ref q :: st) := a_pf hd hf hq rfl rfl (by simp) kk
theorem a_pfl6 {x0 x1 x2 x3 x4 x5 z : Value} {tl : List Value} {idx ci q : Nat} {v : Int64} (hd : fD y pc (.putfield idx) 3 pc2) (hf : fPL y.1.cls idx ci 6 .long) {L : lT} (hq : h q = .inr (ci, x0 :: x1 :: x2 :: x3 :: x4 :: x5 :: z :: tl)) (kk : fA y E Z k (va_up h q (.inr (ci, x0 :: x1 :: x2 :: x3 :: x4 :: x5 :: .long v :: tl))) nc ns pc2 L st) : fA y E Z k h nc ns pc L (.long v :: .ref q :: st) := a_pf hd hf hq rfl rfl (by simp) kk
theorem a_pF6 {x0 x1 x2 x3 x4 x5 z : Value} {tl : List Value} {idx ci q v : Nat} {ty : FieldType} (hd : fD y pc (.putfield idx) 3 pc2) (hf : fPF y.1.cls idx ci 6 ty) (hn9 : y.1.name = "<init>") (hty : (∃ c, ty = .object c) ∨ ∃ c, ty = .array c) {L : lT} (hq : h q = .inr (ci, x0 :: x1 :: x2 :: x3 :: x4 :: x5 :: z :: tl)) (kk : fA y E Z k (va_up h q (.inr (ci, x0 :: x1 :: x2 :: x3 :: x4 :: x5 :: .ref v :: tl))) nc ns pc2 L st) : fA y E Z k h nc ns pc L (.ref v :: .ref q :: st) := a_pF hd hf hn9 hq (by rcases hty with ⟨c, rfl⟩ | ⟨c, rfl⟩ <;> rfl) (by rcases hty with ⟨c, rfl⟩ | ⟨c, rfl⟩ <;> rfl) (by simp) kk
theorem a_pfi7 {x0 x1 x2 x3 x4 x5 x6 z : Value} {tl : List Value} {idx ci q : Nat} {v : Int32} (hd : fD y pc (.putfield idx) 3 pc2) (hf : fPL y.1.cls idx ci 7 .int) {L : lT} (hq : h q = .inr (ci, x0 :: x1 :: x2 :: x3 :: x4 :: x5 :: x6 :: z :: tl)) (kk : fA y E Z k (va_up h q (.inr (ci, x0 :: x1 :: x2 :: x3 :: x4 :: x5 :: x6 :: .int v :: tl))) nc ns pc2 L st) : fA y E Z k h nc ns pc L (.int v :: .ref q :: st) := a_pf hd hf hq rfl rfl (by simp) kk
theorem a_pfl7 {x0 x1 x2 x3 x4 x5 x6 z : Value} {tl : List Value} {idx ci q : Nat} {v : Int64} (hd : fD y pc (.putfield idx) 3 pc2) (hf : fPL y.1.cls idx ci 7 .long) {L : lT} (hq : h q = .inr (ci, x0 :: x1 :: x2 :: x3 :: x4 :: x5 :: x6 :: z :: tl)) (kk : fA y E Z k (va_up h q (.inr (ci, x0 :: x1 :: x2 :: x3 :: x4 :: x5 :: x6 :: .long v :: tl))) nc ns pc2 L st) : fA y E Z k h nc ns pc L (.long v :: .ref q :: st) := a_pf hd hf hq rfl rfl (by simp) kk
theorem a_pF7 {x0 x1 x2 x3 x4 x5 x6 z : Value} {tl : List Value} {idx ci q v : Nat} {ty : FieldType} (hd : fD y pc (.putfield idx) 3 pc2) (hf : fPF y.1.cls idx ci 7 ty) (hn9 : y.1.name = "<init>") (hty : (∃ c, ty = .object c) ∨ ∃ c, ty = .array c) {L : lT} (hq : h q = .inr (ci, x0 :: x1 :: x2 :: x3 :: x4 :: x5 :: x6 :: z :: tl)) (kk : fA y E Z k (va_up h q (.inr (ci, x0 :: x1 :: x2 :: x3 :: x4 :: x5 :: x6 :: .ref v :: tl))) nc ns pc2 L st) : fA y E Z k h nc ns pc L (.ref v :: .ref q :: st) := a_pF hd hf hn9 hq (by rcases hty with ⟨c, rfl⟩ | ⟨c, rfl⟩ <;> rfl) (by rcases hty with ⟨c, rfl⟩ | ⟨c, rfl⟩ <;> rfl) (by simp) kk
theorem a_pfi8 {x0 x1 x2 x3 x4 x5 x6 x7 z : Value} {tl : List Value} {idx ci q : Nat} {v : Int32} (hd : fD y pc (.putfield idx) 3 pc2) (hf : fPL y.1.cls idx ci 8 .int) {L : lT} (hq : h q = .inr (ci, x0 :: x1 :: x2 :: x3 :: x4 :: x5 :: x6 :: x7 :: z :: tl)) (kk : fA y E Z k (va_up h q (.inr (ci, x0 :: x1 :: x2 :: x3 :: x4 :: x5 :: x6 :: x7 :: .int v :: tl))) nc ns pc2 L st) : fA y E Z k h nc ns pc L (.int v :: .ref q :: st) := a_pf hd hf hq rfl rfl (by simp) kk
theorem a_pfl8 {x0 x1 x2 x3 x4 x5 x6 x7 z : Value} {tl : List Value} {idx ci q : Nat} {v : Int64} (hd : fD y pc (.putfield idx) 3 pc2) (hf : fPL y.1.cls idx ci 8 .long) {L : lT} (hq : h q = .inr (ci, x0 :: x1 :: x2 :: x3 :: x4 :: x5 :: x6 :: x7 :: z :: tl)) (kk : fA y E Z k (va_up h q (.inr (ci, x0 :: x1 :: x2 :: x3 :: x4 :: x5 :: x6 :: x7 :: .long v :: tl))) nc ns pc2 L st) : fA y E Z k h nc ns pc L (.long v :: .ref q :: st) := a_pf hd hf hq rfl rfl (by simp) kk
theorem a_pF8 {x0 x1 x2 x3 x4 x5 x6 x7 z : Value} {tl : List Value} {idx ci q v : Nat} {ty : FieldType} (hd : fD y pc (.putfield idx) 3 pc2) (hf : fPF y.1.cls idx ci 8 ty) (hn9 : y.1.name = "<init>") (hty : (∃ c, ty = .object c) ∨ ∃ c, ty = .array c) {L : lT} (hq : h q = .inr (ci, x0 :: x1 :: x2 :: x3 :: x4 :: x5 :: x6 :: x7 :: z :: tl)) (kk : fA y E Z k (va_up h q (.inr (ci, x0 :: x1 :: x2 :: x3 :: x4 :: x5 :: x6 :: x7 :: .ref v :: tl))) nc ns pc2 L st) : fA y E Z k h nc ns pc L (.ref v :: .ref q :: st) := a_pF hd hf hn9 hq (by rcases hty with ⟨c, rfl⟩ | ⟨c, rfl⟩ <;> rfl) (by rcases hty with ⟨c, rfl⟩ | ⟨c, rfl⟩ <;> rfl) (by simp) kk
theorem a_pfi9 {x0 x1 x2 x3 x4 x5 x6 x7 x8 z : Value} {tl : List Value} {idx ci q : Nat} {v : Int32} (hd : fD y pc (.putfield idx) 3 pc2) (hf : fPL y.1.cls idx ci 9 .int) {L : lT} (hq : h q = .inr (ci, x0 :: x1 :: x2 :: x3 :: x4 :: x5 :: x6 :: x7 :: x8 :: z :: tl)) (kk : fA y E Z k (va_up h q (.inr (ci, x0 :: x1 :: x2 :: x3 :: x4 :: x5 :: x6 :: x7 :: x8 :: .int v :: tl))) nc ns pc2 L st) : fA y E Z k h nc ns pc L (.int v :: .ref q :: st) := a_pf hd hf hq rfl rfl (by simp) kk
theorem a_pfl9 {x0 x1 x2 x3 x4 x5 x6 x7 x8 z : Value} {tl : List Value} {idx ci q : Nat} {v : Int64} (hd : fD y pc (.putfield idx) 3 pc2) (hf : fPL y.1.cls idx ci 9 .long) {L : lT} (hq : h q = .inr (ci, x0 :: x1 :: x2 :: x3 :: x4 :: x5 :: x6 :: x7 :: x8 :: z :: tl)) (kk : fA y E Z k (va_up h q (.inr (ci, x0 :: x1 :: x2 :: x3 :: x4 :: x5 :: x6 :: x7 :: x8 :: .long v :: tl))) nc ns pc2 L st) : fA y E Z k h nc ns pc L (.long v :: .ref q :: st) := a_pf hd hf hq rfl rfl (by simp) kk
theorem a_pF9 {x0 x1 x2 x3 x4 x5 x6 x7 x8 z : Value} {tl : List Value} {idx ci q v : Nat} {ty : FieldType} (hd : fD y pc (.putfield idx) 3 pc2) (hf : fPF y.1.cls idx ci 9 ty) (hn9 : y.1.name = "<init>") (hty : (∃ c, ty = .object c) ∨ ∃ c, ty = .array c) {L : lT} (hq : h q = .inr (ci, x0 :: x1 :: x2 :: x3 :: x4 :: x5 :: x6 :: x7 :: x8 :: z :: tl)) (kk : fA y E Z k (va_up h q (.inr (ci, x0 :: x1 :: x2 :: x3 :: x4 :: x5 :: x6 :: x7 :: x8 :: .ref v :: tl))) nc ns pc2 L st) : fA y E Z k h nc ns pc L (.ref v :: .ref q :: st) := a_pF hd hf hn9 hq (by rcases hty with ⟨c, rfl⟩ | ⟨c, rfl⟩ <;> rfl) (by rcases hty with ⟨c, rfl⟩ | ⟨c, rfl⟩ <;> rfl) (by simp) kk
theorem a_pfi10 {x0 x1 x2 x3 x4 x5 x6 x7 x8 x9 z : Value} {tl : List Value} {idx ci q : Nat} {v : Int32} (hd : fD y pc (.putfield idx) 3 pc2) (hf : fPL y.1.cls idx ci 10 .int) {L : lT} (hq : h q = .inr (ci, x0 :: x1 :: x2 :: x3 :: x4 :: x5 :: x6 :: x7 :: x8 :: x9 :: z :: tl)) (kk : fA y E Z k (va_up h q (.inr (ci, x0 :: x1 :: x2 :: x3 :: x4 :: x5 :: x6 :: x7 :: x8 :: x9 :: .int v :: tl))) nc ns pc2 L st) : fA y E Z k h nc ns pc L (.int v :: .ref q :: st) := a_pf hd hf hq rfl rfl (by simp) kk
theorem a_pfl10 {x0 x1 x2 x3 x4 x5 x6 x7 x8 x9 z : Value} {tl : List Value} {idx ci q : Nat} {v : Int64} (hd : fD y pc (.putfield idx) 3 pc2) (hf : fPL y.1.cls idx ci 10 .long) {L : lT} (hq : h q = .inr (ci, x0 :: x1 :: x2 :: x3 :: x4 :: x5 :: x6 :: x7 :: x8 :: x9 :: z :: tl)) (kk : fA y E Z k (va_up h q (.inr (ci, x0 :: x1 :: x2 :: x3 :: x4 :: x5 :: x6 :: x7 :: x8 :: x9 :: .long v :: tl))) nc ns pc2 L st) : fA y E Z k h nc ns pc L (.long v :: .ref q :: st) := a_pf hd hf hq rfl rfl (by simp) kk
theorem a_pF10 {x0 x1 x2 x3 x4 x5 x6 x7 x8 x9 z : Value} {tl : List Value} {idx ci q v : Nat} {ty : FieldType} (hd : fD y pc (.putfield idx) 3 pc2) (hf : fPF y.1.cls idx ci 10 ty) (hn9 : y.1.name = "<init>") (hty : (∃ c, ty = .object c) ∨ ∃ c, ty = .array c) {L : lT} (hq : h q = .inr (ci, x0 :: x1 :: x2 :: x3 :: x4 :: x5 :: x6 :: x7 :: x8 :: x9 :: z :: tl)) (kk : fA y E Z k (va_up h q (.inr (ci, x0 :: x1 :: x2 :: x3 :: x4 :: x5 :: x6 :: x7 :: x8 :: x9 :: .ref v :: tl))) nc ns pc2 L st) : fA y E Z k h nc ns pc L (.ref v :: .ref q :: st) := a_pF hd hf hn9 hq (by rcases hty with ⟨c, rfl⟩ | ⟨c, rfl⟩ <;> rfl) (by rcases hty with ⟨c, rfl⟩ | ⟨c, rfl⟩ <;> rfl) (by simp) kk
theorem a_pfi11 {x0 x1 x2 x3 x4 x5 x6 x7 x8 x9 x10 z : Value} {tl : List Value} {idx ci q : Nat} {v : Int32} (hd : fD y pc (.putfield idx) 3 pc2) (hf : fPL y.1.cls idx ci 11 .int) {L : lT} (hq : h q = .inr (ci, x0 :: x1 :: x2 :: x3 :: x4 :: x5 :: x6 :: x7 :: x8 :: x9 :: x10 :: z :: tl)) (kk : fA y E Z k (va_up h q (.inr (ci, x0 :: x1 :: x2 :: x3 :: x4 :: x5 :: x6 :: x7 :: x8 :: x9 :: x10 :: .int v :: tl))) nc ns pc2 L st) : fA y E Z k h nc ns pc L (.int v :: .ref q :: st) := a_pf hd hf hq rfl rfl (by simp) kk
theorem a_pfl11 {x0 x1 x2 x3 x4 x5 x6 x7 x8 x9 x10 z : Value} {tl : List Value} {idx ci q : Nat} {v : Int64} (hd : fD y pc (.putfield idx) 3 pc2) (hf : fPL y.1.cls idx ci 11 .long) {L : lT} (hq : h q = .inr (ci, x0 :: x1 :: x2 :: x3 :: x4 :: x5 :: x6 :: x7 :: x8 :: x9 :: x10 :: z :: tl)) (kk : fA y E Z k (va_up h q (.inr (ci, x0 :: x1 :: x2 :: x3 :: x4 :: x5 :: x6 :: x7 :: x8 :: x9 :: x10 :: .long v :: tl))) nc ns pc2 L st) : fA y E Z k h nc ns pc L (.long v :: .ref q :: st) := a_pf hd hf hq rfl rfl (by simp) kk
theorem a_pF11 {x0 x1 x2 x3 x4 x5 x6 x7 x8 x9 x10 z : Value} {tl : List Value} {idx ci q v : Nat} {ty : FieldType} (hd : fD y pc (.putfield idx) 3 pc2) (hf : fPF y.1.cls idx ci 11 ty) (hn9 : y.1.name = "<init>") (hty : (∃ c, ty = .object c) ∨ ∃ c, ty = .array c) {L : lT} (hq : h q = .inr (ci, x0 :: x1 :: x2 :: x3 :: x4 :: x5 :: x6 :: x7 :: x8 :: x9 :: x10 :: z :: tl)) (kk : fA y E Z k (va_up h q (.inr (ci, x0 :: x1 :: x2 :: x3 :: x4 :: x5 :: x6 :: x7 :: x8 :: x9 :: x10 :: .ref v :: tl))) nc ns pc2 L st) : fA y E Z k h nc ns pc L (.ref v :: .ref q :: st) := a_pF hd hf hn9 hq (by rcases hty with ⟨c, rfl⟩ | ⟨c, rfl⟩ <;> rfl) (by rcases hty with ⟨c, rfl⟩ | ⟨c, rfl⟩ <;> rfl) (by simp) kk
theorem a_pfi12 {x0 x1 x2 x3 x4 x5 x6 x7 x8 x9 x10 x11 z : Value} {tl : List Value} {idx ci q : Nat} {v : Int32} (hd : fD y pc (.putfield idx) 3 pc2) (hf : fPL y.1.cls idx ci 12 .int) {L : lT} (hq : h q = .inr (ci, x0 :: x1 :: x2 :: x3 :: x4 :: x5 :: x6 :: x7 :: x8 :: x9 :: x10 :: x11 :: z :: tl)) (kk : fA y E Z k (va_up h q (.inr (ci, x0 :: x1 :: x2 :: x3 :: x4 :: x5 :: x6 :: x7 :: x8 :: x9 :: x10 :: x11 :: .int v :: tl))) nc ns pc2 L st) : fA y E Z k h nc ns pc L (.int v :: .ref q :: st) := a_pf hd hf hq rfl rfl (by simp) kk
theorem a_pfl12 {x0 x1 x2 x3 x4 x5 x6 x7 x8 x9 x10 x11 z : Value} {tl : List Value} {idx ci q : Nat} {v : Int64} (hd : fD y pc (.putfield idx) 3 pc2) (hf : fPL y.1.cls idx ci 12 .long) {L : lT} (hq : h q = .inr (ci, x0 :: x1 :: x2 :: x3 :: x4 :: x5 :: x6 :: x7 :: x8 :: x9 :: x10 :: x11 :: z :: tl)) (kk : fA y E Z k (va_up h q (.inr (ci, x0 :: x1 :: x2 :: x3 :: x4 :: x5 :: x6 :: x7 :: x8 :: x9 :: x10 :: x11 :: .long v :: tl))) nc ns pc2 L st) : fA y E Z k h nc ns pc L (.long v :: .ref q :: st) := a_pf hd hf hq rfl rfl (by simp) kk
theorem a_pF12 {x0 x1 x2 x3 x4 x5 x6 x7 x8 x9 x10 x11 z : Value} {tl : List Value} {idx ci q v : Nat} {ty : FieldType} (hd : fD y pc (.putfield idx) 3 pc2) (hf : fPF y.1.cls idx ci 12 ty) (hn9 : y.1.name = "<init>") (hty : (∃ c, ty = .object c) ∨ ∃ c, ty = .array c) {L : lT} (hq : h q = .inr (ci, x0 :: x1 :: x2 :: x3 :: x4 :: x5 :: x6 :: x7 :: x8 :: x9 :: x10 :: x11 :: z :: tl)) (kk : fA y E Z k (va_up h q (.inr (ci, x0 :: x1 :: x2 :: x3 :: x4 :: x5 :: x6 :: x7 :: x8 :: x9 :: x10 :: x11 :: .ref v :: tl))) nc ns pc2 L st) : fA y E Z k h nc ns pc L (.ref v :: .ref q :: st) := a_pF hd hf hn9 hq (by rcases hty with ⟨c, rfl⟩ | ⟨c, rfl⟩ <;> rfl) (by rcases hty with ⟨c, rfl⟩ | ⟨c, rfl⟩ <;> rfl) (by simp) kk
theorem a_pfi13 {x0 x1 x2 x3 x4 x5 x6 x7 x8 x9 x10 x11 x12 z : Value} {tl : List Value} {idx ci q : Nat} {v : Int32} (hd : fD y pc (.putfield idx) 3 pc2) (hf : fPL y.1.cls idx ci 13 .int) {L : lT} (hq : h q = .inr (ci, x0 :: x1 :: x2 :: x3 :: x4 :: x5 :: x6 :: x7 :: x8 :: x9 :: x10 :: x11 :: x12 :: z :: tl)) (kk : fA y E Z k (va_up h q (.inr (ci, x0 :: x1 :: x2 :: x3 :: x4 :: x5 :: x6 :: x7 :: x8 :: x9 :: x10 :: x11 :: x12 :: .int v :: tl))) nc ns pc2 L st) : fA y E Z k h nc ns pc L (.int v :: .ref q :: st) := a_pf hd hf hq rfl rfl (by simp) kk
theorem a_pfl13 {x0 x1 x2 x3 x4 x5 x6 x7 x8 x9 x10 x11 x12 z : Value} {tl : List Value} {idx ci q : Nat} {v : Int64} (hd : fD y pc (.putfield idx) 3 pc2) (hf : fPL y.1.cls idx ci 13 .long) {L : lT} (hq : h q = .inr (ci, x0 :: x1 :: x2 :: x3 :: x4 :: x5 :: x6 :: x7 :: x8 :: x9 :: x10 :: x11 :: x12 :: z :: tl)) (kk : fA y E Z k (va_up h q (.inr (ci, x0 :: x1 :: x2 :: x3 :: x4 :: x5 :: x6 :: x7 :: x8 :: x9 :: x10 :: x11 :: x12 :: .long v :: tl))) nc ns pc2 L st) : fA y E Z k h nc ns pc L (.long v :: .ref q :: st) := a_pf hd hf hq rfl rfl (by simp) kk
theorem a_pF13 {x0 x1 x2 x3 x4 x5 x6 x7 x8 x9 x10 x11 x12 z : Value} {tl : List Value} {idx ci q v : Nat} {ty : FieldType} (hd : fD y pc (.putfield idx) 3 pc2) (hf : fPF y.1.cls idx ci 13 ty) (hn9 : y.1.name = "<init>") (hty : (∃ c, ty = .object c) ∨ ∃ c, ty = .array c) {L : lT} (hq : h q = .inr (ci, x0 :: x1 :: x2 :: x3 :: x4 :: x5 :: x6 :: x7 :: x8 :: x9 :: x10 :: x11 :: x12 :: z :: tl)) (kk : fA y E Z k (va_up h q (.inr (ci, x0 :: x1 :: x2 :: x3 :: x4 :: x5 :: x6 :: x7 :: x8 :: x9 :: x10 :: x11 :: x12 :: .ref v :: tl))) nc ns pc2 L st) : fA y E Z k h nc ns pc L (.ref v :: .ref q :: st) := a_pF hd hf hn9 hq (by rcases hty with ⟨c, rfl⟩ | ⟨c, rfl⟩ <;> rfl) (by rcases hty with ⟨c, rfl⟩ | ⟨c, rfl⟩ <;> rfl) (by simp) kk
theorem a_pfi14 {x0 x1 x2 x3 x4 x5 x6 x7 x8 x9 x10 x11 x12 x13 z : Value} {tl : List Value} {idx ci q : Nat} {v : Int32} (hd : fD y pc (.putfield idx) 3 pc2) (hf : fPL y.1.cls idx ci 14 .int) {L : lT} (hq : h q = .inr (ci, x0 :: x1 :: x2 :: x3 :: x4 :: x5 :: x6 :: x7 :: x8 :: x9 :: x10 :: x11 :: x12 :: x13 :: z :: tl)) (kk : fA y E Z k (va_up h q (.inr (ci, x0 :: x1 :: x2 :: x3 :: x4 :: x5 :: x6 :: x7 :: x8 :: x9 :: x10 :: x11 :: x12 :: x13 :: .int v :: tl))) nc ns pc2 L st) : fA y E Z k h nc ns pc L (.int v :: .ref q :: st) := a_pf hd hf hq rfl rfl (by simp) kk
theorem a_pfl14 {x0 x1 x2 x3 x4 x5 x6 x7 x8 x9 x10 x11 x12 x13 z : Value} {tl : List Value} {idx ci q : Nat} {v : Int64} (hd : fD y pc (.putfield idx) 3 pc2) (hf : fPL y.1.cls idx ci 14 .long) {L : lT} (hq : h q = .inr (ci, x0 :: x1 :: x2 :: x3 :: x4 :: x5 :: x6 :: x7 :: x8 :: x9 :: x10 :: x11 :: x12 :: x13 :: z :: tl)) (kk : fA y E Z k (va_up h q (.inr (ci, x0 :: x1 :: x2 :: x3 :: x4 :: x5 :: x6 :: x7 :: x8 :: x9 :: x10 :: x11 :: x12 :: x13 :: .long v :: tl))) nc ns pc2 L st) : fA y E Z k h nc ns pc L (.long v :: .ref q :: st) := a_pf hd hf hq rfl rfl (by simp) kk
theorem a_pF14 {x0 x1 x2 x3 x4 x5 x6 x7 x8 x9 x10 x11 x12 x13 z : Value} {tl : List Value} {idx ci q v : Nat} {ty : FieldType} (hd : fD y pc (.putfield idx) 3 pc2) (hf : fPF y.1.cls idx ci 14 ty) (hn9 : y.1.name = "<init>") (hty : (∃ c, ty = .object c) ∨ ∃ c, ty = .array c) {L : lT} (hq : h q = .inr (ci, x0 :: x1 :: x2 :: x3 :: x4 :: x5 :: x6 :: x7 :: x8 :: x9 :: x10 :: x11 :: x12 :: x13 :: z :: tl)) (kk : fA y E Z k (va_up h q (.inr (ci, x0 :: x1 :: x2 :: x3 :: x4 :: x5 :: x6 :: x7 :: x8 :: x9 :: x10 :: x11 :: x12 :: x13 :: .ref v :: tl))) nc ns pc2 L st) : fA y E Z k h nc ns pc L (.ref v :: .ref q :: st) := a_pF hd hf hn9 hq (by rcases hty with ⟨c, rfl⟩ | ⟨c, rfl⟩ <;> rfl) (by rcases hty with ⟨c, rfl⟩ | ⟨c, rfl⟩ <;> rfl) (by simp) kk
theorem a_pfi15 {x0 x1 x2 x3 x4 x5 x6 x7 x8 x9 x10 x11 x12 x13 x14 z : Value} {tl : List Value} {idx ci q : Nat} {v : Int32} (hd : fD y pc (.putfield idx) 3 pc2) (hf : fPL y.1.cls idx ci 15 .int) {L : lT} (hq : h q = .inr (ci, x0 :: x1 :: x2 :: x3 :: x4 :: x5 :: x6 :: x7 :: x8 :: x9 :: x10 :: x11 :: x12 :: x13 :: x14 :: z :: tl)) (kk : fA y E Z k (va_up h q (.inr (ci, x0 :: x1 :: x2 :: x3 :: x4 :: x5 :: x6 :: x7 :: x8 :: x9 :: x10 :: x11 :: x12 :: x13 :: x14 :: .int v :: tl))) nc ns pc2 L st) : fA y E Z k h nc ns pc L (.int v :: .ref q :: st) := a_pf hd hf hq rfl rfl (by simp) kk
theorem a_pfl15 {x0 x1 x2 x3 x4 x5 x6 x7 x8 x9 x10 x11 x12 x13 x14 z : Value} {tl : List Value} {idx ci q : Nat} {v : Int64} (hd : fD y pc (.putfield idx) 3 pc2) (hf : fPL y.1.cls idx ci 15 .long) {L : lT} (hq : h q = .inr (ci, x0 :: x1 :: x2 :: x3 :: x4 :: x5 :: x6 :: x7 :: x8 :: x9 :: x10 :: x11 :: x12 :: x13 :: x14 :: z :: tl)) (kk : fA y E Z k (va_up h q (.inr (ci, x0 :: x1 :: x2 :: x3 :: x4 :: x5 :: x6 :: x7 :: x8 :: x9 :: x10 :: x11 :: x12 :: x13 :: x14 :: .long v :: tl))) nc ns pc2 L st) : fA y E Z k h nc ns pc L (.long v :: .ref q :: st) := a_pf hd hf hq rfl rfl (by simp) kk
theorem a_pF15 {x0 x1 x2 x3 x4 x5 x6 x7 x8 x9 x10 x11 x12 x13 x14 z : Value} {tl : List Value} {idx ci q v : Nat} {ty : FieldType} (hd : fD y pc (.putfield idx) 3 pc2) (hf : fPF y.1.cls idx ci 15 ty) (hn9 : y.1.name = "<init>") (hty : (∃ c, ty = .object c) ∨ ∃ c, ty = .array c) {L : lT} (hq : h q = .inr (ci, x0 :: x1 :: x2 :: x3 :: x4 :: x5 :: x6 :: x7 :: x8 :: x9 :: x10 :: x11 :: x12 :: x13 :: x14 :: z :: tl)) (kk : fA y E Z k (va_up h q (.inr (ci, x0 :: x1 :: x2 :: x3 :: x4 :: x5 :: x6 :: x7 :: x8 :: x9 :: x10 :: x11 :: x12 :: x13 :: x14 :: .ref v :: tl))) nc ns pc2 L st) : fA y E Z k h nc ns pc L (.ref v :: .ref q :: st) := a_pF hd hf hn9 hq (by rcases hty with ⟨c, rfl⟩ | ⟨c, rfl⟩ <;> rfl) (by rcases hty with ⟨c, rfl⟩ | ⟨c, rfl⟩ <;> rfl) (by simp) kk
theorem a_pfi16 {x0 x1 x2 x3 x4 x5 x6 x7 x8 x9 x10 x11 x12 x13 x14 x15 z : Value} {tl : List Value} {idx ci q : Nat} {v : Int32} (hd : fD y pc (.putfield idx) 3 pc2) (hf : fPL y.1.cls idx ci 16 .int) {L : lT} (hq : h q = .inr (ci, x0 :: x1 :: x2 :: x3 :: x4 :: x5 :: x6 :: x7 :: x8 :: x9 :: x10 :: x11 :: x12 :: x13 :: x14 :: x15 :: z :: tl)) (kk : fA y E Z k (va_up h q (.inr (ci, x0 :: x1 :: x2 :: x3 :: x4 :: x5 :: x6 :: x7 :: x8 :: x9 :: x10 :: x11 :: x12 :: x13 :: x14 :: x15 :: .int v :: tl))) nc ns pc2 L st) : fA y E Z k h nc ns pc L (.int v :: .ref q :: st) := a_pf hd hf hq rfl rfl (by simp) kk
theorem a_pfl16 {x0 x1 x2 x3 x4 x5 x6 x7 x8 x9 x10 x11 x12 x13 x14 x15 z : Value} {tl : List Value} {idx ci q : Nat} {v : Int64} (hd : fD y pc (.putfield idx) 3 pc2) (hf : fPL y.1.cls idx ci 16 .long) {L : lT} (hq : h q = .inr (ci, x0 :: x1 :: x2 :: x3 :: x4 :: x5 :: x6 :: x7 :: x8 :: x9 :: x10 :: x11 :: x12 :: x13 :: x14 :: x15 :: z :: tl)) (kk : fA y E Z k (va_up h q (.inr (ci, x0 :: x1 :: x2 :: x3 :: x4 :: x5 :: x6 :: x7 :: x8 :: x9 :: x10 :: x11 :: x12 :: x13 :: x14 :: x15 :: .long v :: tl))) nc ns pc2 L st) : fA y E Z k h nc ns pc L (.long v :: .ref q :: st) := a_pf hd hf hq rfl rfl (by simp) kk
theorem a_pF16 {x0 x1 x2 x3 x4 x5 x6 x7 x8 x9 x10 x11 x12 x13 x14 x15 z : Value} {tl : List Value} {idx ci q v : Nat} {ty : FieldType} (hd : fD y pc (.putfield idx) 3 pc2) (hf : fPF y.1.cls idx ci 16 ty) (hn9 : y.1.name = "<init>") (hty : (∃ c, ty = .object c) ∨ ∃ c, ty = .array c) {L : lT} (hq : h q = .inr (ci, x0 :: x1 :: x2 :: x3 :: x4 :: x5 :: x6 :: x7 :: x8 :: x9 :: x10 :: x11 :: x12 :: x13 :: x14 :: x15 :: z :: tl)) (kk : fA y E Z k (va_up h q (.inr (ci, x0 :: x1 :: x2 :: x3 :: x4 :: x5 :: x6 :: x7 :: x8 :: x9 :: x10 :: x11 :: x12 :: x13 :: x14 :: x15 :: .ref v :: tl))) nc ns pc2 L st) : fA y E Z k h nc ns pc L (.ref v :: .ref q :: st) := a_pF hd hf hn9 hq (by rcases hty with ⟨c, rfl⟩ | ⟨c, rfl⟩ <;> rfl) (by rcases hty with ⟨c, rfl⟩ | ⟨c, rfl⟩ <;> rfl) (by simp) kk
/-- an index that is a plain number -/
theorem a_ia {L : lT} {q n j : Nat} {f : Nat → Int32} {i : Int32} (hd : fD y pc .iaload 1 pc2) (hq : h q = ia n f) (hi : i = nI j) (hj : j < n) (hn : n < 2 ^ 31) (kk : fA y E Z k h nc ns pc2 L (.int (f j) :: st)) : fA y E Z k h nc ns pc L (.int i :: .ref q :: st) := by
  subst hi
  refine a_iald hd hq (vp_in_nI hj hn) ?_
  rw [nI_clamp (by omega)]
  exact kk
theorem a_it {L : lT} {q n j : Nat} {f : Nat → Int32} {i x : Int32} (hd : fD y pc .iastore 1 pc2) (hq : h q = ia n f) (hi : i = nI j) (hj : j < n) (hn : n < 2 ^ 31) (kk : fA y E Z k (va_up h q (ia n (upd f j x))) nc ns pc2 L st) : fA y E Z k h nc ns pc L (.int x :: .int i :: .ref q :: st) := by
  subst hi
  refine a_iast hd hq (vp_in_nI hj hn) ?_
  rw [nI_clamp (by omega)]
  exact kk
end FM
abbrev qI (P : Int32 → Nat → hT → Prop) : Option Value → Nat → hT → Prop := fun r k h => ∃ v : Int32, r = some (.int v) ∧ P v k h
abbrev qN (P : Nat → hT → Prop) : Option Value → Nat → hT → Prop := fun r k h => r = none ∧ P k h
section FC
variable {y z : mI} {E : eT} {Z : zT} {k k1 : Nat} {h h1 : hT} {nc ns pc pc2 idx : Nat} {L : lT} {st : List Value}
theorem a_S0V {v : Value} (hd : fD y pc (.invokestatic idx) 3 pc2) (hl : fML y.1.cls idx z) (hm : fMS z 0) (hr : fRm y z) (hz : z.2.2.2.2.cells = 0 ∧ z.2.2.2.2.slots = 0) (hw : (st.map fun v => v.category).sum ≤ 8) (hE : fE z E [] k h (eV v k1 h1)) (kk : fA y E Z k1 h1 nc ns pc2 L (v :: st)) : fA y E Z k h nc ns pc L (st) := by
  intro p l e s m args below meth c H locs ls F R hS hl9 g1 g2
  have hkk : ∀ r k8 h8, eV v k1 h1 r k8 h8 → fA y E Z k8 h8 (nc + z.2.2.2.2.cells) (ns + z.2.2.2.2.slots) pc2 L (r.toList ++ st) := by rw [hz.1, hz.2]; intro r k9 h9 hp; obtain ⟨e1, e2, e3⟩ := hp; rw [e1, e2, e3]; exact kk
  exact a_cS0 hd hl hm hr rfl hw (by rw [hz.1]; exact g1) (by rw [hz.2]; exact g2) hE hkk rfl p l e s m args below meth c H locs ls F R hS hl9 g1 g2
theorem a_S0N (hd : fD y pc (.invokestatic idx) 3 pc2) (hl : fML y.1.cls idx z) (hm : fMS z 0) (hr : fRm y z) (hz : z.2.2.2.2.cells = 0 ∧ z.2.2.2.2.slots = 0) (hw : (st.map fun v => v.category).sum ≤ 8) (hE : fE z E [] k h (eN k1 h1)) (kk : fA y E Z k1 h1 nc ns pc2 L st) : fA y E Z k h nc ns pc L (st) := by
  intro p l e s m args below meth c H locs ls F R hS hl9 g1 g2
  have hkk : ∀ r k8 h8, eN k1 h1 r k8 h8 → fA y E Z k8 h8 (nc + z.2.2.2.2.cells) (ns + z.2.2.2.2.slots) pc2 L (r.toList ++ st) := by rw [hz.1, hz.2]; intro r k9 h9 hp; obtain ⟨e1, e2, e3⟩ := hp; rw [e1, e2, e3]; exact kk
  exact a_cS0 hd hl hm hr rfl hw (by rw [hz.1]; exact g1) (by rw [hz.2]; exact g2) hE hkk rfl p l e s m args below meth c H locs ls F R hS hl9 g1 g2
theorem a_S0I {P : Int32 → Nat → hT → Prop} (hd : fD y pc (.invokestatic idx) 3 pc2) (hl : fML y.1.cls idx z) (hm : fMS z 0) (hr : fRm y z) (hz : z.2.2.2.2.cells = 0 ∧ z.2.2.2.2.slots = 0) (hw : (st.map fun v => v.category).sum ≤ 8) (hE : fE z E [] k h (qI P)) (kk : ∀ v k1 h1, P v k1 h1 → fA y E Z k1 h1 nc ns pc2 L (.int v :: st)) : fA y E Z k h nc ns pc L (st) := by
  intro p l e s m args below meth c H locs ls F R hS hl9 g1 g2
  have hkk : ∀ r k8 h8, qI P r k8 h8 → fA y E Z k8 h8 (nc + z.2.2.2.2.cells) (ns + z.2.2.2.2.slots) pc2 L (r.toList ++ st) := by rw [hz.1, hz.2]; rintro _ _ _ ⟨v, rfl, hp⟩; exact kk _ _ _ hp
  exact a_cS0 hd hl hm hr rfl hw (by rw [hz.1]; exact g1) (by rw [hz.2]; exact g2) hE hkk rfl p l e s m args below meth c H locs ls F R hS hl9 g1 g2
theorem a_S0Q {P : Nat → hT → Prop} (hd : fD y pc (.invokestatic idx) 3 pc2) (hl : fML y.1.cls idx z) (hm : fMS z 0) (hr : fRm y z) (hz : z.2.2.2.2.cells = 0 ∧ z.2.2.2.2.slots = 0) (hw : (st.map fun v => v.category).sum ≤ 8) (hE : fE z E [] k h (qN P)) (kk : ∀ k1 h1, P k1 h1 → fA y E Z k1 h1 nc ns pc2 L st) : fA y E Z k h nc ns pc L (st) := by
  intro p l e s m args below meth c H locs ls F R hS hl9 g1 g2
  have hkk : ∀ r k8 h8, qN P r k8 h8 → fA y E Z k8 h8 (nc + z.2.2.2.2.cells) (ns + z.2.2.2.2.slots) pc2 L (r.toList ++ st) := by rw [hz.1, hz.2]; rintro _ _ _ ⟨rfl, hp⟩; exact kk _ _ hp
  exact a_cS0 hd hl hm hr rfl hw (by rw [hz.1]; exact g1) (by rw [hz.2]; exact g2) hE hkk rfl p l e s m args below meth c H locs ls F R hS hl9 g1 g2
theorem a_S0C {cc cs : Nat} (hd : fD y pc (.invokestatic idx) 3 pc2) (hl : fML y.1.cls idx z) (hm : fMS z 0) (hr : fRm y z) (hz : z.2.2.2.2.cells = cc ∧ z.2.2.2.2.slots = cs) (hc : nc + cc ≤ y.2.2.2.2.cells) (hs : ns + cs ≤ y.2.2.2.2.slots) (hw : (st.map fun v => v.category).sum ≤ 8) (hE : fE z E [] k h (eN k1 h1)) (kk : fA y E Z k1 h1 (nc + cc) (ns + cs) pc2 L st) : fA y E Z k h nc ns pc L (st) := by
  obtain ⟨rfl, rfl⟩ := hz
  exact a_cS0 hd hl hm hr rfl hw hc hs hE (by intro r k9 h9 hp; obtain ⟨e1, e2, e3⟩ := hp; rw [e1, e2, e3]; exact kk) rfl
theorem a_V0V {v : Value} {q ci : Nat} {fs : List Value} {T : u_T} {N : Nat} (hd : fD y pc (.invokevirtual idx) 3 pc2) (hl : fML y.1.cls idx z) (hm : fMV z 0) (hr : fRm y z) (hq : h q = .inr (ci, fs)) (hcl : cls[ci]? = some (z.1.cls, T, N)) (hz : z.2.2.2.2.cells = 0 ∧ z.2.2.2.2.slots = 0) (hw : (st.map fun v => v.category).sum ≤ 8) (hE : fE z E (.ref q :: []) k h (eV v k1 h1)) (kk : fA y E Z k1 h1 nc ns pc2 L (v :: st)) : fA y E Z k h nc ns pc L (.ref q :: st) := by
  intro p l e s m args below meth c H locs ls F R hS hl9 g1 g2
  have hkk : ∀ r k8 h8, eV v k1 h1 r k8 h8 → fA y E Z k8 h8 (nc + z.2.2.2.2.cells) (ns + z.2.2.2.2.slots) pc2 L (r.toList ++ st) := by rw [hz.1, hz.2]; intro r k9 h9 hp; obtain ⟨e1, e2, e3⟩ := hp; rw [e1, e2, e3]; exact kk
  exact a_cV0 (As := []) hd hl hm hr rfl hq hcl hw (by rw [hz.1]; exact g1) (by rw [hz.2]; exact g2) hE hkk rfl p l e s m args below meth c H locs ls F R hS hl9 g1 g2
theorem a_V0N {q ci : Nat} {fs : List Value} {T : u_T} {N : Nat} (hd : fD y pc (.invokevirtual idx) 3 pc2) (hl : fML y.1.cls idx z) (hm : fMV z 0) (hr : fRm y z) (hq : h q = .inr (ci, fs)) (hcl : cls[ci]? = some (z.1.cls, T, N)) (hz : z.2.2.2.2.cells = 0 ∧ z.2.2.2.2.slots = 0) (hw : (st.map fun v => v.category).sum ≤ 8) (hE : fE z E (.ref q :: []) k h (eN k1 h1)) (kk : fA y E Z k1 h1 nc ns pc2 L st) : fA y E Z k h nc ns pc L (.ref q :: st) := by
  intro p l e s m args below meth c H locs ls F R hS hl9 g1 g2
  have hkk : ∀ r k8 h8, eN k1 h1 r k8 h8 → fA y E Z k8 h8 (nc + z.2.2.2.2.cells) (ns + z.2.2.2.2.slots) pc2 L (r.toList ++ st) := by rw [hz.1, hz.2]; intro r k9 h9 hp; obtain ⟨e1, e2, e3⟩ := hp; rw [e1, e2, e3]; exact kk
  exact a_cV0 (As := []) hd hl hm hr rfl hq hcl hw (by rw [hz.1]; exact g1) (by rw [hz.2]; exact g2) hE hkk rfl p l e s m args below meth c H locs ls F R hS hl9 g1 g2
theorem a_V0I {P : Int32 → Nat → hT → Prop} {q ci : Nat} {fs : List Value} {T : u_T} {N : Nat} (hd : fD y pc (.invokevirtual idx) 3 pc2) (hl : fML y.1.cls idx z) (hm : fMV z 0) (hr : fRm y z) (hq : h q = .inr (ci, fs)) (hcl : cls[ci]? = some (z.1.cls, T, N)) (hz : z.2.2.2.2.cells = 0 ∧ z.2.2.2.2.slots = 0) (hw : (st.map fun v => v.category).sum ≤ 8) (hE : fE z E (.ref q :: []) k h (qI P)) (kk : ∀ v k1 h1, P v k1 h1 → fA y E Z k1 h1 nc ns pc2 L (.int v :: st)) : fA y E Z k h nc ns pc L (.ref q :: st) := by
  intro p l e s m args below meth c H locs ls F R hS hl9 g1 g2
  have hkk : ∀ r k8 h8, qI P r k8 h8 → fA y E Z k8 h8 (nc + z.2.2.2.2.cells) (ns + z.2.2.2.2.slots) pc2 L (r.toList ++ st) := by rw [hz.1, hz.2]; rintro _ _ _ ⟨v, rfl, hp⟩; exact kk _ _ _ hp
  exact a_cV0 (As := []) hd hl hm hr rfl hq hcl hw (by rw [hz.1]; exact g1) (by rw [hz.2]; exact g2) hE hkk rfl p l e s m args below meth c H locs ls F R hS hl9 g1 g2
theorem a_V0Q {P : Nat → hT → Prop} {q ci : Nat} {fs : List Value} {T : u_T} {N : Nat} (hd : fD y pc (.invokevirtual idx) 3 pc2) (hl : fML y.1.cls idx z) (hm : fMV z 0) (hr : fRm y z) (hq : h q = .inr (ci, fs)) (hcl : cls[ci]? = some (z.1.cls, T, N)) (hz : z.2.2.2.2.cells = 0 ∧ z.2.2.2.2.slots = 0) (hw : (st.map fun v => v.category).sum ≤ 8) (hE : fE z E (.ref q :: []) k h (qN P)) (kk : ∀ k1 h1, P k1 h1 → fA y E Z k1 h1 nc ns pc2 L st) : fA y E Z k h nc ns pc L (.ref q :: st) := by
  intro p l e s m args below meth c H locs ls F R hS hl9 g1 g2
  have hkk : ∀ r k8 h8, qN P r k8 h8 → fA y E Z k8 h8 (nc + z.2.2.2.2.cells) (ns + z.2.2.2.2.slots) pc2 L (r.toList ++ st) := by rw [hz.1, hz.2]; rintro _ _ _ ⟨rfl, hp⟩; exact kk _ _ hp
  exact a_cV0 (As := []) hd hl hm hr rfl hq hcl hw (by rw [hz.1]; exact g1) (by rw [hz.2]; exact g2) hE hkk rfl p l e s m args below meth c H locs ls F R hS hl9 g1 g2
theorem a_V0C {cc cs : Nat} {q ci : Nat} {fs : List Value} {T : u_T} {N : Nat} (hd : fD y pc (.invokevirtual idx) 3 pc2) (hl : fML y.1.cls idx z) (hm : fMV z 0) (hr : fRm y z) (hq : h q = .inr (ci, fs)) (hcl : cls[ci]? = some (z.1.cls, T, N)) (hz : z.2.2.2.2.cells = cc ∧ z.2.2.2.2.slots = cs) (hc : nc + cc ≤ y.2.2.2.2.cells) (hs : ns + cs ≤ y.2.2.2.2.slots) (hw : (st.map fun v => v.category).sum ≤ 8) (hE : fE z E (.ref q :: []) k h (eN k1 h1)) (kk : fA y E Z k1 h1 (nc + cc) (ns + cs) pc2 L st) : fA y E Z k h nc ns pc L (.ref q :: st) := by
  obtain ⟨rfl, rfl⟩ := hz
  exact a_cV0 (As := []) hd hl hm hr rfl hq hcl hw hc hs hE (by intro r k9 h9 hp; obtain ⟨e1, e2, e3⟩ := hp; rw [e1, e2, e3]; exact kk) rfl
theorem a_I0V {v : Value} {q : Nat} (hd : fD y pc (.invokespecial idx) 3 pc2) (hl : fML y.1.cls idx z) (hm : fMN z 0) (hr : fRm y z) (hz : z.2.2.2.2.cells = 0 ∧ z.2.2.2.2.slots = 0) (hw : (st.map fun v => v.category).sum ≤ 8) (hE : fE z E (.ref q :: []) k h (eV v k1 h1)) (kk : fA y E Z k1 h1 nc ns pc2 L (v :: st)) : fA y E Z k h nc ns pc L (.ref q :: st) := by
  intro p l e s m args below meth c H locs ls F R hS hl9 g1 g2
  have hkk : ∀ r k8 h8, eV v k1 h1 r k8 h8 → fA y E Z k8 h8 (nc + z.2.2.2.2.cells) (ns + z.2.2.2.2.slots) pc2 L (r.toList ++ st) := by rw [hz.1, hz.2]; intro r k9 h9 hp; obtain ⟨e1, e2, e3⟩ := hp; rw [e1, e2, e3]; exact kk
  exact a_cI0 (As := []) hd hl hm hr rfl hw (by rw [hz.1]; exact g1) (by rw [hz.2]; exact g2) hE hkk rfl p l e s m args below meth c H locs ls F R hS hl9 g1 g2
theorem a_I0N {q : Nat} (hd : fD y pc (.invokespecial idx) 3 pc2) (hl : fML y.1.cls idx z) (hm : fMN z 0) (hr : fRm y z) (hz : z.2.2.2.2.cells = 0 ∧ z.2.2.2.2.slots = 0) (hw : (st.map fun v => v.category).sum ≤ 8) (hE : fE z E (.ref q :: []) k h (eN k1 h1)) (kk : fA y E Z k1 h1 nc ns pc2 L st) : fA y E Z k h nc ns pc L (.ref q :: st) := by
  intro p l e s m args below meth c H locs ls F R hS hl9 g1 g2
  have hkk : ∀ r k8 h8, eN k1 h1 r k8 h8 → fA y E Z k8 h8 (nc + z.2.2.2.2.cells) (ns + z.2.2.2.2.slots) pc2 L (r.toList ++ st) := by rw [hz.1, hz.2]; intro r k9 h9 hp; obtain ⟨e1, e2, e3⟩ := hp; rw [e1, e2, e3]; exact kk
  exact a_cI0 (As := []) hd hl hm hr rfl hw (by rw [hz.1]; exact g1) (by rw [hz.2]; exact g2) hE hkk rfl p l e s m args below meth c H locs ls F R hS hl9 g1 g2
theorem a_I0I {P : Int32 → Nat → hT → Prop} {q : Nat} (hd : fD y pc (.invokespecial idx) 3 pc2) (hl : fML y.1.cls idx z) (hm : fMN z 0) (hr : fRm y z) (hz : z.2.2.2.2.cells = 0 ∧ z.2.2.2.2.slots = 0) (hw : (st.map fun v => v.category).sum ≤ 8) (hE : fE z E (.ref q :: []) k h (qI P)) (kk : ∀ v k1 h1, P v k1 h1 → fA y E Z k1 h1 nc ns pc2 L (.int v :: st)) : fA y E Z k h nc ns pc L (.ref q :: st) := by
  intro p l e s m args below meth c H locs ls F R hS hl9 g1 g2
  have hkk : ∀ r k8 h8, qI P r k8 h8 → fA y E Z k8 h8 (nc + z.2.2.2.2.cells) (ns + z.2.2.2.2.slots) pc2 L (r.toList ++ st) := by rw [hz.1, hz.2]; rintro _ _ _ ⟨v, rfl, hp⟩; exact kk _ _ _ hp
  exact a_cI0 (As := []) hd hl hm hr rfl hw (by rw [hz.1]; exact g1) (by rw [hz.2]; exact g2) hE hkk rfl p l e s m args below meth c H locs ls F R hS hl9 g1 g2
theorem a_I0Q {P : Nat → hT → Prop} {q : Nat} (hd : fD y pc (.invokespecial idx) 3 pc2) (hl : fML y.1.cls idx z) (hm : fMN z 0) (hr : fRm y z) (hz : z.2.2.2.2.cells = 0 ∧ z.2.2.2.2.slots = 0) (hw : (st.map fun v => v.category).sum ≤ 8) (hE : fE z E (.ref q :: []) k h (qN P)) (kk : ∀ k1 h1, P k1 h1 → fA y E Z k1 h1 nc ns pc2 L st) : fA y E Z k h nc ns pc L (.ref q :: st) := by
  intro p l e s m args below meth c H locs ls F R hS hl9 g1 g2
  have hkk : ∀ r k8 h8, qN P r k8 h8 → fA y E Z k8 h8 (nc + z.2.2.2.2.cells) (ns + z.2.2.2.2.slots) pc2 L (r.toList ++ st) := by rw [hz.1, hz.2]; rintro _ _ _ ⟨rfl, hp⟩; exact kk _ _ hp
  exact a_cI0 (As := []) hd hl hm hr rfl hw (by rw [hz.1]; exact g1) (by rw [hz.2]; exact g2) hE hkk rfl p l e s m args below meth c H locs ls F R hS hl9 g1 g2
theorem a_I0C {cc cs : Nat} {q : Nat} (hd : fD y pc (.invokespecial idx) 3 pc2) (hl : fML y.1.cls idx z) (hm : fMN z 0) (hr : fRm y z) (hz : z.2.2.2.2.cells = cc ∧ z.2.2.2.2.slots = cs) (hc : nc + cc ≤ y.2.2.2.2.cells) (hs : ns + cs ≤ y.2.2.2.2.slots) (hw : (st.map fun v => v.category).sum ≤ 8) (hE : fE z E (.ref q :: []) k h (eN k1 h1)) (kk : fA y E Z k1 h1 (nc + cc) (ns + cs) pc2 L st) : fA y E Z k h nc ns pc L (.ref q :: st) := by
  obtain ⟨rfl, rfl⟩ := hz
  exact a_cI0 (As := []) hd hl hm hr rfl hw hc hs hE (by intro r k9 h9 hp; obtain ⟨e1, e2, e3⟩ := hp; rw [e1, e2, e3]; exact kk) rfl
theorem a_S1V {a0 : Value} {v : Value} (hd : fD y pc (.invokestatic idx) 3 pc2) (hl : fML y.1.cls idx z) (hm : fMS z 1) (hr : fRm y z) (hz : z.2.2.2.2.cells = 0 ∧ z.2.2.2.2.slots = 0) (hw : (st.map fun v => v.category).sum ≤ 8) (hE : fE z E [a0] k h (eV v k1 h1)) (kk : fA y E Z k1 h1 nc ns pc2 L (v :: st)) : fA y E Z k h nc ns pc L (a0 :: st) := by
  intro p l e s m args below meth c H locs ls F R hS hl9 g1 g2
  have hkk : ∀ r k8 h8, eV v k1 h1 r k8 h8 → fA y E Z k8 h8 (nc + z.2.2.2.2.cells) (ns + z.2.2.2.2.slots) pc2 L (r.toList ++ st) := by rw [hz.1, hz.2]; intro r k9 h9 hp; obtain ⟨e1, e2, e3⟩ := hp; rw [e1, e2, e3]; exact kk
  exact a_cS0 hd hl hm hr rfl hw (by rw [hz.1]; exact g1) (by rw [hz.2]; exact g2) hE hkk rfl p l e s m args below meth c H locs ls F R hS hl9 g1 g2
theorem a_S1N {a0 : Value} (hd : fD y pc (.invokestatic idx) 3 pc2) (hl : fML y.1.cls idx z) (hm : fMS z 1) (hr : fRm y z) (hz : z.2.2.2.2.cells = 0 ∧ z.2.2.2.2.slots = 0) (hw : (st.map fun v => v.category).sum ≤ 8) (hE : fE z E [a0] k h (eN k1 h1)) (kk : fA y E Z k1 h1 nc ns pc2 L st) : fA y E Z k h nc ns pc L (a0 :: st) := by
  intro p l e s m args below meth c H locs ls F R hS hl9 g1 g2
  have hkk : ∀ r k8 h8, eN k1 h1 r k8 h8 → fA y E Z k8 h8 (nc + z.2.2.2.2.cells) (ns + z.2.2.2.2.slots) pc2 L (r.toList ++ st) := by rw [hz.1, hz.2]; intro r k9 h9 hp; obtain ⟨e1, e2, e3⟩ := hp; rw [e1, e2, e3]; exact kk
  exact a_cS0 hd hl hm hr rfl hw (by rw [hz.1]; exact g1) (by rw [hz.2]; exact g2) hE hkk rfl p l e s m args below meth c H locs ls F R hS hl9 g1 g2
theorem a_S1I {a0 : Value} {P : Int32 → Nat → hT → Prop} (hd : fD y pc (.invokestatic idx) 3 pc2) (hl : fML y.1.cls idx z) (hm : fMS z 1) (hr : fRm y z) (hz : z.2.2.2.2.cells = 0 ∧ z.2.2.2.2.slots = 0) (hw : (st.map fun v => v.category).sum ≤ 8) (hE : fE z E [a0] k h (qI P)) (kk : ∀ v k1 h1, P v k1 h1 → fA y E Z k1 h1 nc ns pc2 L (.int v :: st)) : fA y E Z k h nc ns pc L (a0 :: st) := by
  intro p l e s m args below meth c H locs ls F R hS hl9 g1 g2
  have hkk : ∀ r k8 h8, qI P r k8 h8 → fA y E Z k8 h8 (nc + z.2.2.2.2.cells) (ns + z.2.2.2.2.slots) pc2 L (r.toList ++ st) := by rw [hz.1, hz.2]; rintro _ _ _ ⟨v, rfl, hp⟩; exact kk _ _ _ hp
  exact a_cS0 hd hl hm hr rfl hw (by rw [hz.1]; exact g1) (by rw [hz.2]; exact g2) hE hkk rfl p l e s m args below meth c H locs ls F R hS hl9 g1 g2
theorem a_S1Q {a0 : Value} {P : Nat → hT → Prop} (hd : fD y pc (.invokestatic idx) 3 pc2) (hl : fML y.1.cls idx z) (hm : fMS z 1) (hr : fRm y z) (hz : z.2.2.2.2.cells = 0 ∧ z.2.2.2.2.slots = 0) (hw : (st.map fun v => v.category).sum ≤ 8) (hE : fE z E [a0] k h (qN P)) (kk : ∀ k1 h1, P k1 h1 → fA y E Z k1 h1 nc ns pc2 L st) : fA y E Z k h nc ns pc L (a0 :: st) := by
  intro p l e s m args below meth c H locs ls F R hS hl9 g1 g2
  have hkk : ∀ r k8 h8, qN P r k8 h8 → fA y E Z k8 h8 (nc + z.2.2.2.2.cells) (ns + z.2.2.2.2.slots) pc2 L (r.toList ++ st) := by rw [hz.1, hz.2]; rintro _ _ _ ⟨rfl, hp⟩; exact kk _ _ hp
  exact a_cS0 hd hl hm hr rfl hw (by rw [hz.1]; exact g1) (by rw [hz.2]; exact g2) hE hkk rfl p l e s m args below meth c H locs ls F R hS hl9 g1 g2
theorem a_V1V {a0 : Value} {v : Value} {q ci : Nat} {fs : List Value} {T : u_T} {N : Nat} (hd : fD y pc (.invokevirtual idx) 3 pc2) (hl : fML y.1.cls idx z) (hm : fMV z 1) (hr : fRm y z) (hq : h q = .inr (ci, fs)) (hcl : cls[ci]? = some (z.1.cls, T, N)) (hz : z.2.2.2.2.cells = 0 ∧ z.2.2.2.2.slots = 0) (hw : (st.map fun v => v.category).sum ≤ 8) (hE : fE z E (.ref q :: [a0]) k h (eV v k1 h1)) (kk : fA y E Z k1 h1 nc ns pc2 L (v :: st)) : fA y E Z k h nc ns pc L (a0 :: .ref q :: st) := by
  intro p l e s m args below meth c H locs ls F R hS hl9 g1 g2
  have hkk : ∀ r k8 h8, eV v k1 h1 r k8 h8 → fA y E Z k8 h8 (nc + z.2.2.2.2.cells) (ns + z.2.2.2.2.slots) pc2 L (r.toList ++ st) := by rw [hz.1, hz.2]; intro r k9 h9 hp; obtain ⟨e1, e2, e3⟩ := hp; rw [e1, e2, e3]; exact kk
  exact a_cV0 (As := [a0]) hd hl hm hr rfl hq hcl hw (by rw [hz.1]; exact g1) (by rw [hz.2]; exact g2) hE hkk rfl p l e s m args below meth c H locs ls F R hS hl9 g1 g2
theorem a_V1N {a0 : Value} {q ci : Nat} {fs : List Value} {T : u_T} {N : Nat} (hd : fD y pc (.invokevirtual idx) 3 pc2) (hl : fML y.1.cls idx z) (hm : fMV z 1) (hr : fRm y z) (hq : h q = .inr (ci, fs)) (hcl : cls[ci]? = some (z.1.cls, T, N)) (hz : z.2.2.2.2.cells = 0 ∧ z.2.2.2.2.slots = 0) (hw : (st.map fun v => v.category).sum ≤ 8) (hE : fE z E (.ref q :: [a0]) k h (eN k1 h1)) (kk : fA y E Z k1 h1 nc ns pc2 L st) : fA y E Z k h nc ns pc L (a0 :: .ref q :: st) := by
  intro p l e s m args below meth c H locs ls F R hS hl9 g1 g2
  have hkk : ∀ r k8 h8, eN k1 h1 r k8 h8 → fA y E Z k8 h8 (nc + z.2.2.2.2.cells) (ns + z.2.2.2.2.slots) pc2 L (r.toList ++ st) := by rw [hz.1, hz.2]; intro r k9 h9 hp; obtain ⟨e1, e2, e3⟩ := hp; rw [e1, e2, e3]; exact kk
  exact a_cV0 (As := [a0]) hd hl hm hr rfl hq hcl hw (by rw [hz.1]; exact g1) (by rw [hz.2]; exact g2) hE hkk rfl p l e s m args below meth c H locs ls F R hS hl9 g1 g2
theorem a_V1I {a0 : Value} {P : Int32 → Nat → hT → Prop} {q ci : Nat} {fs : List Value} {T : u_T} {N : Nat} (hd : fD y pc (.invokevirtual idx) 3 pc2) (hl : fML y.1.cls idx z) (hm : fMV z 1) (hr : fRm y z) (hq : h q = .inr (ci, fs)) (hcl : cls[ci]? = some (z.1.cls, T, N)) (hz : z.2.2.2.2.cells = 0 ∧ z.2.2.2.2.slots = 0) (hw : (st.map fun v => v.category).sum ≤ 8) (hE : fE z E (.ref q :: [a0]) k h (qI P)) (kk : ∀ v k1 h1, P v k1 h1 → fA y E Z k1 h1 nc ns pc2 L (.int v :: st)) : fA y E Z k h nc ns pc L (a0 :: .ref q :: st) := by
  intro p l e s m args below meth c H locs ls F R hS hl9 g1 g2
  have hkk : ∀ r k8 h8, qI P r k8 h8 → fA y E Z k8 h8 (nc + z.2.2.2.2.cells) (ns + z.2.2.2.2.slots) pc2 L (r.toList ++ st) := by rw [hz.1, hz.2]; rintro _ _ _ ⟨v, rfl, hp⟩; exact kk _ _ _ hp
  exact a_cV0 (As := [a0]) hd hl hm hr rfl hq hcl hw (by rw [hz.1]; exact g1) (by rw [hz.2]; exact g2) hE hkk rfl p l e s m args below meth c H locs ls F R hS hl9 g1 g2
theorem a_V1Q {a0 : Value} {P : Nat → hT → Prop} {q ci : Nat} {fs : List Value} {T : u_T} {N : Nat} (hd : fD y pc (.invokevirtual idx) 3 pc2) (hl : fML y.1.cls idx z) (hm : fMV z 1) (hr : fRm y z) (hq : h q = .inr (ci, fs)) (hcl : cls[ci]? = some (z.1.cls, T, N)) (hz : z.2.2.2.2.cells = 0 ∧ z.2.2.2.2.slots = 0) (hw : (st.map fun v => v.category).sum ≤ 8) (hE : fE z E (.ref q :: [a0]) k h (qN P)) (kk : ∀ k1 h1, P k1 h1 → fA y E Z k1 h1 nc ns pc2 L st) : fA y E Z k h nc ns pc L (a0 :: .ref q :: st) := by
  intro p l e s m args below meth c H locs ls F R hS hl9 g1 g2
  have hkk : ∀ r k8 h8, qN P r k8 h8 → fA y E Z k8 h8 (nc + z.2.2.2.2.cells) (ns + z.2.2.2.2.slots) pc2 L (r.toList ++ st) := by rw [hz.1, hz.2]; rintro _ _ _ ⟨rfl, hp⟩; exact kk _ _ hp
  exact a_cV0 (As := [a0]) hd hl hm hr rfl hq hcl hw (by rw [hz.1]; exact g1) (by rw [hz.2]; exact g2) hE hkk rfl p l e s m args below meth c H locs ls F R hS hl9 g1 g2
theorem a_S2V {a0 a1 : Value} {v : Value} (hd : fD y pc (.invokestatic idx) 3 pc2) (hl : fML y.1.cls idx z) (hm : fMS z 2) (hr : fRm y z) (hz : z.2.2.2.2.cells = 0 ∧ z.2.2.2.2.slots = 0) (hw : (st.map fun v => v.category).sum ≤ 8) (hE : fE z E [a0, a1] k h (eV v k1 h1)) (kk : fA y E Z k1 h1 nc ns pc2 L (v :: st)) : fA y E Z k h nc ns pc L (a1 :: a0 :: st) := by
  intro p l e s m args below meth c H locs ls F R hS hl9 g1 g2
  have hkk : ∀ r k8 h8, eV v k1 h1 r k8 h8 → fA y E Z k8 h8 (nc + z.2.2.2.2.cells) (ns + z.2.2.2.2.slots) pc2 L (r.toList ++ st) := by rw [hz.1, hz.2]; intro r k9 h9 hp; obtain ⟨e1, e2, e3⟩ := hp; rw [e1, e2, e3]; exact kk
  exact a_cS0 hd hl hm hr rfl hw (by rw [hz.1]; exact g1) (by rw [hz.2]; exact g2) hE hkk rfl p l e s m args below meth c H locs ls F R hS hl9 g1 g2
theorem a_S2N {a0 a1 : Value} (hd : fD y pc (.invokestatic idx) 3 pc2) (hl : fML y.1.cls idx z) (hm : fMS z 2) (hr : fRm y z) (hz : z.2.2.2.2.cells = 0 ∧ z.2.2.2.2.slots = 0) (hw : (st.map fun v => v.category).sum ≤ 8) (hE : fE z E [a0, a1] k h (eN k1 h1)) (kk : fA y E Z k1 h1 nc ns pc2 L st) : fA y E Z k h nc ns pc L (a1 :: a0 :: st) := by
  intro p l e s m args below meth c H locs ls F R hS hl9 g1 g2
  have hkk : ∀ r k8 h8, eN k1 h1 r k8 h8 → fA y E Z k8 h8 (nc + z.2.2.2.2.cells) (ns + z.2.2.2.2.slots) pc2 L (r.toList ++ st) := by rw [hz.1, hz.2]; intro r k9 h9 hp; obtain ⟨e1, e2, e3⟩ := hp; rw [e1, e2, e3]; exact kk
  exact a_cS0 hd hl hm hr rfl hw (by rw [hz.1]; exact g1) (by rw [hz.2]; exact g2) hE hkk rfl p l e s m args below meth c H locs ls F R hS hl9 g1 g2
theorem a_S2I {a0 a1 : Value} {P : Int32 → Nat → hT → Prop} (hd : fD y pc (.invokestatic idx) 3 pc2) (hl : fML y.1.cls idx z) (hm : fMS z 2) (hr : fRm y z) (hz : z.2.2.2.2.cells = 0 ∧ z.2.2.2.2.slots = 0) (hw : (st.map fun v => v.category).sum ≤ 8) (hE : fE z E [a0, a1] k h (qI P)) (kk : ∀ v k1 h1, P v k1 h1 → fA y E Z k1 h1 nc ns pc2 L (.int v :: st)) : fA y E Z k h nc ns pc L (a1 :: a0 :: st) := by
  intro p l e s m args below meth c H locs ls F R hS hl9 g1 g2
  have hkk : ∀ r k8 h8, qI P r k8 h8 → fA y E Z k8 h8 (nc + z.2.2.2.2.cells) (ns + z.2.2.2.2.slots) pc2 L (r.toList ++ st) := by rw [hz.1, hz.2]; rintro _ _ _ ⟨v, rfl, hp⟩; exact kk _ _ _ hp
  exact a_cS0 hd hl hm hr rfl hw (by rw [hz.1]; exact g1) (by rw [hz.2]; exact g2) hE hkk rfl p l e s m args below meth c H locs ls F R hS hl9 g1 g2
theorem a_S2Q {a0 a1 : Value} {P : Nat → hT → Prop} (hd : fD y pc (.invokestatic idx) 3 pc2) (hl : fML y.1.cls idx z) (hm : fMS z 2) (hr : fRm y z) (hz : z.2.2.2.2.cells = 0 ∧ z.2.2.2.2.slots = 0) (hw : (st.map fun v => v.category).sum ≤ 8) (hE : fE z E [a0, a1] k h (qN P)) (kk : ∀ k1 h1, P k1 h1 → fA y E Z k1 h1 nc ns pc2 L st) : fA y E Z k h nc ns pc L (a1 :: a0 :: st) := by
  intro p l e s m args below meth c H locs ls F R hS hl9 g1 g2
  have hkk : ∀ r k8 h8, qN P r k8 h8 → fA y E Z k8 h8 (nc + z.2.2.2.2.cells) (ns + z.2.2.2.2.slots) pc2 L (r.toList ++ st) := by rw [hz.1, hz.2]; rintro _ _ _ ⟨rfl, hp⟩; exact kk _ _ hp
  exact a_cS0 hd hl hm hr rfl hw (by rw [hz.1]; exact g1) (by rw [hz.2]; exact g2) hE hkk rfl p l e s m args below meth c H locs ls F R hS hl9 g1 g2
theorem a_V2V {a0 a1 : Value} {v : Value} {q ci : Nat} {fs : List Value} {T : u_T} {N : Nat} (hd : fD y pc (.invokevirtual idx) 3 pc2) (hl : fML y.1.cls idx z) (hm : fMV z 2) (hr : fRm y z) (hq : h q = .inr (ci, fs)) (hcl : cls[ci]? = some (z.1.cls, T, N)) (hz : z.2.2.2.2.cells = 0 ∧ z.2.2.2.2.slots = 0) (hw : (st.map fun v => v.category).sum ≤ 8) (hE : fE z E (.ref q :: [a0, a1]) k h (eV v k1 h1)) (kk : fA y E Z k1 h1 nc ns pc2 L (v :: st)) : fA y E Z k h nc ns pc L (a1 :: a0 :: .ref q :: st) := by
  intro p l e s m args below meth c H locs ls F R hS hl9 g1 g2
  have hkk : ∀ r k8 h8, eV v k1 h1 r k8 h8 → fA y E Z k8 h8 (nc + z.2.2.2.2.cells) (ns + z.2.2.2.2.slots) pc2 L (r.toList ++ st) := by rw [hz.1, hz.2]; intro r k9 h9 hp; obtain ⟨e1, e2, e3⟩ := hp; rw [e1, e2, e3]; exact kk
  exact a_cV0 (As := [a0, a1]) hd hl hm hr rfl hq hcl hw (by rw [hz.1]; exact g1) (by rw [hz.2]; exact g2) hE hkk rfl p l e s m args below meth c H locs ls F R hS hl9 g1 g2
theorem a_V2N {a0 a1 : Value} {q ci : Nat} {fs : List Value} {T : u_T} {N : Nat} (hd : fD y pc (.invokevirtual idx) 3 pc2) (hl : fML y.1.cls idx z) (hm : fMV z 2) (hr : fRm y z) (hq : h q = .inr (ci, fs)) (hcl : cls[ci]? = some (z.1.cls, T, N)) (hz : z.2.2.2.2.cells = 0 ∧ z.2.2.2.2.slots = 0) (hw : (st.map fun v => v.category).sum ≤ 8) (hE : fE z E (.ref q :: [a0, a1]) k h (eN k1 h1)) (kk : fA y E Z k1 h1 nc ns pc2 L st) : fA y E Z k h nc ns pc L (a1 :: a0 :: .ref q :: st) := by
  intro p l e s m args below meth c H locs ls F R hS hl9 g1 g2
  have hkk : ∀ r k8 h8, eN k1 h1 r k8 h8 → fA y E Z k8 h8 (nc + z.2.2.2.2.cells) (ns + z.2.2.2.2.slots) pc2 L (r.toList ++ st) := by rw [hz.1, hz.2]; intro r k9 h9 hp; obtain ⟨e1, e2, e3⟩ := hp; rw [e1, e2, e3]; exact kk
  exact a_cV0 (As := [a0, a1]) hd hl hm hr rfl hq hcl hw (by rw [hz.1]; exact g1) (by rw [hz.2]; exact g2) hE hkk rfl p l e s m args below meth c H locs ls F R hS hl9 g1 g2
theorem a_V2I {a0 a1 : Value} {P : Int32 → Nat → hT → Prop} {q ci : Nat} {fs : List Value} {T : u_T} {N : Nat} (hd : fD y pc (.invokevirtual idx) 3 pc2) (hl : fML y.1.cls idx z) (hm : fMV z 2) (hr : fRm y z) (hq : h q = .inr (ci, fs)) (hcl : cls[ci]? = some (z.1.cls, T, N)) (hz : z.2.2.2.2.cells = 0 ∧ z.2.2.2.2.slots = 0) (hw : (st.map fun v => v.category).sum ≤ 8) (hE : fE z E (.ref q :: [a0, a1]) k h (qI P)) (kk : ∀ v k1 h1, P v k1 h1 → fA y E Z k1 h1 nc ns pc2 L (.int v :: st)) : fA y E Z k h nc ns pc L (a1 :: a0 :: .ref q :: st) := by
  intro p l e s m args below meth c H locs ls F R hS hl9 g1 g2
  have hkk : ∀ r k8 h8, qI P r k8 h8 → fA y E Z k8 h8 (nc + z.2.2.2.2.cells) (ns + z.2.2.2.2.slots) pc2 L (r.toList ++ st) := by rw [hz.1, hz.2]; rintro _ _ _ ⟨v, rfl, hp⟩; exact kk _ _ _ hp
  exact a_cV0 (As := [a0, a1]) hd hl hm hr rfl hq hcl hw (by rw [hz.1]; exact g1) (by rw [hz.2]; exact g2) hE hkk rfl p l e s m args below meth c H locs ls F R hS hl9 g1 g2
theorem a_V2Q {a0 a1 : Value} {P : Nat → hT → Prop} {q ci : Nat} {fs : List Value} {T : u_T} {N : Nat} (hd : fD y pc (.invokevirtual idx) 3 pc2) (hl : fML y.1.cls idx z) (hm : fMV z 2) (hr : fRm y z) (hq : h q = .inr (ci, fs)) (hcl : cls[ci]? = some (z.1.cls, T, N)) (hz : z.2.2.2.2.cells = 0 ∧ z.2.2.2.2.slots = 0) (hw : (st.map fun v => v.category).sum ≤ 8) (hE : fE z E (.ref q :: [a0, a1]) k h (qN P)) (kk : ∀ k1 h1, P k1 h1 → fA y E Z k1 h1 nc ns pc2 L st) : fA y E Z k h nc ns pc L (a1 :: a0 :: .ref q :: st) := by
  intro p l e s m args below meth c H locs ls F R hS hl9 g1 g2
  have hkk : ∀ r k8 h8, qN P r k8 h8 → fA y E Z k8 h8 (nc + z.2.2.2.2.cells) (ns + z.2.2.2.2.slots) pc2 L (r.toList ++ st) := by rw [hz.1, hz.2]; rintro _ _ _ ⟨rfl, hp⟩; exact kk _ _ hp
  exact a_cV0 (As := [a0, a1]) hd hl hm hr rfl hq hcl hw (by rw [hz.1]; exact g1) (by rw [hz.2]; exact g2) hE hkk rfl p l e s m args below meth c H locs ls F R hS hl9 g1 g2
theorem a_S3V {a0 a1 a2 : Value} {v : Value} (hd : fD y pc (.invokestatic idx) 3 pc2) (hl : fML y.1.cls idx z) (hm : fMS z 3) (hr : fRm y z) (hz : z.2.2.2.2.cells = 0 ∧ z.2.2.2.2.slots = 0) (hw : (st.map fun v => v.category).sum ≤ 8) (hE : fE z E [a0, a1, a2] k h (eV v k1 h1)) (kk : fA y E Z k1 h1 nc ns pc2 L (v :: st)) : fA y E Z k h nc ns pc L (a2 :: a1 :: a0 :: st) := by
  intro p l e s m args below meth c H locs ls F R hS hl9 g1 g2
  have hkk : ∀ r k8 h8, eV v k1 h1 r k8 h8 → fA y E Z k8 h8 (nc + z.2.2.2.2.cells) (ns + z.2.2.2.2.slots) pc2 L (r.toList ++ st) := by rw [hz.1, hz.2]; intro r k9 h9 hp; obtain ⟨e1, e2, e3⟩ := hp; rw [e1, e2, e3]; exact kk
  exact a_cS0 hd hl hm hr rfl hw (by rw [hz.1]; exact g1) (by rw [hz.2]; exact g2) hE hkk rfl p l e s m args below meth c H locs ls F R hS hl9 g1 g2
theorem a_S3N {a0 a1 a2 : Value} (hd : fD y pc (.invokestatic idx) 3 pc2) (hl : fML y.1.cls idx z) (hm : fMS z 3) (hr : fRm y z) (hz : z.2.2.2.2.cells = 0 ∧ z.2.2.2.2.slots = 0) (hw : (st.map fun v => v.category).sum ≤ 8) (hE : fE z E [a0, a1, a2] k h (eN k1 h1)) (kk : fA y E Z k1 h1 nc ns pc2 L st) : fA y E Z k h nc ns pc L (a2 :: a1 :: a0 :: st) := by
  intro p l e s m args below meth c H locs ls F R hS hl9 g1 g2
  have hkk : ∀ r k8 h8, eN k1 h1 r k8 h8 → fA y E Z k8 h8 (nc + z.2.2.2.2.cells) (ns + z.2.2.2.2.slots) pc2 L (r.toList ++ st) := by rw [hz.1, hz.2]; intro r k9 h9 hp; obtain ⟨e1, e2, e3⟩ := hp; rw [e1, e2, e3]; exact kk
  exact a_cS0 hd hl hm hr rfl hw (by rw [hz.1]; exact g1) (by rw [hz.2]; exact g2) hE hkk rfl p l e s m args below meth c H locs ls F R hS hl9 g1 g2
theorem a_S3I {a0 a1 a2 : Value} {P : Int32 → Nat → hT → Prop} (hd : fD y pc (.invokestatic idx) 3 pc2) (hl : fML y.1.cls idx z) (hm : fMS z 3) (hr : fRm y z) (hz : z.2.2.2.2.cells = 0 ∧ z.2.2.2.2.slots = 0) (hw : (st.map fun v => v.category).sum ≤ 8) (hE : fE z E [a0, a1, a2] k h (qI P)) (kk : ∀ v k1 h1, P v k1 h1 → fA y E Z k1 h1 nc ns pc2 L (.int v :: st)) : fA y E Z k h nc ns pc L (a2 :: a1 :: a0 :: st) := by
  intro p l e s m args below meth c H locs ls F R hS hl9 g1 g2
  have hkk : ∀ r k8 h8, qI P r k8 h8 → fA y E Z k8 h8 (nc + z.2.2.2.2.cells) (ns + z.2.2.2.2.slots) pc2 L (r.toList ++ st) := by rw [hz.1, hz.2]; rintro _ _ _ ⟨v, rfl, hp⟩; exact kk _ _ _ hp
  exact a_cS0 hd hl hm hr rfl hw (by rw [hz.1]; exact g1) (by rw [hz.2]; exact g2) hE hkk rfl p l e s m args below meth c H locs ls F R hS hl9 g1 g2
theorem a_S3Q {a0 a1 a2 : Value} {P : Nat → hT → Prop} (hd : fD y pc (.invokestatic idx) 3 pc2) (hl : fML y.1.cls idx z) (hm : fMS z 3) (hr : fRm y z) (hz : z.2.2.2.2.cells = 0 ∧ z.2.2.2.2.slots = 0) (hw : (st.map fun v => v.category).sum ≤ 8) (hE : fE z E [a0, a1, a2] k h (qN P)) (kk : ∀ k1 h1, P k1 h1 → fA y E Z k1 h1 nc ns pc2 L st) : fA y E Z k h nc ns pc L (a2 :: a1 :: a0 :: st) := by
  intro p l e s m args below meth c H locs ls F R hS hl9 g1 g2
  have hkk : ∀ r k8 h8, qN P r k8 h8 → fA y E Z k8 h8 (nc + z.2.2.2.2.cells) (ns + z.2.2.2.2.slots) pc2 L (r.toList ++ st) := by rw [hz.1, hz.2]; rintro _ _ _ ⟨rfl, hp⟩; exact kk _ _ hp
  exact a_cS0 hd hl hm hr rfl hw (by rw [hz.1]; exact g1) (by rw [hz.2]; exact g2) hE hkk rfl p l e s m args below meth c H locs ls F R hS hl9 g1 g2
theorem a_V3V {a0 a1 a2 : Value} {v : Value} {q ci : Nat} {fs : List Value} {T : u_T} {N : Nat} (hd : fD y pc (.invokevirtual idx) 3 pc2) (hl : fML y.1.cls idx z) (hm : fMV z 3) (hr : fRm y z) (hq : h q = .inr (ci, fs)) (hcl : cls[ci]? = some (z.1.cls, T, N)) (hz : z.2.2.2.2.cells = 0 ∧ z.2.2.2.2.slots = 0) (hw : (st.map fun v => v.category).sum ≤ 8) (hE : fE z E (.ref q :: [a0, a1, a2]) k h (eV v k1 h1)) (kk : fA y E Z k1 h1 nc ns pc2 L (v :: st)) : fA y E Z k h nc ns pc L (a2 :: a1 :: a0 :: .ref q :: st) := by
  intro p l e s m args below meth c H locs ls F R hS hl9 g1 g2
  have hkk : ∀ r k8 h8, eV v k1 h1 r k8 h8 → fA y E Z k8 h8 (nc + z.2.2.2.2.cells) (ns + z.2.2.2.2.slots) pc2 L (r.toList ++ st) := by rw [hz.1, hz.2]; intro r k9 h9 hp; obtain ⟨e1, e2, e3⟩ := hp; rw [e1, e2, e3]; exact kk
  exact a_cV0 (As := [a0, a1, a2]) hd hl hm hr rfl hq hcl hw (by rw [hz.1]; exact g1) (by rw [hz.2]; exact g2) hE hkk rfl p l e s m args below meth c H locs ls F R hS hl9 g1 g2
theorem a_V3N {a0 a1 a2 : Value} {q ci : Nat} {fs : List Value} {T : u_T} {N : Nat} (hd : fD y pc (.invokevirtual idx) 3 pc2) (hl : fML y.1.cls idx z) (hm : fMV z 3) (hr : fRm y z) (hq : h q = .inr (ci, fs)) (hcl : cls[ci]? = some (z.1.cls, T, N)) (hz : z.2.2.2.2.cells = 0 ∧ z.2.2.2.2.slots = 0) (hw : (st.map fun v => v.category).sum ≤ 8) (hE : fE z E (.ref q :: [a0, a1, a2]) k h (eN k1 h1)) (kk : fA y E Z k1 h1 nc ns pc2 L st) : fA y E Z k h nc ns pc L (a2 :: a1 :: a0 :: .ref q :: st) := by
  intro p l e s m args below meth c H locs ls F R hS hl9 g1 g2
  have hkk : ∀ r k8 h8, eN k1 h1 r k8 h8 → fA y E Z k8 h8 (nc + z.2.2.2.2.cells) (ns + z.2.2.2.2.slots) pc2 L (r.toList ++ st) := by rw [hz.1, hz.2]; intro r k9 h9 hp; obtain ⟨e1, e2, e3⟩ := hp; rw [e1, e2, e3]; exact kk
  exact a_cV0 (As := [a0, a1, a2]) hd hl hm hr rfl hq hcl hw (by rw [hz.1]; exact g1) (by rw [hz.2]; exact g2) hE hkk rfl p l e s m args below meth c H locs ls F R hS hl9 g1 g2
theorem a_V3I {a0 a1 a2 : Value} {P : Int32 → Nat → hT → Prop} {q ci : Nat} {fs : List Value} {T : u_T} {N : Nat} (hd : fD y pc (.invokevirtual idx) 3 pc2) (hl : fML y.1.cls idx z) (hm : fMV z 3) (hr : fRm y z) (hq : h q = .inr (ci, fs)) (hcl : cls[ci]? = some (z.1.cls, T, N)) (hz : z.2.2.2.2.cells = 0 ∧ z.2.2.2.2.slots = 0) (hw : (st.map fun v => v.category).sum ≤ 8) (hE : fE z E (.ref q :: [a0, a1, a2]) k h (qI P)) (kk : ∀ v k1 h1, P v k1 h1 → fA y E Z k1 h1 nc ns pc2 L (.int v :: st)) : fA y E Z k h nc ns pc L (a2 :: a1 :: a0 :: .ref q :: st) := by
  intro p l e s m args below meth c H locs ls F R hS hl9 g1 g2
  have hkk : ∀ r k8 h8, qI P r k8 h8 → fA y E Z k8 h8 (nc + z.2.2.2.2.cells) (ns + z.2.2.2.2.slots) pc2 L (r.toList ++ st) := by rw [hz.1, hz.2]; rintro _ _ _ ⟨v, rfl, hp⟩; exact kk _ _ _ hp
  exact a_cV0 (As := [a0, a1, a2]) hd hl hm hr rfl hq hcl hw (by rw [hz.1]; exact g1) (by rw [hz.2]; exact g2) hE hkk rfl p l e s m args below meth c H locs ls F R hS hl9 g1 g2
theorem a_V3Q {a0 a1 a2 : Value} {P : Nat → hT → Prop} {q ci : Nat} {fs : List Value} {T : u_T} {N : Nat} (hd : fD y pc (.invokevirtual idx) 3 pc2) (hl : fML y.1.cls idx z) (hm : fMV z 3) (hr : fRm y z) (hq : h q = .inr (ci, fs)) (hcl : cls[ci]? = some (z.1.cls, T, N)) (hz : z.2.2.2.2.cells = 0 ∧ z.2.2.2.2.slots = 0) (hw : (st.map fun v => v.category).sum ≤ 8) (hE : fE z E (.ref q :: [a0, a1, a2]) k h (qN P)) (kk : ∀ k1 h1, P k1 h1 → fA y E Z k1 h1 nc ns pc2 L st) : fA y E Z k h nc ns pc L (a2 :: a1 :: a0 :: .ref q :: st) := by
  intro p l e s m args below meth c H locs ls F R hS hl9 g1 g2
  have hkk : ∀ r k8 h8, qN P r k8 h8 → fA y E Z k8 h8 (nc + z.2.2.2.2.cells) (ns + z.2.2.2.2.slots) pc2 L (r.toList ++ st) := by rw [hz.1, hz.2]; rintro _ _ _ ⟨rfl, hp⟩; exact kk _ _ hp
  exact a_cV0 (As := [a0, a1, a2]) hd hl hm hr rfl hq hcl hw (by rw [hz.1]; exact g1) (by rw [hz.2]; exact g2) hE hkk rfl p l e s m args below meth c H locs ls F R hS hl9 g1 g2
theorem a_S4V {a0 a1 a2 a3 : Value} {v : Value} (hd : fD y pc (.invokestatic idx) 3 pc2) (hl : fML y.1.cls idx z) (hm : fMS z 4) (hr : fRm y z) (hz : z.2.2.2.2.cells = 0 ∧ z.2.2.2.2.slots = 0) (hw : (st.map fun v => v.category).sum ≤ 8) (hE : fE z E [a0, a1, a2, a3] k h (eV v k1 h1)) (kk : fA y E Z k1 h1 nc ns pc2 L (v :: st)) : fA y E Z k h nc ns pc L (a3 :: a2 :: a1 :: a0 :: st) := by
  intro p l e s m args below meth c H locs ls F R hS hl9 g1 g2
  have hkk : ∀ r k8 h8, eV v k1 h1 r k8 h8 → fA y E Z k8 h8 (nc + z.2.2.2.2.cells) (ns + z.2.2.2.2.slots) pc2 L (r.toList ++ st) := by rw [hz.1, hz.2]; intro r k9 h9 hp; obtain ⟨e1, e2, e3⟩ := hp; rw [e1, e2, e3]; exact kk
  exact a_cS0 hd hl hm hr rfl hw (by rw [hz.1]; exact g1) (by rw [hz.2]; exact g2) hE hkk rfl p l e s m args below meth c H locs ls F R hS hl9 g1 g2
theorem a_S4N {a0 a1 a2 a3 : Value} (hd : fD y pc (.invokestatic idx) 3 pc2) (hl : fML y.1.cls idx z) (hm : fMS z 4) (hr : fRm y z) (hz : z.2.2.2.2.cells = 0 ∧ z.2.2.2.2.slots = 0) (hw : (st.map fun v => v.category).sum ≤ 8) (hE : fE z E [a0, a1, a2, a3] k h (eN k1 h1)) (kk : fA y E Z k1 h1 nc ns pc2 L st) : fA y E Z k h nc ns pc L (a3 :: a2 :: a1 :: a0 :: st) := by
  intro p l e s m args below meth c H locs ls F R hS hl9 g1 g2
  have hkk : ∀ r k8 h8, eN k1 h1 r k8 h8 → fA y E Z k8 h8 (nc + z.2.2.2.2.cells) (ns + z.2.2.2.2.slots) pc2 L (r.toList ++ st) := by rw [hz.1, hz.2]; intro r k9 h9 hp; obtain ⟨e1, e2, e3⟩ := hp; rw [e1, e2, e3]; exact kk
  exact a_cS0 hd hl hm hr rfl hw (by rw [hz.1]; exact g1) (by rw [hz.2]; exact g2) hE hkk rfl p l e s m args below meth c H locs ls F R hS hl9 g1 g2
theorem a_S4I {a0 a1 a2 a3 : Value} {P : Int32 → Nat → hT → Prop} (hd : fD y pc (.invokestatic idx) 3 pc2) (hl : fML y.1.cls idx z) (hm : fMS z 4) (hr : fRm y z) (hz : z.2.2.2.2.cells = 0 ∧ z.2.2.2.2.slots = 0) (hw : (st.map fun v => v.category).sum ≤ 8) (hE : fE z E [a0, a1, a2, a3] k h (qI P)) (kk : ∀ v k1 h1, P v k1 h1 → fA y E Z k1 h1 nc ns pc2 L (.int v :: st)) : fA y E Z k h nc ns pc L (a3 :: a2 :: a1 :: a0 :: st) := by
  intro p l e s m args below meth c H locs ls F R hS hl9 g1 g2
  have hkk : ∀ r k8 h8, qI P r k8 h8 → fA y E Z k8 h8 (nc + z.2.2.2.2.cells) (ns + z.2.2.2.2.slots) pc2 L (r.toList ++ st) := by rw [hz.1, hz.2]; rintro _ _ _ ⟨v, rfl, hp⟩; exact kk _ _ _ hp
  exact a_cS0 hd hl hm hr rfl hw (by rw [hz.1]; exact g1) (by rw [hz.2]; exact g2) hE hkk rfl p l e s m args below meth c H locs ls F R hS hl9 g1 g2
theorem a_S4Q {a0 a1 a2 a3 : Value} {P : Nat → hT → Prop} (hd : fD y pc (.invokestatic idx) 3 pc2) (hl : fML y.1.cls idx z) (hm : fMS z 4) (hr : fRm y z) (hz : z.2.2.2.2.cells = 0 ∧ z.2.2.2.2.slots = 0) (hw : (st.map fun v => v.category).sum ≤ 8) (hE : fE z E [a0, a1, a2, a3] k h (qN P)) (kk : ∀ k1 h1, P k1 h1 → fA y E Z k1 h1 nc ns pc2 L st) : fA y E Z k h nc ns pc L (a3 :: a2 :: a1 :: a0 :: st) := by
  intro p l e s m args below meth c H locs ls F R hS hl9 g1 g2
  have hkk : ∀ r k8 h8, qN P r k8 h8 → fA y E Z k8 h8 (nc + z.2.2.2.2.cells) (ns + z.2.2.2.2.slots) pc2 L (r.toList ++ st) := by rw [hz.1, hz.2]; rintro _ _ _ ⟨rfl, hp⟩; exact kk _ _ hp
  exact a_cS0 hd hl hm hr rfl hw (by rw [hz.1]; exact g1) (by rw [hz.2]; exact g2) hE hkk rfl p l e s m args below meth c H locs ls F R hS hl9 g1 g2
theorem a_V4V {a0 a1 a2 a3 : Value} {v : Value} {q ci : Nat} {fs : List Value} {T : u_T} {N : Nat} (hd : fD y pc (.invokevirtual idx) 3 pc2) (hl : fML y.1.cls idx z) (hm : fMV z 4) (hr : fRm y z) (hq : h q = .inr (ci, fs)) (hcl : cls[ci]? = some (z.1.cls, T, N)) (hz : z.2.2.2.2.cells = 0 ∧ z.2.2.2.2.slots = 0) (hw : (st.map fun v => v.category).sum ≤ 8) (hE : fE z E (.ref q :: [a0, a1, a2, a3]) k h (eV v k1 h1)) (kk : fA y E Z k1 h1 nc ns pc2 L (v :: st)) : fA y E Z k h nc ns pc L (a3 :: a2 :: a1 :: a0 :: .ref q :: st) := by
  intro p l e s m args below meth c H locs ls F R hS hl9 g1 g2
  have hkk : ∀ r k8 h8, eV v k1 h1 r k8 h8 → fA y E Z k8 h8 (nc + z.2.2.2.2.cells) (ns + z.2.2.2.2.slots) pc2 L (r.toList ++ st) := by rw [hz.1, hz.2]; intro r k9 h9 hp; obtain ⟨e1, e2, e3⟩ := hp; rw [e1, e2, e3]; exact kk
  exact a_cV0 (As := [a0, a1, a2, a3]) hd hl hm hr rfl hq hcl hw (by rw [hz.1]; exact g1) (by rw [hz.2]; exact g2) hE hkk rfl p l e s m args below meth c H locs ls F R hS hl9 g1 g2
theorem a_V4N {a0 a1 a2 a3 : Value} {q ci : Nat} {fs : List Value} {T : u_T} {N : Nat} (hd : fD y pc (.invokevirtual idx) 3 pc2) (hl : fML y.1.cls idx z) (hm : fMV z 4) (hr : fRm y z) (hq : h q = .inr (ci, fs)) (hcl : cls[ci]? = some (z.1.cls, T, N)) (hz : z.2.2.2.2.cells = 0 ∧ z.2.2.2.2.slots = 0) (hw : (st.map fun v => v.category).sum ≤ 8) (hE : fE z E (.ref q :: [a0, a1, a2, a3]) k h (eN k1 h1)) (kk : fA y E Z k1 h1 nc ns pc2 L st) : fA y E Z k h nc ns pc L (a3 :: a2 :: a1 :: a0 :: .ref q :: st) := by
  intro p l e s m args below meth c H locs ls F R hS hl9 g1 g2
  have hkk : ∀ r k8 h8, eN k1 h1 r k8 h8 → fA y E Z k8 h8 (nc + z.2.2.2.2.cells) (ns + z.2.2.2.2.slots) pc2 L (r.toList ++ st) := by rw [hz.1, hz.2]; intro r k9 h9 hp; obtain ⟨e1, e2, e3⟩ := hp; rw [e1, e2, e3]; exact kk
  exact a_cV0 (As := [a0, a1, a2, a3]) hd hl hm hr rfl hq hcl hw (by rw [hz.1]; exact g1) (by rw [hz.2]; exact g2) hE hkk rfl p l e s m args below meth c H locs ls F R hS hl9 g1 g2
theorem a_V4I {a0 a1 a2 a3 : Value} {P : Int32 → Nat → hT → Prop} {q ci : Nat} {fs : List Value} {T : u_T} {N : Nat} (hd : fD y pc (.invokevirtual idx) 3 pc2) (hl : fML y.1.cls idx z) (hm : fMV z 4) (hr : fRm y z) (hq : h q = .inr (ci, fs)) (hcl : cls[ci]? = some (z.1.cls, T, N)) (hz : z.2.2.2.2.cells = 0 ∧ z.2.2.2.2.slots = 0) (hw : (st.map fun v => v.category).sum ≤ 8) (hE : fE z E (.ref q :: [a0, a1, a2, a3]) k h (qI P)) (kk : ∀ v k1 h1, P v k1 h1 → fA y E Z k1 h1 nc ns pc2 L (.int v :: st)) : fA y E Z k h nc ns pc L (a3 :: a2 :: a1 :: a0 :: .ref q :: st) := by
  intro p l e s m args below meth c H locs ls F R hS hl9 g1 g2
  have hkk : ∀ r k8 h8, qI P r k8 h8 → fA y E Z k8 h8 (nc + z.2.2.2.2.cells) (ns + z.2.2.2.2.slots) pc2 L (r.toList ++ st) := by rw [hz.1, hz.2]; rintro _ _ _ ⟨v, rfl, hp⟩; exact kk _ _ _ hp
  exact a_cV0 (As := [a0, a1, a2, a3]) hd hl hm hr rfl hq hcl hw (by rw [hz.1]; exact g1) (by rw [hz.2]; exact g2) hE hkk rfl p l e s m args below meth c H locs ls F R hS hl9 g1 g2
theorem a_V4Q {a0 a1 a2 a3 : Value} {P : Nat → hT → Prop} {q ci : Nat} {fs : List Value} {T : u_T} {N : Nat} (hd : fD y pc (.invokevirtual idx) 3 pc2) (hl : fML y.1.cls idx z) (hm : fMV z 4) (hr : fRm y z) (hq : h q = .inr (ci, fs)) (hcl : cls[ci]? = some (z.1.cls, T, N)) (hz : z.2.2.2.2.cells = 0 ∧ z.2.2.2.2.slots = 0) (hw : (st.map fun v => v.category).sum ≤ 8) (hE : fE z E (.ref q :: [a0, a1, a2, a3]) k h (qN P)) (kk : ∀ k1 h1, P k1 h1 → fA y E Z k1 h1 nc ns pc2 L st) : fA y E Z k h nc ns pc L (a3 :: a2 :: a1 :: a0 :: .ref q :: st) := by
  intro p l e s m args below meth c H locs ls F R hS hl9 g1 g2
  have hkk : ∀ r k8 h8, qN P r k8 h8 → fA y E Z k8 h8 (nc + z.2.2.2.2.cells) (ns + z.2.2.2.2.slots) pc2 L (r.toList ++ st) := by rw [hz.1, hz.2]; rintro _ _ _ ⟨rfl, hp⟩; exact kk _ _ hp
  exact a_cV0 (As := [a0, a1, a2, a3]) hd hl hm hr rfl hq hcl hw (by rw [hz.1]; exact g1) (by rw [hz.2]; exact g2) hE hkk rfl p l e s m args below meth c H locs ls F R hS hl9 g1 g2
theorem a_S5V {a0 a1 a2 a3 a4 : Value} {v : Value} (hd : fD y pc (.invokestatic idx) 3 pc2) (hl : fML y.1.cls idx z) (hm : fMS z 5) (hr : fRm y z) (hz : z.2.2.2.2.cells = 0 ∧ z.2.2.2.2.slots = 0) (hw : (st.map fun v => v.category).sum ≤ 8) (hE : fE z E [a0, a1, a2, a3, a4] k h (eV v k1 h1)) (kk : fA y E Z k1 h1 nc ns pc2 L (v :: st)) : fA y E Z k h nc ns pc L (a4 :: a3 :: a2 :: a1 :: a0 :: st) := by
  intro p l e s m args below meth c H locs ls F R hS hl9 g1 g2
  have hkk : ∀ r k8 h8, eV v k1 h1 r k8 h8 → fA y E Z k8 h8 (nc + z.2.2.2.2.cells) (ns + z.2.2.2.2.slots) pc2 L (r.toList ++ st) := by rw [hz.1, hz.2]; intro r k9 h9 hp; obtain ⟨e1, e2, e3⟩ := hp; rw [e1, e2, e3]; exact kk
  exact a_cS0 hd hl hm hr rfl hw (by rw [hz.1]; exact g1) (by rw [hz.2]; exact g2) hE hkk rfl p l e s m args below meth c H locs ls F R hS hl9 g1 g2
theorem a_S5N {a0 a1 a2 a3 a4 : Value} (hd : fD y pc (.invokestatic idx) 3 pc2) (hl : fML y.1.cls idx z) (hm : fMS z 5) (hr : fRm y z) (hz : z.2.2.2.2.cells = 0 ∧ z.2.2.2.2.slots = 0) (hw : (st.map fun v => v.category).sum ≤ 8) (hE : fE z E [a0, a1, a2, a3, a4] k h (eN k1 h1)) (kk : fA y E Z k1 h1 nc ns pc2 L st) : fA y E Z k h nc ns pc L (a4 :: a3 :: a2 :: a1 :: a0 :: st) := by
  intro p l e s m args below meth c H locs ls F R hS hl9 g1 g2
  have hkk : ∀ r k8 h8, eN k1 h1 r k8 h8 → fA y E Z k8 h8 (nc + z.2.2.2.2.cells) (ns + z.2.2.2.2.slots) pc2 L (r.toList ++ st) := by rw [hz.1, hz.2]; intro r k9 h9 hp; obtain ⟨e1, e2, e3⟩ := hp; rw [e1, e2, e3]; exact kk
  exact a_cS0 hd hl hm hr rfl hw (by rw [hz.1]; exact g1) (by rw [hz.2]; exact g2) hE hkk rfl p l e s m args below meth c H locs ls F R hS hl9 g1 g2
theorem a_S5I {a0 a1 a2 a3 a4 : Value} {P : Int32 → Nat → hT → Prop} (hd : fD y pc (.invokestatic idx) 3 pc2) (hl : fML y.1.cls idx z) (hm : fMS z 5) (hr : fRm y z) (hz : z.2.2.2.2.cells = 0 ∧ z.2.2.2.2.slots = 0) (hw : (st.map fun v => v.category).sum ≤ 8) (hE : fE z E [a0, a1, a2, a3, a4] k h (qI P)) (kk : ∀ v k1 h1, P v k1 h1 → fA y E Z k1 h1 nc ns pc2 L (.int v :: st)) : fA y E Z k h nc ns pc L (a4 :: a3 :: a2 :: a1 :: a0 :: st) := by
  intro p l e s m args below meth c H locs ls F R hS hl9 g1 g2
  have hkk : ∀ r k8 h8, qI P r k8 h8 → fA y E Z k8 h8 (nc + z.2.2.2.2.cells) (ns + z.2.2.2.2.slots) pc2 L (r.toList ++ st) := by rw [hz.1, hz.2]; rintro _ _ _ ⟨v, rfl, hp⟩; exact kk _ _ _ hp
  exact a_cS0 hd hl hm hr rfl hw (by rw [hz.1]; exact g1) (by rw [hz.2]; exact g2) hE hkk rfl p l e s m args below meth c H locs ls F R hS hl9 g1 g2
theorem a_S5Q {a0 a1 a2 a3 a4 : Value} {P : Nat → hT → Prop} (hd : fD y pc (.invokestatic idx) 3 pc2) (hl : fML y.1.cls idx z) (hm : fMS z 5) (hr : fRm y z) (hz : z.2.2.2.2.cells = 0 ∧ z.2.2.2.2.slots = 0) (hw : (st.map fun v => v.category).sum ≤ 8) (hE : fE z E [a0, a1, a2, a3, a4] k h (qN P)) (kk : ∀ k1 h1, P k1 h1 → fA y E Z k1 h1 nc ns pc2 L st) : fA y E Z k h nc ns pc L (a4 :: a3 :: a2 :: a1 :: a0 :: st) := by
  intro p l e s m args below meth c H locs ls F R hS hl9 g1 g2
  have hkk : ∀ r k8 h8, qN P r k8 h8 → fA y E Z k8 h8 (nc + z.2.2.2.2.cells) (ns + z.2.2.2.2.slots) pc2 L (r.toList ++ st) := by rw [hz.1, hz.2]; rintro _ _ _ ⟨rfl, hp⟩; exact kk _ _ hp
  exact a_cS0 hd hl hm hr rfl hw (by rw [hz.1]; exact g1) (by rw [hz.2]; exact g2) hE hkk rfl p l e s m args below meth c H locs ls F R hS hl9 g1 g2
theorem a_V5V {a0 a1 a2 a3 a4 : Value} {v : Value} {q ci : Nat} {fs : List Value} {T : u_T} {N : Nat} (hd : fD y pc (.invokevirtual idx) 3 pc2) (hl : fML y.1.cls idx z) (hm : fMV z 5) (hr : fRm y z) (hq : h q = .inr (ci, fs)) (hcl : cls[ci]? = some (z.1.cls, T, N)) (hz : z.2.2.2.2.cells = 0 ∧ z.2.2.2.2.slots = 0) (hw : (st.map fun v => v.category).sum ≤ 8) (hE : fE z E (.ref q :: [a0, a1, a2, a3, a4]) k h (eV v k1 h1)) (kk : fA y E Z k1 h1 nc ns pc2 L (v :: st)) : fA y E Z k h nc ns pc L (a4 :: a3 :: a2 :: a1 :: a0 :: .ref q :: st) := by
  intro p l e s m args below meth c H locs ls F R hS hl9 g1 g2
  have hkk : ∀ r k8 h8, eV v k1 h1 r k8 h8 → fA y E Z k8 h8 (nc + z.2.2.2.2.cells) (ns + z.2.2.2.2.slots) pc2 L (r.toList ++ st) := by rw [hz.1, hz.2]; intro r k9 h9 hp; obtain ⟨e1, e2, e3⟩ := hp; rw [e1, e2, e3]; exact kk
  exact a_cV0 (As := [a0, a1, a2, a3, a4]) hd hl hm hr rfl hq hcl hw (by rw [hz.1]; exact g1) (by rw [hz.2]; exact g2) hE hkk rfl p l e s m args below meth c H locs ls F R hS hl9 g1 g2
theorem a_V5N {a0 a1 a2 a3 a4 : Value} {q ci : Nat} {fs : List Value} {T : u_T} {N : Nat} (hd : fD y pc (.invokevirtual idx) 3 pc2) (hl : fML y.1.cls idx z) (hm : fMV z 5) (hr : fRm y z) (hq : h q = .inr (ci, fs)) (hcl : cls[ci]? = some (z.1.cls, T, N)) (hz : z.2.2.2.2.cells = 0 ∧ z.2.2.2.2.slots = 0) (hw : (st.map fun v => v.category).sum ≤ 8) (hE : fE z E (.ref q :: [a0, a1, a2, a3, a4]) k h (eN k1 h1)) (kk : fA y E Z k1 h1 nc ns pc2 L st) : fA y E Z k h nc ns pc L (a4 :: a3 :: a2 :: a1 :: a0 :: .ref q :: st) := by
  intro p l e s m args below meth c H locs ls F R hS hl9 g1 g2
  have hkk : ∀ r k8 h8, eN k1 h1 r k8 h8 → fA y E Z k8 h8 (nc + z.2.2.2.2.cells) (ns + z.2.2.2.2.slots) pc2 L (r.toList ++ st) := by rw [hz.1, hz.2]; intro r k9 h9 hp; obtain ⟨e1, e2, e3⟩ := hp; rw [e1, e2, e3]; exact kk
  exact a_cV0 (As := [a0, a1, a2, a3, a4]) hd hl hm hr rfl hq hcl hw (by rw [hz.1]; exact g1) (by rw [hz.2]; exact g2) hE hkk rfl p l e s m args below meth c H locs ls F R hS hl9 g1 g2
theorem a_V5I {a0 a1 a2 a3 a4 : Value} {P : Int32 → Nat → hT → Prop} {q ci : Nat} {fs : List Value} {T : u_T} {N : Nat} (hd : fD y pc (.invokevirtual idx) 3 pc2) (hl : fML y.1.cls idx z) (hm : fMV z 5) (hr : fRm y z) (hq : h q = .inr (ci, fs)) (hcl : cls[ci]? = some (z.1.cls, T, N)) (hz : z.2.2.2.2.cells = 0 ∧ z.2.2.2.2.slots = 0) (hw : (st.map fun v => v.category).sum ≤ 8) (hE : fE z E (.ref q :: [a0, a1, a2, a3, a4]) k h (qI P)) (kk : ∀ v k1 h1, P v k1 h1 → fA y E Z k1 h1 nc ns pc2 L (.int v :: st)) : fA y E Z k h nc ns pc L (a4 :: a3 :: a2 :: a1 :: a0 :: .ref q :: st) := by
  intro p l e s m args below meth c H locs ls F R hS hl9 g1 g2
  have hkk : ∀ r k8 h8, qI P r k8 h8 → fA y E Z k8 h8 (nc + z.2.2.2.2.cells) (ns + z.2.2.2.2.slots) pc2 L (r.toList ++ st) := by rw [hz.1, hz.2]; rintro _ _ _ ⟨v, rfl, hp⟩; exact kk _ _ _ hp
  exact a_cV0 (As := [a0, a1, a2, a3, a4]) hd hl hm hr rfl hq hcl hw (by rw [hz.1]; exact g1) (by rw [hz.2]; exact g2) hE hkk rfl p l e s m args below meth c H locs ls F R hS hl9 g1 g2
theorem a_V5Q {a0 a1 a2 a3 a4 : Value} {P : Nat → hT → Prop} {q ci : Nat} {fs : List Value} {T : u_T} {N : Nat} (hd : fD y pc (.invokevirtual idx) 3 pc2) (hl : fML y.1.cls idx z) (hm : fMV z 5) (hr : fRm y z) (hq : h q = .inr (ci, fs)) (hcl : cls[ci]? = some (z.1.cls, T, N)) (hz : z.2.2.2.2.cells = 0 ∧ z.2.2.2.2.slots = 0) (hw : (st.map fun v => v.category).sum ≤ 8) (hE : fE z E (.ref q :: [a0, a1, a2, a3, a4]) k h (qN P)) (kk : ∀ k1 h1, P k1 h1 → fA y E Z k1 h1 nc ns pc2 L st) : fA y E Z k h nc ns pc L (a4 :: a3 :: a2 :: a1 :: a0 :: .ref q :: st) := by
  intro p l e s m args below meth c H locs ls F R hS hl9 g1 g2
  have hkk : ∀ r k8 h8, qN P r k8 h8 → fA y E Z k8 h8 (nc + z.2.2.2.2.cells) (ns + z.2.2.2.2.slots) pc2 L (r.toList ++ st) := by rw [hz.1, hz.2]; rintro _ _ _ ⟨rfl, hp⟩; exact kk _ _ hp
  exact a_cV0 (As := [a0, a1, a2, a3, a4]) hd hl hm hr rfl hq hcl hw (by rw [hz.1]; exact g1) (by rw [hz.2]; exact g2) hE hkk rfl p l e s m args below meth c H locs ls F R hS hl9 g1 g2
theorem a_S6V {a0 a1 a2 a3 a4 a5 : Value} {v : Value} (hd : fD y pc (.invokestatic idx) 3 pc2) (hl : fML y.1.cls idx z) (hm : fMS z 6) (hr : fRm y z) (hz : z.2.2.2.2.cells = 0 ∧ z.2.2.2.2.slots = 0) (hw : (st.map fun v => v.category).sum ≤ 8) (hE : fE z E [a0, a1, a2, a3, a4, a5] k h (eV v k1 h1)) (kk : fA y E Z k1 h1 nc ns pc2 L (v :: st)) : fA y E Z k h nc ns pc L (a5 :: a4 :: a3 :: a2 :: a1 :: a0 :: st) := by
  intro p l e s m args below meth c H locs ls F R hS hl9 g1 g2
  have hkk : ∀ r k8 h8, eV v k1 h1 r k8 h8 → fA y E Z k8 h8 (nc + z.2.2.2.2.cells) (ns + z.2.2.2.2.slots) pc2 L (r.toList ++ st) := by rw [hz.1, hz.2]; intro r k9 h9 hp; obtain ⟨e1, e2, e3⟩ := hp; rw [e1, e2, e3]; exact kk
  exact a_cS0 hd hl hm hr rfl hw (by rw [hz.1]; exact g1) (by rw [hz.2]; exact g2) hE hkk rfl p l e s m args below meth c H locs ls F R hS hl9 g1 g2
theorem a_S6N {a0 a1 a2 a3 a4 a5 : Value} (hd : fD y pc (.invokestatic idx) 3 pc2) (hl : fML y.1.cls idx z) (hm : fMS z 6) (hr : fRm y z) (hz : z.2.2.2.2.cells = 0 ∧ z.2.2.2.2.slots = 0) (hw : (st.map fun v => v.category).sum ≤ 8) (hE : fE z E [a0, a1, a2, a3, a4, a5] k h (eN k1 h1)) (kk : fA y E Z k1 h1 nc ns pc2 L st) : fA y E Z k h nc ns pc L (a5 :: a4 :: a3 :: a2 :: a1 :: a0 :: st) := by
  intro p l e s m args below meth c H locs ls F R hS hl9 g1 g2
  have hkk : ∀ r k8 h8, eN k1 h1 r k8 h8 → fA y E Z k8 h8 (nc + z.2.2.2.2.cells) (ns + z.2.2.2.2.slots) pc2 L (r.toList ++ st) := by rw [hz.1, hz.2]; intro r k9 h9 hp; obtain ⟨e1, e2, e3⟩ := hp; rw [e1, e2, e3]; exact kk
  exact a_cS0 hd hl hm hr rfl hw (by rw [hz.1]; exact g1) (by rw [hz.2]; exact g2) hE hkk rfl p l e s m args below meth c H locs ls F R hS hl9 g1 g2
theorem a_S6I {a0 a1 a2 a3 a4 a5 : Value} {P : Int32 → Nat → hT → Prop} (hd : fD y pc (.invokestatic idx) 3 pc2) (hl : fML y.1.cls idx z) (hm : fMS z 6) (hr : fRm y z) (hz : z.2.2.2.2.cells = 0 ∧ z.2.2.2.2.slots = 0) (hw : (st.map fun v => v.category).sum ≤ 8) (hE : fE z E [a0, a1, a2, a3, a4, a5] k h (qI P)) (kk : ∀ v k1 h1, P v k1 h1 → fA y E Z k1 h1 nc ns pc2 L (.int v :: st)) : fA y E Z k h nc ns pc L (a5 :: a4 :: a3 :: a2 :: a1 :: a0 :: st) := by
  intro p l e s m args below meth c H locs ls F R hS hl9 g1 g2
  have hkk : ∀ r k8 h8, qI P r k8 h8 → fA y E Z k8 h8 (nc + z.2.2.2.2.cells) (ns + z.2.2.2.2.slots) pc2 L (r.toList ++ st) := by rw [hz.1, hz.2]; rintro _ _ _ ⟨v, rfl, hp⟩; exact kk _ _ _ hp
  exact a_cS0 hd hl hm hr rfl hw (by rw [hz.1]; exact g1) (by rw [hz.2]; exact g2) hE hkk rfl p l e s m args below meth c H locs ls F R hS hl9 g1 g2
theorem a_S6Q {a0 a1 a2 a3 a4 a5 : Value} {P : Nat → hT → Prop} (hd : fD y pc (.invokestatic idx) 3 pc2) (hl : fML y.1.cls idx z) (hm : fMS z 6) (hr : fRm y z) (hz : z.2.2.2.2.cells = 0 ∧ z.2.2.2.2.slots = 0) (hw : (st.map fun v => v.category).sum ≤ 8) (hE : fE z E [a0, a1, a2, a3, a4, a5] k h (qN P)) (kk : ∀ k1 h1, P k1 h1 → fA y E Z k1 h1 nc ns pc2 L st) : fA y E Z k h nc ns pc L (a5 :: a4 :: a3 :: a2 :: a1 :: a0 :: st) := by
  intro p l e s m args below meth c H locs ls F R hS hl9 g1 g2
  have hkk : ∀ r k8 h8, qN P r k8 h8 → fA y E Z k8 h8 (nc + z.2.2.2.2.cells) (ns + z.2.2.2.2.slots) pc2 L (r.toList ++ st) := by rw [hz.1, hz.2]; rintro _ _ _ ⟨rfl, hp⟩; exact kk _ _ hp
  exact a_cS0 hd hl hm hr rfl hw (by rw [hz.1]; exact g1) (by rw [hz.2]; exact g2) hE hkk rfl p l e s m args below meth c H locs ls F R hS hl9 g1 g2
theorem a_V6V {a0 a1 a2 a3 a4 a5 : Value} {v : Value} {q ci : Nat} {fs : List Value} {T : u_T} {N : Nat} (hd : fD y pc (.invokevirtual idx) 3 pc2) (hl : fML y.1.cls idx z) (hm : fMV z 6) (hr : fRm y z) (hq : h q = .inr (ci, fs)) (hcl : cls[ci]? = some (z.1.cls, T, N)) (hz : z.2.2.2.2.cells = 0 ∧ z.2.2.2.2.slots = 0) (hw : (st.map fun v => v.category).sum ≤ 8) (hE : fE z E (.ref q :: [a0, a1, a2, a3, a4, a5]) k h (eV v k1 h1)) (kk : fA y E Z k1 h1 nc ns pc2 L (v :: st)) : fA y E Z k h nc ns pc L (a5 :: a4 :: a3 :: a2 :: a1 :: a0 :: .ref q :: st) := by
  intro p l e s m args below meth c H locs ls F R hS hl9 g1 g2
  have hkk : ∀ r k8 h8, eV v k1 h1 r k8 h8 → fA y E Z k8 h8 (nc + z.2.2.2.2.cells) (ns + z.2.2.2.2.slots) pc2 L (r.toList ++ st) := by rw [hz.1, hz.2]; intro r k9 h9 hp; obtain ⟨e1, e2, e3⟩ := hp; rw [e1, e2, e3]; exact kk
  exact a_cV0 (As := [a0, a1, a2, a3, a4, a5]) hd hl hm hr rfl hq hcl hw (by rw [hz.1]; exact g1) (by rw [hz.2]; exact g2) hE hkk rfl p l e s m args below meth c H locs ls F R hS hl9 g1 g2
theorem a_V6N {a0 a1 a2 a3 a4 a5 : Value} {q ci : Nat} {fs : List Value} {T : u_T} {N : Nat} (hd : fD y pc (.invokevirtual idx) 3 pc2) (hl : fML y.1.cls idx z) (hm : fMV z 6) (hr : fRm y z) (hq : h q = .inr (ci, fs)) (hcl : cls[ci]? = some (z.1.cls, T, N)) (hz : z.2.2.2.2.cells = 0 ∧ z.2.2.2.2.slots = 0) (hw : (st.map fun v => v.category).sum ≤ 8) (hE : fE z E (.ref q :: [a0, a1, a2, a3, a4, a5]) k h (eN k1 h1)) (kk : fA y E Z k1 h1 nc ns pc2 L st) : fA y E Z k h nc ns pc L (a5 :: a4 :: a3 :: a2 :: a1 :: a0 :: .ref q :: st) := by
  intro p l e s m args below meth c H locs ls F R hS hl9 g1 g2
  have hkk : ∀ r k8 h8, eN k1 h1 r k8 h8 → fA y E Z k8 h8 (nc + z.2.2.2.2.cells) (ns + z.2.2.2.2.slots) pc2 L (r.toList ++ st) := by rw [hz.1, hz.2]; intro r k9 h9 hp; obtain ⟨e1, e2, e3⟩ := hp; rw [e1, e2, e3]; exact kk
  exact a_cV0 (As := [a0, a1, a2, a3, a4, a5]) hd hl hm hr rfl hq hcl hw (by rw [hz.1]; exact g1) (by rw [hz.2]; exact g2) hE hkk rfl p l e s m args below meth c H locs ls F R hS hl9 g1 g2
theorem a_V6I {a0 a1 a2 a3 a4 a5 : Value} {P : Int32 → Nat → hT → Prop} {q ci : Nat} {fs : List Value} {T : u_T} {N : Nat} (hd : fD y pc (.invokevirtual idx) 3 pc2) (hl : fML y.1.cls idx z) (hm : fMV z 6) (hr : fRm y z) (hq : h q = .inr (ci, fs)) (hcl : cls[ci]? = some (z.1.cls, T, N)) (hz : z.2.2.2.2.cells = 0 ∧ z.2.2.2.2.slots = 0) (hw : (st.map fun v => v.category).sum ≤ 8) (hE : fE z E (.ref q :: [a0, a1, a2, a3, a4, a5]) k h (qI P)) (kk : ∀ v k1 h1, P v k1 h1 → fA y E Z k1 h1 nc ns pc2 L (.int v :: st)) : fA y E Z k h nc ns pc L (a5 :: a4 :: a3 :: a2 :: a1 :: a0 :: .ref q :: st) := by
  intro p l e s m args below meth c H locs ls F R hS hl9 g1 g2
  have hkk : ∀ r k8 h8, qI P r k8 h8 → fA y E Z k8 h8 (nc + z.2.2.2.2.cells) (ns + z.2.2.2.2.slots) pc2 L (r.toList ++ st) := by rw [hz.1, hz.2]; rintro _ _ _ ⟨v, rfl, hp⟩; exact kk _ _ _ hp
  exact a_cV0 (As := [a0, a1, a2, a3, a4, a5]) hd hl hm hr rfl hq hcl hw (by rw [hz.1]; exact g1) (by rw [hz.2]; exact g2) hE hkk rfl p l e s m args below meth c H locs ls F R hS hl9 g1 g2
theorem a_V6Q {a0 a1 a2 a3 a4 a5 : Value} {P : Nat → hT → Prop} {q ci : Nat} {fs : List Value} {T : u_T} {N : Nat} (hd : fD y pc (.invokevirtual idx) 3 pc2) (hl : fML y.1.cls idx z) (hm : fMV z 6) (hr : fRm y z) (hq : h q = .inr (ci, fs)) (hcl : cls[ci]? = some (z.1.cls, T, N)) (hz : z.2.2.2.2.cells = 0 ∧ z.2.2.2.2.slots = 0) (hw : (st.map fun v => v.category).sum ≤ 8) (hE : fE z E (.ref q :: [a0, a1, a2, a3, a4, a5]) k h (qN P)) (kk : ∀ k1 h1, P k1 h1 → fA y E Z k1 h1 nc ns pc2 L st) : fA y E Z k h nc ns pc L (a5 :: a4 :: a3 :: a2 :: a1 :: a0 :: .ref q :: st) := by
  intro p l e s m args below meth c H locs ls F R hS hl9 g1 g2
  have hkk : ∀ r k8 h8, qN P r k8 h8 → fA y E Z k8 h8 (nc + z.2.2.2.2.cells) (ns + z.2.2.2.2.slots) pc2 L (r.toList ++ st) := by rw [hz.1, hz.2]; rintro _ _ _ ⟨rfl, hp⟩; exact kk _ _ hp
  exact a_cV0 (As := [a0, a1, a2, a3, a4, a5]) hd hl hm hr rfl hq hcl hw (by rw [hz.1]; exact g1) (by rw [hz.2]; exact g2) hE hkk rfl p l e s m args below meth c H locs ls F R hS hl9 g1 g2
end FC
end
section
theorem fB_init_0 : fAL M_B_init 0 0 1 := Or.inl ⟨0, by decide +kernel, rfl, rfl⟩
theorem fB_init_1 : fD M_B_init 1 (.invokespecial 3) 3 4 := ⟨by decide +kernel, rfl⟩
theorem fB_init_4 : fAL M_B_init 4 0 5 := Or.inl ⟨0, by decide +kernel, rfl, rfl⟩
theorem fB_init_5 : fIC M_B_init 5 6 7 := Or.inr (Or.inl ⟨6, by decide +kernel, by decide, rfl⟩)
theorem fB_init_7 : fD M_B_init 7 (.newarray .int) 2 9 := ⟨by decide +kernel, rfl⟩
theorem fB_init_9 : fD M_B_init 9 (.putfield 9) 3 12 := ⟨by decide +kernel, rfl⟩
theorem fB_init_12 : fAL M_B_init 12 0 13 := Or.inl ⟨0, by decide +kernel, rfl, rfl⟩
theorem fB_init_13 : fIC M_B_init 13 6 15 := Or.inr (Or.inl ⟨6, by decide +kernel, by decide, rfl⟩)
theorem fB_init_15 : fD M_B_init 15 (.newarray .int) 2 17 := ⟨by decide +kernel, rfl⟩
theorem fB_init_17 : fD M_B_init 17 (.putfield 15) 3 20 := ⟨by decide +kernel, rfl⟩
theorem fB_init_20 : fAL M_B_init 20 0 21 := Or.inl ⟨0, by decide +kernel, rfl, rfl⟩
theorem fB_init_21 : fIC M_B_init 21 0 22 := Or.inl ⟨0, by decide +kernel, by decide, rfl⟩
theorem fB_init_22 : fD M_B_init 22 (.putfield 18) 3 25 := ⟨by decide +kernel, rfl⟩
theorem fB_init_25 : fAL M_B_init 25 0 26 := Or.inl ⟨0, by decide +kernel, rfl, rfl⟩
theorem fB_init_26 : fIC M_B_init 26 0 27 := Or.inl ⟨0, by decide +kernel, by decide, rfl⟩
theorem fB_init_27 : fD M_B_init 27 (.putfield 22) 3 30 := ⟨by decide +kernel, rfl⟩
theorem fB_init_30 : fAL M_B_init 30 0 31 := Or.inl ⟨0, by decide +kernel, rfl, rfl⟩
theorem fB_init_31 : fIC M_B_init 31 0 32 := Or.inl ⟨0, by decide +kernel, by decide, rfl⟩
theorem fB_init_32 : fD M_B_init 32 (.putfield 25) 3 35 := ⟨by decide +kernel, rfl⟩
theorem fB_init_35 : fD M_B_init 35 .return_ 1 36 := ⟨by decide +kernel, rfl⟩
theorem fB_begin_0 : fAL M_B_begin 0 0 1 := Or.inl ⟨0, by decide +kernel, rfl, rfl⟩
theorem fB_begin_1 : fIC M_B_begin 1 0 2 := Or.inl ⟨0, by decide +kernel, by decide, rfl⟩
theorem fB_begin_2 : fD M_B_begin 2 (.putfield 18) 3 5 := ⟨by decide +kernel, rfl⟩
theorem fB_begin_5 : fAL M_B_begin 5 0 6 := Or.inl ⟨0, by decide +kernel, rfl, rfl⟩
theorem fB_begin_6 : fIC M_B_begin 6 0 7 := Or.inl ⟨0, by decide +kernel, by decide, rfl⟩
theorem fB_begin_7 : fD M_B_begin 7 (.putfield 22) 3 10 := ⟨by decide +kernel, rfl⟩
theorem fB_begin_10 : fAL M_B_begin 10 0 11 := Or.inl ⟨0, by decide +kernel, rfl, rfl⟩
theorem fB_begin_11 : fIC M_B_begin 11 0 12 := Or.inl ⟨0, by decide +kernel, by decide, rfl⟩
theorem fB_begin_12 : fD M_B_begin 12 (.putfield 25) 3 15 := ⟨by decide +kernel, rfl⟩
theorem fB_begin_15 : fD M_B_begin 15 .return_ 1 16 := ⟨by decide +kernel, rfl⟩
theorem fB_become_0 : fAL M_B_become 0 1 1 := Or.inl ⟨1, by decide +kernel, rfl, rfl⟩
theorem fB_become_1 : fD M_B_become 1 (.getfield 9) 3 4 := ⟨by decide +kernel, rfl⟩
theorem fB_become_4 : fIC M_B_become 4 0 5 := Or.inl ⟨0, by decide +kernel, by decide, rfl⟩
theorem fB_become_5 : fAL M_B_become 5 0 6 := Or.inl ⟨0, by decide +kernel, rfl, rfl⟩
theorem fB_become_6 : fD M_B_become 6 (.getfield 9) 3 9 := ⟨by decide +kernel, rfl⟩
theorem fB_become_9 : fIC M_B_become 9 0 10 := Or.inl ⟨0, by decide +kernel, by decide, rfl⟩
theorem fB_become_10 : fIC M_B_become 10 6 12 := Or.inr (Or.inl ⟨6, by decide +kernel, by decide, rfl⟩)
theorem fB_become_12 : fD M_B_become 12 (.invokestatic 28) 3 15 := ⟨by decide +kernel, rfl⟩
theorem fB_become_15 : fAL M_B_become 15 1 16 := Or.inl ⟨1, by decide +kernel, rfl, rfl⟩
theorem fB_become_16 : fD M_B_become 16 (.getfield 15) 3 19 := ⟨by decide +kernel, rfl⟩
theorem fB_become_19 : fIC M_B_become 19 0 20 := Or.inl ⟨0, by decide +kernel, by decide, rfl⟩
theorem fB_become_20 : fAL M_B_become 20 0 21 := Or.inl ⟨0, by decide +kernel, rfl, rfl⟩
theorem fB_become_21 : fD M_B_become 21 (.getfield 15) 3 24 := ⟨by decide +kernel, rfl⟩
theorem fB_become_24 : fIC M_B_become 24 0 25 := Or.inl ⟨0, by decide +kernel, by decide, rfl⟩
theorem fB_become_25 : fIC M_B_become 25 6 27 := Or.inr (Or.inl ⟨6, by decide +kernel, by decide, rfl⟩)
theorem fB_become_27 : fD M_B_become 27 (.invokestatic 28) 3 30 := ⟨by decide +kernel, rfl⟩
theorem fB_become_30 : fAL M_B_become 30 0 31 := Or.inl ⟨0, by decide +kernel, rfl, rfl⟩
theorem fB_become_31 : fAL M_B_become 31 1 32 := Or.inl ⟨1, by decide +kernel, rfl, rfl⟩
theorem fB_become_32 : fD M_B_become 32 (.getfield 18) 3 35 := ⟨by decide +kernel, rfl⟩
theorem fB_become_35 : fD M_B_become 35 (.putfield 18) 3 38 := ⟨by decide +kernel, rfl⟩
theorem fB_become_38 : fAL M_B_become 38 0 39 := Or.inl ⟨0, by decide +kernel, rfl, rfl⟩
theorem fB_become_39 : fAL M_B_become 39 1 40 := Or.inl ⟨1, by decide +kernel, rfl, rfl⟩
theorem fB_become_40 : fD M_B_become 40 (.getfield 22) 3 43 := ⟨by decide +kernel, rfl⟩
theorem fB_become_43 : fD M_B_become 43 (.putfield 22) 3 46 := ⟨by decide +kernel, rfl⟩
theorem fB_become_46 : fAL M_B_become 46 0 47 := Or.inl ⟨0, by decide +kernel, rfl, rfl⟩
theorem fB_become_47 : fAL M_B_become 47 1 48 := Or.inl ⟨1, by decide +kernel, rfl, rfl⟩
theorem fB_become_48 : fD M_B_become 48 (.getfield 25) 3 51 := ⟨by decide +kernel, rfl⟩
theorem fB_become_51 : fD M_B_become 51 (.putfield 25) 3 54 := ⟨by decide +kernel, rfl⟩
theorem fB_become_54 : fD M_B_become 54 .return_ 1 55 := ⟨by decide +kernel, rfl⟩
theorem fB_holds_0 : fIL M_B_holds 0 1 1 := Or.inl ⟨1, by decide +kernel, rfl, rfl⟩
theorem fB_holds_1 : fB M_B_holds 1 (.ifCond .lt 21) 21 4 22 := ⟨by decide +kernel, rfl, by decide⟩
theorem fB_holds_4 : fIL M_B_holds 4 1 5 := Or.inl ⟨1, by decide +kernel, rfl, rfl⟩
theorem fB_holds_5 : fAL M_B_holds 5 0 6 := Or.inl ⟨0, by decide +kernel, rfl, rfl⟩
theorem fB_holds_6 : fD M_B_holds 6 (.getfield 18) 3 9 := ⟨by decide +kernel, rfl⟩
theorem fB_holds_9 : fB M_B_holds 9 (.if_icmp .ge 13) 13 12 22 := ⟨by decide +kernel, rfl, by decide⟩
theorem fB_holds_12 : fIL M_B_holds 12 1 13 := Or.inl ⟨1, by decide +kernel, rfl, rfl⟩
theorem fB_holds_13 : fIC M_B_holds 13 6 15 := Or.inr (Or.inl ⟨6, by decide +kernel, by decide, rfl⟩)
theorem fB_holds_15 : fB M_B_holds 15 (.if_icmp .ge 7) 7 18 22 := ⟨by decide +kernel, rfl, by decide⟩
theorem fB_holds_18 : fIC M_B_holds 18 1 19 := Or.inl ⟨1, by decide +kernel, by decide, rfl⟩
theorem fB_holds_19 : fB M_B_holds 19 (.goto 4) 4 22 23 := ⟨by decide +kernel, rfl, by decide⟩
theorem fB_holds_22 : fIC M_B_holds 22 0 23 := Or.inl ⟨0, by decide +kernel, by decide, rfl⟩
theorem fB_holds_23 : fD M_B_holds 23 .ireturn 1 24 := ⟨by decide +kernel, rfl⟩
theorem fB_isPaid_0 : fAL M_B_isPaid 0 0 1 := Or.inl ⟨0, by decide +kernel, rfl, rfl⟩
theorem fB_isPaid_1 : fD M_B_isPaid 1 (.getfield 22) 3 4 := ⟨by decide +kernel, rfl⟩
theorem fB_isPaid_4 : fIL M_B_isPaid 4 1 5 := Or.inl ⟨1, by decide +kernel, rfl, rfl⟩
theorem fB_isPaid_5 : fD M_B_isPaid 5 .ishr 1 6 := ⟨by decide +kernel, rfl⟩
theorem fB_isPaid_6 : fIC M_B_isPaid 6 1 7 := Or.inl ⟨1, by decide +kernel, by decide, rfl⟩
theorem fB_isPaid_7 : fD M_B_isPaid 7 .iand 1 8 := ⟨by decide +kernel, rfl⟩
theorem fB_isPaid_8 : fIC M_B_isPaid 8 1 9 := Or.inl ⟨1, by decide +kernel, by decide, rfl⟩
theorem fB_isPaid_9 : fB M_B_isPaid 9 (.if_icmp .ne 7) 7 12 16 := ⟨by decide +kernel, rfl, by decide⟩
theorem fB_isPaid_12 : fIC M_B_isPaid 12 1 13 := Or.inl ⟨1, by decide +kernel, by decide, rfl⟩
theorem fB_isPaid_13 : fB M_B_isPaid 13 (.goto 4) 4 16 17 := ⟨by decide +kernel, rfl, by decide⟩
theorem fB_isPaid_16 : fIC M_B_isPaid 16 0 17 := Or.inl ⟨0, by decide +kernel, by decide, rfl⟩
theorem fB_isPaid_17 : fD M_B_isPaid 17 .ireturn 1 18 := ⟨by decide +kernel, rfl⟩
theorem fB_add_0 : fAL M_B_add 0 0 1 := Or.inl ⟨0, by decide +kernel, rfl, rfl⟩
theorem fB_add_1 : fD M_B_add 1 (.getfield 18) 3 4 := ⟨by decide +kernel, rfl⟩
theorem fB_add_4 : fIC M_B_add 4 6 6 := Or.inr (Or.inl ⟨6, by decide +kernel, by decide, rfl⟩)
theorem fB_add_6 : fB M_B_add 6 (.if_icmp .ge 33) 33 9 39 := ⟨by decide +kernel, rfl, by decide⟩
theorem fB_add_9 : fAL M_B_add 9 0 10 := Or.inl ⟨0, by decide +kernel, rfl, rfl⟩
theorem fB_add_10 : fD M_B_add 10 (.getfield 9) 3 13 := ⟨by decide +kernel, rfl⟩
theorem fB_add_13 : fAL M_B_add 13 0 14 := Or.inl ⟨0, by decide +kernel, rfl, rfl⟩
theorem fB_add_14 : fD M_B_add 14 (.getfield 18) 3 17 := ⟨by decide +kernel, rfl⟩
theorem fB_add_17 : fIL M_B_add 17 1 18 := Or.inl ⟨1, by decide +kernel, rfl, rfl⟩
theorem fB_add_18 : fD M_B_add 18 .iastore 1 19 := ⟨by decide +kernel, rfl⟩
theorem fB_add_19 : fAL M_B_add 19 0 20 := Or.inl ⟨0, by decide +kernel, rfl, rfl⟩
theorem fB_add_20 : fD M_B_add 20 (.getfield 15) 3 23 := ⟨by decide +kernel, rfl⟩
theorem fB_add_23 : fAL M_B_add 23 0 24 := Or.inl ⟨0, by decide +kernel, rfl, rfl⟩
theorem fB_add_24 : fD M_B_add 24 (.getfield 18) 3 27 := ⟨by decide +kernel, rfl⟩
theorem fB_add_27 : fIL M_B_add 27 2 28 := Or.inl ⟨2, by decide +kernel, rfl, rfl⟩
theorem fB_add_28 : fD M_B_add 28 .iastore 1 29 := ⟨by decide +kernel, rfl⟩
theorem fB_add_29 : fAL M_B_add 29 0 30 := Or.inl ⟨0, by decide +kernel, rfl, rfl⟩
theorem fB_add_30 : fD M_B_add 30 .dup 1 31 := ⟨by decide +kernel, rfl⟩
theorem fB_add_31 : fD M_B_add 31 (.getfield 18) 3 34 := ⟨by decide +kernel, rfl⟩
theorem fB_add_34 : fIC M_B_add 34 1 35 := Or.inl ⟨1, by decide +kernel, by decide, rfl⟩
theorem fB_add_35 : fD M_B_add 35 .iadd 1 36 := ⟨by decide +kernel, rfl⟩
theorem fB_add_36 : fD M_B_add 36 (.putfield 18) 3 39 := ⟨by decide +kernel, rfl⟩
theorem fB_add_39 : fD M_B_add 39 .return_ 1 40 := ⟨by decide +kernel, rfl⟩
theorem fB_settle_0 : fAL M_B_settle 0 0 1 := Or.inl ⟨0, by decide +kernel, rfl, rfl⟩
theorem fB_settle_1 : fIL M_B_settle 1 1 2 := Or.inl ⟨1, by decide +kernel, rfl, rfl⟩
theorem fB_settle_2 : fD M_B_settle 2 (.invokevirtual 34) 3 5 := ⟨by decide +kernel, rfl⟩
theorem fB_settle_5 : fB M_B_settle 5 (.ifCond .eq 30) 30 8 35 := ⟨by decide +kernel, rfl, by decide⟩
theorem fB_settle_8 : fAL M_B_settle 8 0 9 := Or.inl ⟨0, by decide +kernel, rfl, rfl⟩
theorem fB_settle_9 : fD M_B_settle 9 .dup 1 10 := ⟨by decide +kernel, rfl⟩
theorem fB_settle_10 : fD M_B_settle 10 (.getfield 22) 3 13 := ⟨by decide +kernel, rfl⟩
theorem fB_settle_13 : fIC M_B_settle 13 1 14 := Or.inl ⟨1, by decide +kernel, by decide, rfl⟩
theorem fB_settle_14 : fIL M_B_settle 14 1 15 := Or.inl ⟨1, by decide +kernel, rfl, rfl⟩
theorem fB_settle_15 : fD M_B_settle 15 .ishl 1 16 := ⟨by decide +kernel, rfl⟩
theorem fB_settle_16 : fD M_B_settle 16 .ior 1 17 := ⟨by decide +kernel, rfl⟩
theorem fB_settle_17 : fD M_B_settle 17 (.putfield 22) 3 20 := ⟨by decide +kernel, rfl⟩
theorem fB_settle_20 : fAL M_B_settle 20 0 21 := Or.inl ⟨0, by decide +kernel, rfl, rfl⟩
theorem fB_settle_21 : fD M_B_settle 21 .dup 1 22 := ⟨by decide +kernel, rfl⟩
theorem fB_settle_22 : fD M_B_settle 22 (.getfield 25) 3 25 := ⟨by decide +kernel, rfl⟩
theorem fB_settle_25 : fAL M_B_settle 25 0 26 := Or.inl ⟨0, by decide +kernel, rfl, rfl⟩
theorem fB_settle_26 : fD M_B_settle 26 (.getfield 15) 3 29 := ⟨by decide +kernel, rfl⟩
theorem fB_settle_29 : fIL M_B_settle 29 1 30 := Or.inl ⟨1, by decide +kernel, rfl, rfl⟩
theorem fB_settle_30 : fD M_B_settle 30 .iaload 1 31 := ⟨by decide +kernel, rfl⟩
theorem fB_settle_31 : fD M_B_settle 31 .iadd 1 32 := ⟨by decide +kernel, rfl⟩
theorem fB_settle_32 : fD M_B_settle 32 (.putfield 25) 3 35 := ⟨by decide +kernel, rfl⟩
theorem fB_settle_35 : fD M_B_settle 35 .return_ 1 36 := ⟨by decide +kernel, rfl⟩
theorem fB_worthOf_0 : fIC M_B_worthOf 0 0 1 := Or.inl ⟨0, by decide +kernel, by decide, rfl⟩
theorem fB_worthOf_1 : fIS M_B_worthOf 1 2 2 := Or.inl ⟨2, by decide +kernel, rfl, rfl⟩
theorem fB_worthOf_2 : fIC M_B_worthOf 2 0 3 := Or.inl ⟨0, by decide +kernel, by decide, rfl⟩
theorem fB_worthOf_3 : fIS M_B_worthOf 3 3 4 := Or.inl ⟨3, by decide +kernel, rfl, rfl⟩
theorem fB_worthOf_4 : fIL M_B_worthOf 4 3 5 := Or.inl ⟨3, by decide +kernel, rfl, rfl⟩
theorem fB_worthOf_5 : fIC M_B_worthOf 5 6 7 := Or.inr (Or.inl ⟨6, by decide +kernel, by decide, rfl⟩)
theorem fB_worthOf_7 : fB M_B_worthOf 7 (.if_icmp .ge 27) 27 10 34 := ⟨by decide +kernel, rfl, by decide⟩
theorem fB_worthOf_10 : fIL M_B_worthOf 10 1 11 := Or.inl ⟨1, by decide +kernel, rfl, rfl⟩
theorem fB_worthOf_11 : fIL M_B_worthOf 11 3 12 := Or.inl ⟨3, by decide +kernel, rfl, rfl⟩
theorem fB_worthOf_12 : fD M_B_worthOf 12 .ishr 1 13 := ⟨by decide +kernel, rfl⟩
theorem fB_worthOf_13 : fIC M_B_worthOf 13 1 14 := Or.inl ⟨1, by decide +kernel, by decide, rfl⟩
theorem fB_worthOf_14 : fD M_B_worthOf 14 .iand 1 15 := ⟨by decide +kernel, rfl⟩
theorem fB_worthOf_15 : fIC M_B_worthOf 15 1 16 := Or.inl ⟨1, by decide +kernel, by decide, rfl⟩
theorem fB_worthOf_16 : fB M_B_worthOf 16 (.if_icmp .ne 12) 12 19 28 := ⟨by decide +kernel, rfl, by decide⟩
theorem fB_worthOf_19 : fIL M_B_worthOf 19 2 20 := Or.inl ⟨2, by decide +kernel, rfl, rfl⟩
theorem fB_worthOf_20 : fAL M_B_worthOf 20 0 21 := Or.inl ⟨0, by decide +kernel, rfl, rfl⟩
theorem fB_worthOf_21 : fD M_B_worthOf 21 (.getfield 15) 3 24 := ⟨by decide +kernel, rfl⟩
theorem fB_worthOf_24 : fIL M_B_worthOf 24 3 25 := Or.inl ⟨3, by decide +kernel, rfl, rfl⟩
theorem fB_worthOf_25 : fD M_B_worthOf 25 .iaload 1 26 := ⟨by decide +kernel, rfl⟩
theorem fB_worthOf_26 : fD M_B_worthOf 26 .iadd 1 27 := ⟨by decide +kernel, rfl⟩
theorem fB_worthOf_27 : fIS M_B_worthOf 27 2 28 := Or.inl ⟨2, by decide +kernel, rfl, rfl⟩
theorem fB_worthOf_28 : fD M_B_worthOf 28 (.iinc 3 1) 3 31 := ⟨by decide +kernel, rfl⟩
theorem fB_worthOf_31 : fB M_B_worthOf 31 (.goto (-27)) (-27) 34 4 := ⟨by decide +kernel, rfl, by decide⟩
theorem fB_worthOf_34 : fIL M_B_worthOf 34 2 35 := Or.inl ⟨2, by decide +kernel, rfl, rfl⟩
theorem fB_worthOf_35 : fD M_B_worthOf 35 .ireturn 1 36 := ⟨by decide +kernel, rfl⟩
theorem fC_init_0 : fAL M_C_init 0 0 1 := Or.inl ⟨0, by decide +kernel, rfl, rfl⟩
theorem fC_init_1 : fD M_C_init 1 (.invokespecial 3) 3 4 := ⟨by decide +kernel, rfl⟩
theorem fC_init_4 : fAL M_C_init 4 0 5 := Or.inl ⟨0, by decide +kernel, rfl, rfl⟩
theorem fC_init_5 : fIC M_C_init 5 6 7 := Or.inr (Or.inl ⟨6, by decide +kernel, by decide, rfl⟩)
theorem fC_init_7 : fD M_C_init 7 (.newarray .int) 2 9 := ⟨by decide +kernel, rfl⟩
theorem fC_init_9 : fD M_C_init 9 (.putfield 9) 3 12 := ⟨by decide +kernel, rfl⟩
theorem fC_init_12 : fAL M_C_init 12 0 13 := Or.inl ⟨0, by decide +kernel, rfl, rfl⟩
theorem fC_init_13 : fIC M_C_init 13 6 15 := Or.inr (Or.inl ⟨6, by decide +kernel, by decide, rfl⟩)
theorem fC_init_15 : fD M_C_init 15 (.newarray .int) 2 17 := ⟨by decide +kernel, rfl⟩
theorem fC_init_17 : fD M_C_init 17 (.putfield 15) 3 20 := ⟨by decide +kernel, rfl⟩
theorem fC_init_20 : fAL M_C_init 20 0 21 := Or.inl ⟨0, by decide +kernel, rfl, rfl⟩
theorem fC_init_21 : fIC M_C_init 21 0 22 := Or.inl ⟨0, by decide +kernel, by decide, rfl⟩
theorem fC_init_22 : fD M_C_init 22 (.putfield 18) 3 25 := ⟨by decide +kernel, rfl⟩
theorem fC_init_25 : fAL M_C_init 25 0 26 := Or.inl ⟨0, by decide +kernel, rfl, rfl⟩
theorem fC_init_26 : fIC M_C_init 26 6 28 := Or.inr (Or.inl ⟨6, by decide +kernel, by decide, rfl⟩)
theorem fC_init_28 : fD M_C_init 28 (.newarray .int) 2 30 := ⟨by decide +kernel, rfl⟩
theorem fC_init_30 : fD M_C_init 30 (.putfield 22) 3 33 := ⟨by decide +kernel, rfl⟩
theorem fC_init_33 : fAL M_C_init 33 0 34 := Or.inl ⟨0, by decide +kernel, rfl, rfl⟩
theorem fC_init_34 : fIC M_C_init 34 6 36 := Or.inr (Or.inl ⟨6, by decide +kernel, by decide, rfl⟩)
theorem fC_init_36 : fD M_C_init 36 (.newarray .int) 2 38 := ⟨by decide +kernel, rfl⟩
theorem fC_init_38 : fD M_C_init 38 (.putfield 25) 3 41 := ⟨by decide +kernel, rfl⟩
theorem fC_init_41 : fAL M_C_init 41 0 42 := Or.inl ⟨0, by decide +kernel, rfl, rfl⟩
theorem fC_init_42 : fIC M_C_init 42 6 44 := Or.inr (Or.inl ⟨6, by decide +kernel, by decide, rfl⟩)
theorem fC_init_44 : fD M_C_init 44 (.newarray .int) 2 46 := ⟨by decide +kernel, rfl⟩
theorem fC_init_46 : fD M_C_init 46 (.putfield 28) 3 49 := ⟨by decide +kernel, rfl⟩
theorem fC_init_49 : fAL M_C_init 49 0 50 := Or.inl ⟨0, by decide +kernel, rfl, rfl⟩
theorem fC_init_50 : fIC M_C_init 50 6 52 := Or.inr (Or.inl ⟨6, by decide +kernel, by decide, rfl⟩)
theorem fC_init_52 : fD M_C_init 52 (.newarray .int) 2 54 := ⟨by decide +kernel, rfl⟩
theorem fC_init_54 : fD M_C_init 54 (.putfield 31) 3 57 := ⟨by decide +kernel, rfl⟩
theorem fC_init_57 : fAL M_C_init 57 0 58 := Or.inl ⟨0, by decide +kernel, rfl, rfl⟩
theorem fC_init_58 : fIC M_C_init 58 0 59 := Or.inl ⟨0, by decide +kernel, by decide, rfl⟩
theorem fC_init_59 : fD M_C_init 59 (.putfield 34) 3 62 := ⟨by decide +kernel, rfl⟩
theorem fC_init_62 : fD M_C_init 62 .return_ 1 63 := ⟨by decide +kernel, rfl⟩
theorem fC_become_0 : fAL M_C_become 0 1 1 := Or.inl ⟨1, by decide +kernel, rfl, rfl⟩
theorem fC_become_1 : fD M_C_become 1 (.getfield 9) 3 4 := ⟨by decide +kernel, rfl⟩
theorem fC_become_4 : fIC M_C_become 4 0 5 := Or.inl ⟨0, by decide +kernel, by decide, rfl⟩
theorem fC_become_5 : fAL M_C_become 5 0 6 := Or.inl ⟨0, by decide +kernel, rfl, rfl⟩
theorem fC_become_6 : fD M_C_become 6 (.getfield 9) 3 9 := ⟨by decide +kernel, rfl⟩
theorem fC_become_9 : fIC M_C_become 9 0 10 := Or.inl ⟨0, by decide +kernel, by decide, rfl⟩
theorem fC_become_10 : fIC M_C_become 10 6 12 := Or.inr (Or.inl ⟨6, by decide +kernel, by decide, rfl⟩)
theorem fC_become_12 : fD M_C_become 12 (.invokestatic 37) 3 15 := ⟨by decide +kernel, rfl⟩
theorem fC_become_15 : fAL M_C_become 15 1 16 := Or.inl ⟨1, by decide +kernel, rfl, rfl⟩
theorem fC_become_16 : fD M_C_become 16 (.getfield 15) 3 19 := ⟨by decide +kernel, rfl⟩
theorem fC_become_19 : fIC M_C_become 19 0 20 := Or.inl ⟨0, by decide +kernel, by decide, rfl⟩
theorem fC_become_20 : fAL M_C_become 20 0 21 := Or.inl ⟨0, by decide +kernel, rfl, rfl⟩
theorem fC_become_21 : fD M_C_become 21 (.getfield 15) 3 24 := ⟨by decide +kernel, rfl⟩
theorem fC_become_24 : fIC M_C_become 24 0 25 := Or.inl ⟨0, by decide +kernel, by decide, rfl⟩
theorem fC_become_25 : fIC M_C_become 25 6 27 := Or.inr (Or.inl ⟨6, by decide +kernel, by decide, rfl⟩)
theorem fC_become_27 : fD M_C_become 27 (.invokestatic 37) 3 30 := ⟨by decide +kernel, rfl⟩
theorem fC_become_30 : fAL M_C_become 30 0 31 := Or.inl ⟨0, by decide +kernel, rfl, rfl⟩
theorem fC_become_31 : fAL M_C_become 31 1 32 := Or.inl ⟨1, by decide +kernel, rfl, rfl⟩
theorem fC_become_32 : fD M_C_become 32 (.getfield 18) 3 35 := ⟨by decide +kernel, rfl⟩
theorem fC_become_35 : fD M_C_become 35 (.putfield 18) 3 38 := ⟨by decide +kernel, rfl⟩
theorem fC_become_38 : fAL M_C_become 38 1 39 := Or.inl ⟨1, by decide +kernel, rfl, rfl⟩
theorem fC_become_39 : fD M_C_become 39 (.getfield 22) 3 42 := ⟨by decide +kernel, rfl⟩
theorem fC_become_42 : fIC M_C_become 42 0 43 := Or.inl ⟨0, by decide +kernel, by decide, rfl⟩
theorem fC_become_43 : fAL M_C_become 43 0 44 := Or.inl ⟨0, by decide +kernel, rfl, rfl⟩
theorem fC_become_44 : fD M_C_become 44 (.getfield 22) 3 47 := ⟨by decide +kernel, rfl⟩
theorem fC_become_47 : fIC M_C_become 47 0 48 := Or.inl ⟨0, by decide +kernel, by decide, rfl⟩
theorem fC_become_48 : fIC M_C_become 48 6 50 := Or.inr (Or.inl ⟨6, by decide +kernel, by decide, rfl⟩)
theorem fC_become_50 : fD M_C_become 50 (.invokestatic 37) 3 53 := ⟨by decide +kernel, rfl⟩
theorem fC_become_53 : fAL M_C_become 53 1 54 := Or.inl ⟨1, by decide +kernel, rfl, rfl⟩
theorem fC_become_54 : fD M_C_become 54 (.getfield 25) 3 57 := ⟨by decide +kernel, rfl⟩
theorem fC_become_57 : fIC M_C_become 57 0 58 := Or.inl ⟨0, by decide +kernel, by decide, rfl⟩
theorem fC_become_58 : fAL M_C_become 58 0 59 := Or.inl ⟨0, by decide +kernel, rfl, rfl⟩
theorem fC_become_59 : fD M_C_become 59 (.getfield 25) 3 62 := ⟨by decide +kernel, rfl⟩
theorem fC_become_62 : fIC M_C_become 62 0 63 := Or.inl ⟨0, by decide +kernel, by decide, rfl⟩
theorem fC_become_63 : fIC M_C_become 63 6 65 := Or.inr (Or.inl ⟨6, by decide +kernel, by decide, rfl⟩)
theorem fC_become_65 : fD M_C_become 65 (.invokestatic 37) 3 68 := ⟨by decide +kernel, rfl⟩
theorem fC_become_68 : fAL M_C_become 68 1 69 := Or.inl ⟨1, by decide +kernel, rfl, rfl⟩
theorem fC_become_69 : fD M_C_become 69 (.getfield 28) 3 72 := ⟨by decide +kernel, rfl⟩
theorem fC_become_72 : fIC M_C_become 72 0 73 := Or.inl ⟨0, by decide +kernel, by decide, rfl⟩
theorem fC_become_73 : fAL M_C_become 73 0 74 := Or.inl ⟨0, by decide +kernel, rfl, rfl⟩
theorem fC_become_74 : fD M_C_become 74 (.getfield 28) 3 77 := ⟨by decide +kernel, rfl⟩
theorem fC_become_77 : fIC M_C_become 77 0 78 := Or.inl ⟨0, by decide +kernel, by decide, rfl⟩
theorem fC_become_78 : fIC M_C_become 78 6 80 := Or.inr (Or.inl ⟨6, by decide +kernel, by decide, rfl⟩)
theorem fC_become_80 : fD M_C_become 80 (.invokestatic 37) 3 83 := ⟨by decide +kernel, rfl⟩
theorem fC_become_83 : fAL M_C_become 83 1 84 := Or.inl ⟨1, by decide +kernel, rfl, rfl⟩
theorem fC_become_84 : fD M_C_become 84 (.getfield 31) 3 87 := ⟨by decide +kernel, rfl⟩
theorem fC_become_87 : fIC M_C_become 87 0 88 := Or.inl ⟨0, by decide +kernel, by decide, rfl⟩
theorem fC_become_88 : fAL M_C_become 88 0 89 := Or.inl ⟨0, by decide +kernel, rfl, rfl⟩
theorem fC_become_89 : fD M_C_become 89 (.getfield 31) 3 92 := ⟨by decide +kernel, rfl⟩
theorem fC_become_92 : fIC M_C_become 92 0 93 := Or.inl ⟨0, by decide +kernel, by decide, rfl⟩
theorem fC_become_93 : fIC M_C_become 93 6 95 := Or.inr (Or.inl ⟨6, by decide +kernel, by decide, rfl⟩)
theorem fC_become_95 : fD M_C_become 95 (.invokestatic 37) 3 98 := ⟨by decide +kernel, rfl⟩
theorem fC_become_98 : fAL M_C_become 98 0 99 := Or.inl ⟨0, by decide +kernel, rfl, rfl⟩
theorem fC_become_99 : fAL M_C_become 99 1 100 := Or.inl ⟨1, by decide +kernel, rfl, rfl⟩
theorem fC_become_100 : fD M_C_become 100 (.getfield 34) 3 103 := ⟨by decide +kernel, rfl⟩
theorem fC_become_103 : fD M_C_become 103 (.putfield 34) 3 106 := ⟨by decide +kernel, rfl⟩
theorem fC_become_106 : fD M_C_become 106 .return_ 1 107 := ⟨by decide +kernel, rfl⟩
theorem fC_addTrace_0 : fAL M_C_addTrace 0 0 1 := Or.inl ⟨0, by decide +kernel, rfl, rfl⟩
theorem fC_addTrace_1 : fD M_C_addTrace 1 (.getfield 18) 3 4 := ⟨by decide +kernel, rfl⟩
theorem fC_addTrace_4 : fIC M_C_addTrace 4 6 6 := Or.inr (Or.inl ⟨6, by decide +kernel, by decide, rfl⟩)
theorem fC_addTrace_6 : fB M_C_addTrace 6 (.if_icmp .ge 33) 33 9 39 := ⟨by decide +kernel, rfl, by decide⟩
theorem fC_addTrace_9 : fAL M_C_addTrace 9 0 10 := Or.inl ⟨0, by decide +kernel, rfl, rfl⟩
theorem fC_addTrace_10 : fD M_C_addTrace 10 (.getfield 9) 3 13 := ⟨by decide +kernel, rfl⟩
theorem fC_addTrace_13 : fAL M_C_addTrace 13 0 14 := Or.inl ⟨0, by decide +kernel, rfl, rfl⟩
theorem fC_addTrace_14 : fD M_C_addTrace 14 (.getfield 18) 3 17 := ⟨by decide +kernel, rfl⟩
theorem fC_addTrace_17 : fIL M_C_addTrace 17 1 18 := Or.inl ⟨1, by decide +kernel, rfl, rfl⟩
theorem fC_addTrace_18 : fD M_C_addTrace 18 .iastore 1 19 := ⟨by decide +kernel, rfl⟩
theorem fC_addTrace_19 : fAL M_C_addTrace 19 0 20 := Or.inl ⟨0, by decide +kernel, rfl, rfl⟩
theorem fC_addTrace_20 : fD M_C_addTrace 20 (.getfield 15) 3 23 := ⟨by decide +kernel, rfl⟩
theorem fC_addTrace_23 : fAL M_C_addTrace 23 0 24 := Or.inl ⟨0, by decide +kernel, rfl, rfl⟩
theorem fC_addTrace_24 : fD M_C_addTrace 24 (.getfield 18) 3 27 := ⟨by decide +kernel, rfl⟩
theorem fC_addTrace_27 : fIL M_C_addTrace 27 2 28 := Or.inl ⟨2, by decide +kernel, rfl, rfl⟩
theorem fC_addTrace_28 : fD M_C_addTrace 28 .iastore 1 29 := ⟨by decide +kernel, rfl⟩
theorem fC_addTrace_29 : fAL M_C_addTrace 29 0 30 := Or.inl ⟨0, by decide +kernel, rfl, rfl⟩
theorem fC_addTrace_30 : fD M_C_addTrace 30 .dup 1 31 := ⟨by decide +kernel, rfl⟩
theorem fC_addTrace_31 : fD M_C_addTrace 31 (.getfield 18) 3 34 := ⟨by decide +kernel, rfl⟩
theorem fC_addTrace_34 : fIC M_C_addTrace 34 1 35 := Or.inl ⟨1, by decide +kernel, by decide, rfl⟩
theorem fC_addTrace_35 : fD M_C_addTrace 35 .iadd 1 36 := ⟨by decide +kernel, rfl⟩
theorem fC_addTrace_36 : fD M_C_addTrace 36 (.putfield 18) 3 39 := ⟨by decide +kernel, rfl⟩
theorem fC_addTrace_39 : fD M_C_addTrace 39 .return_ 1 40 := ⟨by decide +kernel, rfl⟩
theorem fC_addNote_0 : fAL M_C_addNote 0 0 1 := Or.inl ⟨0, by decide +kernel, rfl, rfl⟩
theorem fC_addNote_1 : fD M_C_addNote 1 (.getfield 34) 3 4 := ⟨by decide +kernel, rfl⟩
theorem fC_addNote_4 : fIC M_C_addNote 4 6 6 := Or.inr (Or.inl ⟨6, by decide +kernel, by decide, rfl⟩)
theorem fC_addNote_6 : fB M_C_addNote 6 (.if_icmp .ge 54) 54 9 60 := ⟨by decide +kernel, rfl, by decide⟩
theorem fC_addNote_9 : fAL M_C_addNote 9 0 10 := Or.inl ⟨0, by decide +kernel, rfl, rfl⟩
theorem fC_addNote_10 : fD M_C_addNote 10 (.getfield 22) 3 13 := ⟨by decide +kernel, rfl⟩
theorem fC_addNote_13 : fAL M_C_addNote 13 0 14 := Or.inl ⟨0, by decide +kernel, rfl, rfl⟩
theorem fC_addNote_14 : fD M_C_addNote 14 (.getfield 34) 3 17 := ⟨by decide +kernel, rfl⟩
theorem fC_addNote_17 : fIL M_C_addNote 17 1 18 := Or.inl ⟨1, by decide +kernel, rfl, rfl⟩
theorem fC_addNote_18 : fD M_C_addNote 18 .iastore 1 19 := ⟨by decide +kernel, rfl⟩
theorem fC_addNote_19 : fAL M_C_addNote 19 0 20 := Or.inl ⟨0, by decide +kernel, rfl, rfl⟩
theorem fC_addNote_20 : fD M_C_addNote 20 (.getfield 25) 3 23 := ⟨by decide +kernel, rfl⟩
theorem fC_addNote_23 : fAL M_C_addNote 23 0 24 := Or.inl ⟨0, by decide +kernel, rfl, rfl⟩
theorem fC_addNote_24 : fD M_C_addNote 24 (.getfield 34) 3 27 := ⟨by decide +kernel, rfl⟩
theorem fC_addNote_27 : fIL M_C_addNote 27 2 28 := Or.inl ⟨2, by decide +kernel, rfl, rfl⟩
theorem fC_addNote_28 : fD M_C_addNote 28 .iastore 1 29 := ⟨by decide +kernel, rfl⟩
theorem fC_addNote_29 : fAL M_C_addNote 29 0 30 := Or.inl ⟨0, by decide +kernel, rfl, rfl⟩
theorem fC_addNote_30 : fD M_C_addNote 30 (.getfield 28) 3 33 := ⟨by decide +kernel, rfl⟩
theorem fC_addNote_33 : fAL M_C_addNote 33 0 34 := Or.inl ⟨0, by decide +kernel, rfl, rfl⟩
theorem fC_addNote_34 : fD M_C_addNote 34 (.getfield 34) 3 37 := ⟨by decide +kernel, rfl⟩
theorem fC_addNote_37 : fIL M_C_addNote 37 3 38 := Or.inl ⟨3, by decide +kernel, rfl, rfl⟩
theorem fC_addNote_38 : fD M_C_addNote 38 .iastore 1 39 := ⟨by decide +kernel, rfl⟩
theorem fC_addNote_39 : fAL M_C_addNote 39 0 40 := Or.inl ⟨0, by decide +kernel, rfl, rfl⟩
theorem fC_addNote_40 : fD M_C_addNote 40 (.getfield 31) 3 43 := ⟨by decide +kernel, rfl⟩
theorem fC_addNote_43 : fAL M_C_addNote 43 0 44 := Or.inl ⟨0, by decide +kernel, rfl, rfl⟩
theorem fC_addNote_44 : fD M_C_addNote 44 (.getfield 34) 3 47 := ⟨by decide +kernel, rfl⟩
theorem fC_addNote_47 : fIL M_C_addNote 47 4 49 := Or.inr ⟨by decide +kernel, rfl⟩
theorem fC_addNote_49 : fD M_C_addNote 49 .iastore 1 50 := ⟨by decide +kernel, rfl⟩
theorem fC_addNote_50 : fAL M_C_addNote 50 0 51 := Or.inl ⟨0, by decide +kernel, rfl, rfl⟩
theorem fC_addNote_51 : fD M_C_addNote 51 .dup 1 52 := ⟨by decide +kernel, rfl⟩
theorem fC_addNote_52 : fD M_C_addNote 52 (.getfield 34) 3 55 := ⟨by decide +kernel, rfl⟩
theorem fC_addNote_55 : fIC M_C_addNote 55 1 56 := Or.inl ⟨1, by decide +kernel, by decide, rfl⟩
theorem fC_addNote_56 : fD M_C_addNote 56 .iadd 1 57 := ⟨by decide +kernel, rfl⟩
theorem fC_addNote_57 : fD M_C_addNote 57 (.putfield 34) 3 60 := ⟨by decide +kernel, rfl⟩
theorem fC_addNote_60 : fD M_C_addNote 60 .return_ 1 61 := ⟨by decide +kernel, rfl⟩
theorem fC_dropTraces_0 : fAL M_C_dropTraces 0 0 1 := Or.inl ⟨0, by decide +kernel, rfl, rfl⟩
theorem fC_dropTraces_1 : fD M_C_dropTraces 1 (.getfield 18) 3 4 := ⟨by decide +kernel, rfl⟩
theorem fC_dropTraces_4 : fIS M_C_dropTraces 4 1 5 := Or.inl ⟨1, by decide +kernel, rfl, rfl⟩
theorem fC_dropTraces_5 : fAL M_C_dropTraces 5 0 6 := Or.inl ⟨0, by decide +kernel, rfl, rfl⟩
theorem fC_dropTraces_6 : fIC M_C_dropTraces 6 0 7 := Or.inl ⟨0, by decide +kernel, by decide, rfl⟩
theorem fC_dropTraces_7 : fD M_C_dropTraces 7 (.putfield 18) 3 10 := ⟨by decide +kernel, rfl⟩
theorem fC_dropTraces_10 : fIL M_C_dropTraces 10 1 11 := Or.inl ⟨1, by decide +kernel, rfl, rfl⟩
theorem fC_dropTraces_11 : fD M_C_dropTraces 11 .ireturn 1 12 := ⟨by decide +kernel, rfl⟩
theorem fC_dropNotes_0 : fAL M_C_dropNotes 0 0 1 := Or.inl ⟨0, by decide +kernel, rfl, rfl⟩
theorem fC_dropNotes_1 : fD M_C_dropNotes 1 (.getfield 34) 3 4 := ⟨by decide +kernel, rfl⟩
theorem fC_dropNotes_4 : fIS M_C_dropNotes 4 1 5 := Or.inl ⟨1, by decide +kernel, rfl, rfl⟩
theorem fC_dropNotes_5 : fAL M_C_dropNotes 5 0 6 := Or.inl ⟨0, by decide +kernel, rfl, rfl⟩
theorem fC_dropNotes_6 : fIC M_C_dropNotes 6 0 7 := Or.inl ⟨0, by decide +kernel, by decide, rfl⟩
theorem fC_dropNotes_7 : fD M_C_dropNotes 7 (.putfield 34) 3 10 := ⟨by decide +kernel, rfl⟩
theorem fC_dropNotes_10 : fIL M_C_dropNotes 10 1 11 := Or.inl ⟨1, by decide +kernel, rfl, rfl⟩
theorem fC_dropNotes_11 : fD M_C_dropNotes 11 .ireturn 1 12 := ⟨by decide +kernel, rfl⟩
theorem fC_kindsOf_0 : fIC M_C_kindsOf 0 0 1 := Or.inl ⟨0, by decide +kernel, by decide, rfl⟩
theorem fC_kindsOf_1 : fIS M_C_kindsOf 1 2 2 := Or.inl ⟨2, by decide +kernel, rfl, rfl⟩
theorem fC_kindsOf_2 : fIC M_C_kindsOf 2 0 3 := Or.inl ⟨0, by decide +kernel, by decide, rfl⟩
theorem fC_kindsOf_3 : fIS M_C_kindsOf 3 3 4 := Or.inl ⟨3, by decide +kernel, rfl, rfl⟩
theorem fC_kindsOf_4 : fIL M_C_kindsOf 4 3 5 := Or.inl ⟨3, by decide +kernel, rfl, rfl⟩
theorem fC_kindsOf_5 : fIC M_C_kindsOf 5 5 6 := Or.inl ⟨5, by decide +kernel, by decide, rfl⟩
theorem fC_kindsOf_6 : fB M_C_kindsOf 6 (.if_icmp .gt 24) 24 9 30 := ⟨by decide +kernel, rfl, by decide⟩
theorem fC_kindsOf_9 : fAL M_C_kindsOf 9 0 10 := Or.inl ⟨0, by decide +kernel, rfl, rfl⟩
theorem fC_kindsOf_10 : fIL M_C_kindsOf 10 1 11 := Or.inl ⟨1, by decide +kernel, rfl, rfl⟩
theorem fC_kindsOf_11 : fIL M_C_kindsOf 11 3 12 := Or.inl ⟨3, by decide +kernel, rfl, rfl⟩
theorem fC_kindsOf_12 : fD M_C_kindsOf 12 (.invokevirtual 45) 3 15 := ⟨by decide +kernel, rfl⟩
theorem fC_kindsOf_15 : fB M_C_kindsOf 15 (.ifCond .eq 9) 9 18 24 := ⟨by decide +kernel, rfl, by decide⟩
theorem fC_kindsOf_18 : fIL M_C_kindsOf 18 2 19 := Or.inl ⟨2, by decide +kernel, rfl, rfl⟩
theorem fC_kindsOf_19 : fIC M_C_kindsOf 19 1 20 := Or.inl ⟨1, by decide +kernel, by decide, rfl⟩
theorem fC_kindsOf_20 : fIL M_C_kindsOf 20 3 21 := Or.inl ⟨3, by decide +kernel, rfl, rfl⟩
theorem fC_kindsOf_21 : fD M_C_kindsOf 21 .ishl 1 22 := ⟨by decide +kernel, rfl⟩
theorem fC_kindsOf_22 : fD M_C_kindsOf 22 .ior 1 23 := ⟨by decide +kernel, rfl⟩
theorem fC_kindsOf_23 : fIS M_C_kindsOf 23 2 24 := Or.inl ⟨2, by decide +kernel, rfl, rfl⟩
theorem fC_kindsOf_24 : fD M_C_kindsOf 24 (.iinc 3 1) 3 27 := ⟨by decide +kernel, rfl⟩
theorem fC_kindsOf_27 : fB M_C_kindsOf 27 (.goto (-23)) (-23) 30 4 := ⟨by decide +kernel, rfl, by decide⟩
theorem fC_kindsOf_30 : fIL M_C_kindsOf 30 2 31 := Or.inl ⟨2, by decide +kernel, rfl, rfl⟩
theorem fC_kindsOf_31 : fD M_C_kindsOf 31 .ireturn 1 32 := ⟨by decide +kernel, rfl⟩
theorem fC_mayBe_0 : fIC M_C_mayBe 0 0 1 := Or.inl ⟨0, by decide +kernel, by decide, rfl⟩
theorem fC_mayBe_1 : fIS M_C_mayBe 1 3 2 := Or.inl ⟨3, by decide +kernel, rfl, rfl⟩
theorem fC_mayBe_2 : fIL M_C_mayBe 2 3 3 := Or.inl ⟨3, by decide +kernel, rfl, rfl⟩
theorem fC_mayBe_3 : fAL M_C_mayBe 3 0 4 := Or.inl ⟨0, by decide +kernel, rfl, rfl⟩
theorem fC_mayBe_4 : fD M_C_mayBe 4 (.getfield 34) 3 7 := ⟨by decide +kernel, rfl⟩
theorem fC_mayBe_7 : fB M_C_mayBe 7 (.if_icmp .ge 52) 52 10 59 := ⟨by decide +kernel, rfl, by decide⟩
theorem fC_mayBe_10 : fIL M_C_mayBe 10 3 11 := Or.inl ⟨3, by decide +kernel, rfl, rfl⟩
theorem fC_mayBe_11 : fIC M_C_mayBe 11 6 13 := Or.inr (Or.inl ⟨6, by decide +kernel, by decide, rfl⟩)
theorem fC_mayBe_13 : fB M_C_mayBe 13 (.if_icmp .ge 46) 46 16 59 := ⟨by decide +kernel, rfl, by decide⟩
theorem fC_mayBe_16 : fAL M_C_mayBe 16 0 17 := Or.inl ⟨0, by decide +kernel, rfl, rfl⟩
theorem fC_mayBe_17 : fD M_C_mayBe 17 (.getfield 22) 3 20 := ⟨by decide +kernel, rfl⟩
theorem fC_mayBe_20 : fIL M_C_mayBe 20 3 21 := Or.inl ⟨3, by decide +kernel, rfl, rfl⟩
theorem fC_mayBe_21 : fD M_C_mayBe 21 .iaload 1 22 := ⟨by decide +kernel, rfl⟩
theorem fC_mayBe_22 : fIL M_C_mayBe 22 1 23 := Or.inl ⟨1, by decide +kernel, rfl, rfl⟩
theorem fC_mayBe_23 : fB M_C_mayBe 23 (.if_icmp .ne 30) 30 26 53 := ⟨by decide +kernel, rfl, by decide⟩
theorem fC_mayBe_26 : fIL M_C_mayBe 26 2 27 := Or.inl ⟨2, by decide +kernel, rfl, rfl⟩
theorem fC_mayBe_27 : fAL M_C_mayBe 27 0 28 := Or.inl ⟨0, by decide +kernel, rfl, rfl⟩
theorem fC_mayBe_28 : fD M_C_mayBe 28 (.getfield 25) 3 31 := ⟨by decide +kernel, rfl⟩
theorem fC_mayBe_31 : fIL M_C_mayBe 31 3 32 := Or.inl ⟨3, by decide +kernel, rfl, rfl⟩
theorem fC_mayBe_32 : fD M_C_mayBe 32 .iaload 1 33 := ⟨by decide +kernel, rfl⟩
theorem fC_mayBe_33 : fAL M_C_mayBe 33 0 34 := Or.inl ⟨0, by decide +kernel, rfl, rfl⟩
theorem fC_mayBe_34 : fD M_C_mayBe 34 (.getfield 28) 3 37 := ⟨by decide +kernel, rfl⟩
theorem fC_mayBe_37 : fIL M_C_mayBe 37 3 38 := Or.inl ⟨3, by decide +kernel, rfl, rfl⟩
theorem fC_mayBe_38 : fD M_C_mayBe 38 .iaload 1 39 := ⟨by decide +kernel, rfl⟩
theorem fC_mayBe_39 : fD M_C_mayBe 39 (.invokestatic 49) 3 42 := ⟨by decide +kernel, rfl⟩
theorem fC_mayBe_42 : fAL M_C_mayBe 42 0 43 := Or.inl ⟨0, by decide +kernel, rfl, rfl⟩
theorem fC_mayBe_43 : fD M_C_mayBe 43 (.getfield 31) 3 46 := ⟨by decide +kernel, rfl⟩
theorem fC_mayBe_46 : fIL M_C_mayBe 46 3 47 := Or.inl ⟨3, by decide +kernel, rfl, rfl⟩
theorem fC_mayBe_47 : fD M_C_mayBe 47 .iaload 1 48 := ⟨by decide +kernel, rfl⟩
theorem fC_mayBe_48 : fB M_C_mayBe 48 (.if_icmp .eq 5) 5 51 53 := ⟨by decide +kernel, rfl, by decide⟩
theorem fC_mayBe_51 : fIC M_C_mayBe 51 0 52 := Or.inl ⟨0, by decide +kernel, by decide, rfl⟩
theorem fC_mayBe_52 : fD M_C_mayBe 52 .ireturn 1 53 := ⟨by decide +kernel, rfl⟩
theorem fC_mayBe_53 : fD M_C_mayBe 53 (.iinc 3 1) 3 56 := ⟨by decide +kernel, rfl⟩
theorem fC_mayBe_56 : fB M_C_mayBe 56 (.goto (-54)) (-54) 59 2 := ⟨by decide +kernel, rfl, by decide⟩
theorem fC_mayBe_59 : fIC M_C_mayBe 59 1 60 := Or.inl ⟨1, by decide +kernel, by decide, rfl⟩
theorem fC_mayBe_60 : fD M_C_mayBe 60 .ireturn 1 61 := ⟨by decide +kernel, rfl⟩
theorem fC_mixInto_0 : fLL M_C_mixInto 0 1 1 := Or.inl ⟨1, by decide +kernel, rfl, rfl⟩
theorem fC_mixInto_1 : fLS M_C_mixInto 1 3 2 := Or.inl ⟨3, by decide +kernel, rfl, rfl⟩
theorem fC_mixInto_2 : fIC M_C_mixInto 2 0 3 := Or.inl ⟨0, by decide +kernel, by decide, rfl⟩
theorem fC_mixInto_3 : fIS M_C_mixInto 3 5 5 := Or.inr ⟨by decide +kernel, rfl⟩
theorem fC_mixInto_5 : fIL M_C_mixInto 5 5 7 := Or.inr ⟨by decide +kernel, rfl⟩
theorem fC_mixInto_7 : fAL M_C_mixInto 7 0 8 := Or.inl ⟨0, by decide +kernel, rfl, rfl⟩
theorem fC_mixInto_8 : fD M_C_mixInto 8 (.getfield 18) 3 11 := ⟨by decide +kernel, rfl⟩
theorem fC_mixInto_11 : fB M_C_mixInto 11 (.if_icmp .ge 46) 46 14 57 := ⟨by decide +kernel, rfl, by decide⟩
theorem fC_mixInto_14 : fIL M_C_mixInto 14 5 16 := Or.inr ⟨by decide +kernel, rfl⟩
theorem fC_mixInto_16 : fIC M_C_mixInto 16 6 18 := Or.inr (Or.inl ⟨6, by decide +kernel, by decide, rfl⟩)
theorem fC_mixInto_18 : fB M_C_mixInto 18 (.if_icmp .ge 39) 39 21 57 := ⟨by decide +kernel, rfl, by decide⟩
theorem fC_mixInto_21 : fLC M_C_mixInto 21 31 24 := Or.inr ⟨53, by decide +kernel, o_C_53, rfl⟩
theorem fC_mixInto_24 : fLL M_C_mixInto 24 3 25 := Or.inl ⟨3, by decide +kernel, rfl, rfl⟩
theorem fC_mixInto_25 : fD M_C_mixInto 25 .lmul 1 26 := ⟨by decide +kernel, rfl⟩
theorem fC_mixInto_26 : fAL M_C_mixInto 26 0 27 := Or.inl ⟨0, by decide +kernel, rfl, rfl⟩
theorem fC_mixInto_27 : fD M_C_mixInto 27 (.getfield 9) 3 30 := ⟨by decide +kernel, rfl⟩
theorem fC_mixInto_30 : fIL M_C_mixInto 30 5 32 := Or.inr ⟨by decide +kernel, rfl⟩
theorem fC_mixInto_32 : fD M_C_mixInto 32 .iaload 1 33 := ⟨by decide +kernel, rfl⟩
theorem fC_mixInto_33 : fD M_C_mixInto 33 .i2l 1 34 := ⟨by decide +kernel, rfl⟩
theorem fC_mixInto_34 : fD M_C_mixInto 34 .ladd 1 35 := ⟨by decide +kernel, rfl⟩
theorem fC_mixInto_35 : fLS M_C_mixInto 35 3 36 := Or.inl ⟨3, by decide +kernel, rfl, rfl⟩
theorem fC_mixInto_36 : fLC M_C_mixInto 36 31 39 := Or.inr ⟨53, by decide +kernel, o_C_53, rfl⟩
theorem fC_mixInto_39 : fLL M_C_mixInto 39 3 40 := Or.inl ⟨3, by decide +kernel, rfl, rfl⟩
theorem fC_mixInto_40 : fD M_C_mixInto 40 .lmul 1 41 := ⟨by decide +kernel, rfl⟩
theorem fC_mixInto_41 : fAL M_C_mixInto 41 0 42 := Or.inl ⟨0, by decide +kernel, rfl, rfl⟩
theorem fC_mixInto_42 : fD M_C_mixInto 42 (.getfield 15) 3 45 := ⟨by decide +kernel, rfl⟩
theorem fC_mixInto_45 : fIL M_C_mixInto 45 5 47 := Or.inr ⟨by decide +kernel, rfl⟩
theorem fC_mixInto_47 : fD M_C_mixInto 47 .iaload 1 48 := ⟨by decide +kernel, rfl⟩
theorem fC_mixInto_48 : fD M_C_mixInto 48 .i2l 1 49 := ⟨by decide +kernel, rfl⟩
theorem fC_mixInto_49 : fD M_C_mixInto 49 .ladd 1 50 := ⟨by decide +kernel, rfl⟩
theorem fC_mixInto_50 : fLS M_C_mixInto 50 3 51 := Or.inl ⟨3, by decide +kernel, rfl, rfl⟩
theorem fC_mixInto_51 : fD M_C_mixInto 51 (.iinc 5 1) 3 54 := ⟨by decide +kernel, rfl⟩
theorem fC_mixInto_54 : fB M_C_mixInto 54 (.goto (-49)) (-49) 57 5 := ⟨by decide +kernel, rfl, by decide⟩
theorem fC_mixInto_57 : fIC M_C_mixInto 57 0 58 := Or.inl ⟨0, by decide +kernel, by decide, rfl⟩
theorem fC_mixInto_58 : fIS M_C_mixInto 58 5 60 := Or.inr ⟨by decide +kernel, rfl⟩
theorem fC_mixInto_60 : fIL M_C_mixInto 60 5 62 := Or.inr ⟨by decide +kernel, rfl⟩
theorem fC_mixInto_62 : fAL M_C_mixInto 62 0 63 := Or.inl ⟨0, by decide +kernel, rfl, rfl⟩
theorem fC_mixInto_63 : fD M_C_mixInto 63 (.getfield 34) 3 66 := ⟨by decide +kernel, rfl⟩
theorem fC_mixInto_66 : fB M_C_mixInto 66 (.if_icmp .ge 76) 76 69 142 := ⟨by decide +kernel, rfl, by decide⟩
theorem fC_mixInto_69 : fIL M_C_mixInto 69 5 71 := Or.inr ⟨by decide +kernel, rfl⟩
theorem fC_mixInto_71 : fIC M_C_mixInto 71 6 73 := Or.inr (Or.inl ⟨6, by decide +kernel, by decide, rfl⟩)
theorem fC_mixInto_73 : fB M_C_mixInto 73 (.if_icmp .ge 69) 69 76 142 := ⟨by decide +kernel, rfl, by decide⟩
theorem fC_mixInto_76 : fLC M_C_mixInto 76 31 79 := Or.inr ⟨53, by decide +kernel, o_C_53, rfl⟩
theorem fC_mixInto_79 : fLL M_C_mixInto 79 3 80 := Or.inl ⟨3, by decide +kernel, rfl, rfl⟩
theorem fC_mixInto_80 : fD M_C_mixInto 80 .lmul 1 81 := ⟨by decide +kernel, rfl⟩
theorem fC_mixInto_81 : fAL M_C_mixInto 81 0 82 := Or.inl ⟨0, by decide +kernel, rfl, rfl⟩
theorem fC_mixInto_82 : fD M_C_mixInto 82 (.getfield 22) 3 85 := ⟨by decide +kernel, rfl⟩
theorem fC_mixInto_85 : fIL M_C_mixInto 85 5 87 := Or.inr ⟨by decide +kernel, rfl⟩
theorem fC_mixInto_87 : fD M_C_mixInto 87 .iaload 1 88 := ⟨by decide +kernel, rfl⟩
theorem fC_mixInto_88 : fD M_C_mixInto 88 .i2l 1 89 := ⟨by decide +kernel, rfl⟩
theorem fC_mixInto_89 : fD M_C_mixInto 89 .ladd 1 90 := ⟨by decide +kernel, rfl⟩
theorem fC_mixInto_90 : fLS M_C_mixInto 90 3 91 := Or.inl ⟨3, by decide +kernel, rfl, rfl⟩
theorem fC_mixInto_91 : fLC M_C_mixInto 91 31 94 := Or.inr ⟨53, by decide +kernel, o_C_53, rfl⟩
theorem fC_mixInto_94 : fLL M_C_mixInto 94 3 95 := Or.inl ⟨3, by decide +kernel, rfl, rfl⟩
theorem fC_mixInto_95 : fD M_C_mixInto 95 .lmul 1 96 := ⟨by decide +kernel, rfl⟩
theorem fC_mixInto_96 : fAL M_C_mixInto 96 0 97 := Or.inl ⟨0, by decide +kernel, rfl, rfl⟩
theorem fC_mixInto_97 : fD M_C_mixInto 97 (.getfield 25) 3 100 := ⟨by decide +kernel, rfl⟩
theorem fC_mixInto_100 : fIL M_C_mixInto 100 5 102 := Or.inr ⟨by decide +kernel, rfl⟩
theorem fC_mixInto_102 : fD M_C_mixInto 102 .iaload 1 103 := ⟨by decide +kernel, rfl⟩
theorem fC_mixInto_103 : fD M_C_mixInto 103 .i2l 1 104 := ⟨by decide +kernel, rfl⟩
theorem fC_mixInto_104 : fD M_C_mixInto 104 .ladd 1 105 := ⟨by decide +kernel, rfl⟩
theorem fC_mixInto_105 : fLS M_C_mixInto 105 3 106 := Or.inl ⟨3, by decide +kernel, rfl, rfl⟩
theorem fC_mixInto_106 : fLC M_C_mixInto 106 31 109 := Or.inr ⟨53, by decide +kernel, o_C_53, rfl⟩
theorem fC_mixInto_109 : fLL M_C_mixInto 109 3 110 := Or.inl ⟨3, by decide +kernel, rfl, rfl⟩
theorem fC_mixInto_110 : fD M_C_mixInto 110 .lmul 1 111 := ⟨by decide +kernel, rfl⟩
theorem fC_mixInto_111 : fAL M_C_mixInto 111 0 112 := Or.inl ⟨0, by decide +kernel, rfl, rfl⟩
theorem fC_mixInto_112 : fD M_C_mixInto 112 (.getfield 28) 3 115 := ⟨by decide +kernel, rfl⟩
theorem fC_mixInto_115 : fIL M_C_mixInto 115 5 117 := Or.inr ⟨by decide +kernel, rfl⟩
theorem fC_mixInto_117 : fD M_C_mixInto 117 .iaload 1 118 := ⟨by decide +kernel, rfl⟩
theorem fC_mixInto_118 : fD M_C_mixInto 118 .i2l 1 119 := ⟨by decide +kernel, rfl⟩
theorem fC_mixInto_119 : fD M_C_mixInto 119 .ladd 1 120 := ⟨by decide +kernel, rfl⟩
theorem fC_mixInto_120 : fLS M_C_mixInto 120 3 121 := Or.inl ⟨3, by decide +kernel, rfl, rfl⟩
theorem fC_mixInto_121 : fLC M_C_mixInto 121 31 124 := Or.inr ⟨53, by decide +kernel, o_C_53, rfl⟩
theorem fC_mixInto_124 : fLL M_C_mixInto 124 3 125 := Or.inl ⟨3, by decide +kernel, rfl, rfl⟩
theorem fC_mixInto_125 : fD M_C_mixInto 125 .lmul 1 126 := ⟨by decide +kernel, rfl⟩
theorem fC_mixInto_126 : fAL M_C_mixInto 126 0 127 := Or.inl ⟨0, by decide +kernel, rfl, rfl⟩
theorem fC_mixInto_127 : fD M_C_mixInto 127 (.getfield 31) 3 130 := ⟨by decide +kernel, rfl⟩
theorem fC_mixInto_130 : fIL M_C_mixInto 130 5 132 := Or.inr ⟨by decide +kernel, rfl⟩
theorem fC_mixInto_132 : fD M_C_mixInto 132 .iaload 1 133 := ⟨by decide +kernel, rfl⟩
theorem fC_mixInto_133 : fD M_C_mixInto 133 .i2l 1 134 := ⟨by decide +kernel, rfl⟩
theorem fC_mixInto_134 : fD M_C_mixInto 134 .ladd 1 135 := ⟨by decide +kernel, rfl⟩
theorem fC_mixInto_135 : fLS M_C_mixInto 135 3 136 := Or.inl ⟨3, by decide +kernel, rfl, rfl⟩
theorem fC_mixInto_136 : fD M_C_mixInto 136 (.iinc 5 1) 3 139 := ⟨by decide +kernel, rfl⟩
theorem fC_mixInto_139 : fB M_C_mixInto 139 (.goto (-79)) (-79) 142 60 := ⟨by decide +kernel, rfl, by decide⟩
theorem fC_mixInto_142 : fLL M_C_mixInto 142 3 143 := Or.inl ⟨3, by decide +kernel, rfl, rfl⟩
theorem fC_mixInto_143 : fD M_C_mixInto 143 .lreturn 1 144 := ⟨by decide +kernel, rfl⟩
theorem fH_init_0 : fAL M_H_init 0 0 1 := Or.inl ⟨0, by decide +kernel, rfl, rfl⟩
theorem fH_init_1 : fD M_H_init 1 (.invokespecial 3) 3 4 := ⟨by decide +kernel, rfl⟩
theorem fH_init_4 : fAL M_H_init 4 0 5 := Or.inl ⟨0, by decide +kernel, rfl, rfl⟩
theorem fH_init_5 : fIC M_H_init 5 10 7 := Or.inr (Or.inl ⟨10, by decide +kernel, by decide, rfl⟩)
theorem fH_init_7 : fD M_H_init 7 (.newarray .int) 2 9 := ⟨by decide +kernel, rfl⟩
theorem fH_init_9 : fD M_H_init 9 (.putfield 9) 3 12 := ⟨by decide +kernel, rfl⟩
theorem fH_init_12 : fAL M_H_init 12 0 13 := Or.inl ⟨0, by decide +kernel, rfl, rfl⟩
theorem fH_init_13 : fIC M_H_init 13 10 15 := Or.inr (Or.inl ⟨10, by decide +kernel, by decide, rfl⟩)
theorem fH_init_15 : fD M_H_init 15 (.newarray .int) 2 17 := ⟨by decide +kernel, rfl⟩
theorem fH_init_17 : fD M_H_init 17 (.putfield 15) 3 20 := ⟨by decide +kernel, rfl⟩
theorem fH_init_20 : fAL M_H_init 20 0 21 := Or.inl ⟨0, by decide +kernel, rfl, rfl⟩
theorem fH_init_21 : fD M_H_init 21 (.new 18) 3 24 := ⟨by decide +kernel, rfl⟩
theorem fH_init_24 : fD M_H_init 24 .dup 1 25 := ⟨by decide +kernel, rfl⟩
theorem fH_init_25 : fD M_H_init 25 (.invokespecial 20) 3 28 := ⟨by decide +kernel, rfl⟩
theorem fH_init_28 : fD M_H_init 28 (.putfield 21) 3 31 := ⟨by decide +kernel, rfl⟩
theorem fH_init_31 : fAL M_H_init 31 0 32 := Or.inl ⟨0, by decide +kernel, rfl, rfl⟩
theorem fH_init_32 : fD M_H_init 32 (.new 25) 3 35 := ⟨by decide +kernel, rfl⟩
theorem fH_init_35 : fD M_H_init 35 .dup 1 36 := ⟨by decide +kernel, rfl⟩
theorem fH_init_36 : fD M_H_init 36 (.invokespecial 27) 3 39 := ⟨by decide +kernel, rfl⟩
theorem fH_init_39 : fD M_H_init 39 (.putfield 28) 3 42 := ⟨by decide +kernel, rfl⟩
theorem fH_init_42 : fAL M_H_init 42 0 43 := Or.inl ⟨0, by decide +kernel, rfl, rfl⟩
theorem fH_init_43 : fD M_H_init 43 (.new 32) 3 46 := ⟨by decide +kernel, rfl⟩
theorem fH_init_46 : fD M_H_init 46 .dup 1 47 := ⟨by decide +kernel, rfl⟩
theorem fH_init_47 : fD M_H_init 47 (.invokespecial 34) 3 50 := ⟨by decide +kernel, rfl⟩
theorem fH_init_50 : fD M_H_init 50 (.putfield 35) 3 53 := ⟨by decide +kernel, rfl⟩
theorem fH_init_53 : fAL M_H_init 53 0 54 := Or.inl ⟨0, by decide +kernel, rfl, rfl⟩
theorem fH_init_54 : fD M_H_init 54 (.new 39) 3 57 := ⟨by decide +kernel, rfl⟩
theorem fH_init_57 : fD M_H_init 57 .dup 1 58 := ⟨by decide +kernel, rfl⟩
theorem fH_init_58 : fD M_H_init 58 (.invokespecial 41) 3 61 := ⟨by decide +kernel, rfl⟩
theorem fH_init_61 : fD M_H_init 61 (.putfield 42) 3 64 := ⟨by decide +kernel, rfl⟩
theorem fH_init_64 : fAL M_H_init 64 0 65 := Or.inl ⟨0, by decide +kernel, rfl, rfl⟩
theorem fH_init_65 : fD M_H_init 65 (.getfield 15) 3 68 := ⟨by decide +kernel, rfl⟩
theorem fH_init_68 : fIC M_H_init 68 20 70 := Or.inr (Or.inl ⟨20, by decide +kernel, by decide, rfl⟩)
theorem fH_init_70 : fD M_H_init 70 (.invokestatic 46) 3 73 := ⟨by decide +kernel, rfl⟩
theorem fH_init_73 : fD M_H_init 73 .return_ 1 74 := ⟨by decide +kernel, rfl⟩
theorem fH_begin_0 : fAL M_H_begin 0 0 1 := Or.inl ⟨0, by decide +kernel, rfl, rfl⟩
theorem fH_begin_1 : fD M_H_begin 1 (.getfield 9) 3 4 := ⟨by decide +kernel, rfl⟩
theorem fH_begin_4 : fIC M_H_begin 4 0 5 := Or.inl ⟨0, by decide +kernel, by decide, rfl⟩
theorem fH_begin_5 : fD M_H_begin 5 (.invokestatic 46) 3 8 := ⟨by decide +kernel, rfl⟩
theorem fH_begin_8 : fAL M_H_begin 8 0 9 := Or.inl ⟨0, by decide +kernel, rfl, rfl⟩
theorem fH_begin_9 : fD M_H_begin 9 (.getfield 15) 3 12 := ⟨by decide +kernel, rfl⟩
theorem fH_begin_12 : fIC M_H_begin 12 20 14 := Or.inr (Or.inl ⟨20, by decide +kernel, by decide, rfl⟩)
theorem fH_begin_14 : fD M_H_begin 14 (.invokestatic 46) 3 17 := ⟨by decide +kernel, rfl⟩
theorem fH_begin_17 : fAL M_H_begin 17 0 18 := Or.inl ⟨0, by decide +kernel, rfl, rfl⟩
theorem fH_begin_18 : fD M_H_begin 18 (.getfield 21) 3 21 := ⟨by decide +kernel, rfl⟩
theorem fH_begin_21 : fD M_H_begin 21 (.invokevirtual 52) 3 24 := ⟨by decide +kernel, rfl⟩
theorem fH_begin_24 : fAL M_H_begin 24 0 25 := Or.inl ⟨0, by decide +kernel, rfl, rfl⟩
theorem fH_begin_25 : fD M_H_begin 25 (.getfield 28) 3 28 := ⟨by decide +kernel, rfl⟩
theorem fH_begin_28 : fD M_H_begin 28 (.invokevirtual 55) 3 31 := ⟨by decide +kernel, rfl⟩
theorem fH_begin_31 : fAL M_H_begin 31 0 32 := Or.inl ⟨0, by decide +kernel, rfl, rfl⟩
theorem fH_begin_32 : fD M_H_begin 32 (.getfield 35) 3 35 := ⟨by decide +kernel, rfl⟩
theorem fH_begin_35 : fD M_H_begin 35 (.invokevirtual 56) 3 38 := ⟨by decide +kernel, rfl⟩
theorem fH_begin_38 : fD M_H_begin 38 .pop 1 39 := ⟨by decide +kernel, rfl⟩
theorem fH_begin_39 : fAL M_H_begin 39 0 40 := Or.inl ⟨0, by decide +kernel, rfl, rfl⟩
theorem fH_begin_40 : fD M_H_begin 40 (.getfield 35) 3 43 := ⟨by decide +kernel, rfl⟩
theorem fH_begin_43 : fD M_H_begin 43 (.invokevirtual 60) 3 46 := ⟨by decide +kernel, rfl⟩
theorem fH_begin_46 : fD M_H_begin 46 .pop 1 47 := ⟨by decide +kernel, rfl⟩
theorem fH_begin_47 : fAL M_H_begin 47 0 48 := Or.inl ⟨0, by decide +kernel, rfl, rfl⟩
theorem fH_begin_48 : fD M_H_begin 48 (.getfield 42) 3 51 := ⟨by decide +kernel, rfl⟩
theorem fH_begin_51 : fIC M_H_begin 51 0 52 := Or.inl ⟨0, by decide +kernel, by decide, rfl⟩
theorem fH_begin_52 : fD M_H_begin 52 (.putfield 63) 3 55 := ⟨by decide +kernel, rfl⟩
theorem fH_begin_55 : fD M_H_begin 55 .return_ 1 56 := ⟨by decide +kernel, rfl⟩
theorem fH_become_0 : fAL M_H_become 0 1 1 := Or.inl ⟨1, by decide +kernel, rfl, rfl⟩
theorem fH_become_1 : fD M_H_become 1 (.getfield 9) 3 4 := ⟨by decide +kernel, rfl⟩
theorem fH_become_4 : fIC M_H_become 4 0 5 := Or.inl ⟨0, by decide +kernel, by decide, rfl⟩
theorem fH_become_5 : fAL M_H_become 5 0 6 := Or.inl ⟨0, by decide +kernel, rfl, rfl⟩
theorem fH_become_6 : fD M_H_become 6 (.getfield 9) 3 9 := ⟨by decide +kernel, rfl⟩
theorem fH_become_9 : fIC M_H_become 9 0 10 := Or.inl ⟨0, by decide +kernel, by decide, rfl⟩
theorem fH_become_10 : fIC M_H_become 10 10 12 := Or.inr (Or.inl ⟨10, by decide +kernel, by decide, rfl⟩)
theorem fH_become_12 : fD M_H_become 12 (.invokestatic 67) 3 15 := ⟨by decide +kernel, rfl⟩
theorem fH_become_15 : fAL M_H_become 15 1 16 := Or.inl ⟨1, by decide +kernel, rfl, rfl⟩
theorem fH_become_16 : fD M_H_become 16 (.getfield 15) 3 19 := ⟨by decide +kernel, rfl⟩
theorem fH_become_19 : fIC M_H_become 19 0 20 := Or.inl ⟨0, by decide +kernel, by decide, rfl⟩
theorem fH_become_20 : fAL M_H_become 20 0 21 := Or.inl ⟨0, by decide +kernel, rfl, rfl⟩
theorem fH_become_21 : fD M_H_become 21 (.getfield 15) 3 24 := ⟨by decide +kernel, rfl⟩
theorem fH_become_24 : fIC M_H_become 24 0 25 := Or.inl ⟨0, by decide +kernel, by decide, rfl⟩
theorem fH_become_25 : fIC M_H_become 25 10 27 := Or.inr (Or.inl ⟨10, by decide +kernel, by decide, rfl⟩)
theorem fH_become_27 : fD M_H_become 27 (.invokestatic 67) 3 30 := ⟨by decide +kernel, rfl⟩
theorem fH_become_30 : fAL M_H_become 30 0 31 := Or.inl ⟨0, by decide +kernel, rfl, rfl⟩
theorem fH_become_31 : fD M_H_become 31 (.getfield 21) 3 34 := ⟨by decide +kernel, rfl⟩
theorem fH_become_34 : fAL M_H_become 34 1 35 := Or.inl ⟨1, by decide +kernel, rfl, rfl⟩
theorem fH_become_35 : fD M_H_become 35 (.getfield 21) 3 38 := ⟨by decide +kernel, rfl⟩
theorem fH_become_38 : fD M_H_become 38 (.invokevirtual 73) 3 41 := ⟨by decide +kernel, rfl⟩
theorem fH_become_41 : fAL M_H_become 41 0 42 := Or.inl ⟨0, by decide +kernel, rfl, rfl⟩
theorem fH_become_42 : fD M_H_become 42 (.getfield 28) 3 45 := ⟨by decide +kernel, rfl⟩
theorem fH_become_45 : fAL M_H_become 45 1 46 := Or.inl ⟨1, by decide +kernel, rfl, rfl⟩
theorem fH_become_46 : fD M_H_become 46 (.getfield 28) 3 49 := ⟨by decide +kernel, rfl⟩
theorem fH_become_49 : fD M_H_become 49 (.invokevirtual 77) 3 52 := ⟨by decide +kernel, rfl⟩
theorem fH_become_52 : fAL M_H_become 52 0 53 := Or.inl ⟨0, by decide +kernel, rfl, rfl⟩
theorem fH_become_53 : fD M_H_become 53 (.getfield 35) 3 56 := ⟨by decide +kernel, rfl⟩
theorem fH_become_56 : fAL M_H_become 56 1 57 := Or.inl ⟨1, by decide +kernel, rfl, rfl⟩
theorem fH_become_57 : fD M_H_become 57 (.getfield 35) 3 60 := ⟨by decide +kernel, rfl⟩
theorem fH_become_60 : fD M_H_become 60 (.invokevirtual 80) 3 63 := ⟨by decide +kernel, rfl⟩
theorem fH_become_63 : fAL M_H_become 63 0 64 := Or.inl ⟨0, by decide +kernel, rfl, rfl⟩
theorem fH_become_64 : fD M_H_become 64 (.getfield 42) 3 67 := ⟨by decide +kernel, rfl⟩
theorem fH_become_67 : fAL M_H_become 67 1 68 := Or.inl ⟨1, by decide +kernel, rfl, rfl⟩
theorem fH_become_68 : fD M_H_become 68 (.getfield 42) 3 71 := ⟨by decide +kernel, rfl⟩
theorem fH_become_71 : fD M_H_become 71 (.invokevirtual 83) 3 74 := ⟨by decide +kernel, rfl⟩
theorem fH_become_74 : fD M_H_become 74 .return_ 1 75 := ⟨by decide +kernel, rfl⟩
theorem fH_tellFigure_0 : fIL M_H_tellFigure 0 1 1 := Or.inl ⟨1, by decide +kernel, rfl, rfl⟩
theorem fH_tellFigure_1 : fD M_H_tellFigure 1 (.invokestatic 86) 3 4 := ⟨by decide +kernel, rfl⟩
theorem fH_tellFigure_4 : fB M_H_tellFigure 4 (.ifCond .eq 25) 25 7 29 := ⟨by decide +kernel, rfl, by decide⟩
theorem fH_tellFigure_7 : fAL M_H_tellFigure 7 0 8 := Or.inl ⟨0, by decide +kernel, rfl, rfl⟩
theorem fH_tellFigure_8 : fD M_H_tellFigure 8 (.getfield 9) 3 11 := ⟨by decide +kernel, rfl⟩
theorem fH_tellFigure_11 : fIL M_H_tellFigure 11 1 12 := Or.inl ⟨1, by decide +kernel, rfl, rfl⟩
theorem fH_tellFigure_12 : fIL M_H_tellFigure 12 2 13 := Or.inl ⟨2, by decide +kernel, rfl, rfl⟩
theorem fH_tellFigure_13 : fD M_H_tellFigure 13 .iastore 1 14 := ⟨by decide +kernel, rfl⟩
theorem fH_tellFigure_14 : fAL M_H_tellFigure 14 0 15 := Or.inl ⟨0, by decide +kernel, rfl, rfl⟩
theorem fH_tellFigure_15 : fD M_H_tellFigure 15 (.getfield 15) 3 18 := ⟨by decide +kernel, rfl⟩
theorem fH_tellFigure_18 : fIL M_H_tellFigure 18 1 19 := Or.inl ⟨1, by decide +kernel, rfl, rfl⟩
theorem fH_tellFigure_19 : fIL M_H_tellFigure 19 3 20 := Or.inl ⟨3, by decide +kernel, rfl, rfl⟩
theorem fH_tellFigure_20 : fD M_H_tellFigure 20 .iastore 1 21 := ⟨by decide +kernel, rfl⟩
theorem fH_tellFigure_21 : fAL M_H_tellFigure 21 0 22 := Or.inl ⟨0, by decide +kernel, rfl, rfl⟩
theorem fH_tellFigure_22 : fD M_H_tellFigure 22 (.getfield 42) 3 25 := ⟨by decide +kernel, rfl⟩
theorem fH_tellFigure_25 : fIC M_H_tellFigure 25 0 26 := Or.inl ⟨0, by decide +kernel, by decide, rfl⟩
theorem fH_tellFigure_26 : fD M_H_tellFigure 26 (.putfield 63) 3 29 := ⟨by decide +kernel, rfl⟩
theorem fH_tellFigure_29 : fD M_H_tellFigure 29 .return_ 1 30 := ⟨by decide +kernel, rfl⟩
theorem fH_tellBill_0 : fAL M_H_tellBill 0 0 1 := Or.inl ⟨0, by decide +kernel, rfl, rfl⟩
theorem fH_tellBill_1 : fD M_H_tellBill 1 (.getfield 28) 3 4 := ⟨by decide +kernel, rfl⟩
theorem fH_tellBill_4 : fIL M_H_tellBill 4 1 5 := Or.inl ⟨1, by decide +kernel, rfl, rfl⟩
theorem fH_tellBill_5 : fIL M_H_tellBill 5 2 6 := Or.inl ⟨2, by decide +kernel, rfl, rfl⟩
theorem fH_tellBill_6 : fD M_H_tellBill 6 (.invokevirtual 90) 3 9 := ⟨by decide +kernel, rfl⟩
theorem fH_tellBill_9 : fAL M_H_tellBill 9 0 10 := Or.inl ⟨0, by decide +kernel, rfl, rfl⟩
theorem fH_tellBill_10 : fD M_H_tellBill 10 (.getfield 42) 3 13 := ⟨by decide +kernel, rfl⟩
theorem fH_tellBill_13 : fIC M_H_tellBill 13 0 14 := Or.inl ⟨0, by decide +kernel, by decide, rfl⟩
theorem fH_tellBill_14 : fD M_H_tellBill 14 (.putfield 63) 3 17 := ⟨by decide +kernel, rfl⟩
theorem fH_tellBill_17 : fD M_H_tellBill 17 .return_ 1 18 := ⟨by decide +kernel, rfl⟩
theorem fH_remember_0 : fAL M_H_remember 0 0 1 := Or.inl ⟨0, by decide +kernel, rfl, rfl⟩
theorem fH_remember_1 : fD M_H_remember 1 (.getfield 42) 3 4 := ⟨by decide +kernel, rfl⟩
theorem fH_remember_4 : fAL M_H_remember 4 0 5 := Or.inl ⟨0, by decide +kernel, rfl, rfl⟩
theorem fH_remember_5 : fD M_H_remember 5 (.getfield 21) 3 8 := ⟨by decide +kernel, rfl⟩
theorem fH_remember_8 : fAL M_H_remember 8 0 9 := Or.inl ⟨0, by decide +kernel, rfl, rfl⟩
theorem fH_remember_9 : fD M_H_remember 9 (.getfield 28) 3 12 := ⟨by decide +kernel, rfl⟩
theorem fH_remember_12 : fD M_H_remember 12 (.invokevirtual 94) 3 15 := ⟨by decide +kernel, rfl⟩
theorem fH_remember_15 : fD M_H_remember 15 .return_ 1 16 := ⟨by decide +kernel, rfl⟩
theorem fH_goBack_0 : fAL M_H_goBack 0 0 1 := Or.inl ⟨0, by decide +kernel, rfl, rfl⟩
theorem fH_goBack_1 : fD M_H_goBack 1 (.getfield 42) 3 4 := ⟨by decide +kernel, rfl⟩
theorem fH_goBack_4 : fAL M_H_goBack 4 0 5 := Or.inl ⟨0, by decide +kernel, rfl, rfl⟩
theorem fH_goBack_5 : fD M_H_goBack 5 (.getfield 21) 3 8 := ⟨by decide +kernel, rfl⟩
theorem fH_goBack_8 : fAL M_H_goBack 8 0 9 := Or.inl ⟨0, by decide +kernel, rfl, rfl⟩
theorem fH_goBack_9 : fD M_H_goBack 9 (.getfield 28) 3 12 := ⟨by decide +kernel, rfl⟩
theorem fH_goBack_12 : fD M_H_goBack 12 (.invokevirtual 98) 3 15 := ⟨by decide +kernel, rfl⟩
theorem fH_goBack_15 : fD M_H_goBack 15 .return_ 1 16 := ⟨by decide +kernel, rfl⟩
theorem fH_sleep_0 : fIC M_H_sleep 0 0 1 := Or.inl ⟨0, by decide +kernel, by decide, rfl⟩
theorem fH_sleep_1 : fIS M_H_sleep 1 2 2 := Or.inl ⟨2, by decide +kernel, rfl, rfl⟩
theorem fH_sleep_2 : fIL M_H_sleep 2 2 3 := Or.inl ⟨2, by decide +kernel, rfl, rfl⟩
theorem fH_sleep_3 : fIL M_H_sleep 3 1 4 := Or.inl ⟨1, by decide +kernel, rfl, rfl⟩
theorem fH_sleep_4 : fB M_H_sleep 4 (.if_icmp .ge 37) 37 7 41 := ⟨by decide +kernel, rfl, by decide⟩
theorem fH_sleep_7 : fAL M_H_sleep 7 0 8 := Or.inl ⟨0, by decide +kernel, rfl, rfl⟩
theorem fH_sleep_8 : fAL M_H_sleep 8 0 9 := Or.inl ⟨0, by decide +kernel, rfl, rfl⟩
theorem fH_sleep_9 : fD M_H_sleep 9 (.getfield 21) 3 12 := ⟨by decide +kernel, rfl⟩
theorem fH_sleep_12 : fD M_H_sleep 12 (.invokevirtual 101) 3 15 := ⟨by decide +kernel, rfl⟩
theorem fH_sleep_15 : fAL M_H_sleep 15 0 16 := Or.inl ⟨0, by decide +kernel, rfl, rfl⟩
theorem fH_sleep_16 : fD M_H_sleep 16 (.getfield 21) 3 19 := ⟨by decide +kernel, rfl⟩
theorem fH_sleep_19 : fAL M_H_sleep 19 0 20 := Or.inl ⟨0, by decide +kernel, rfl, rfl⟩
theorem fH_sleep_20 : fD M_H_sleep 20 (.getfield 21) 3 23 := ⟨by decide +kernel, rfl⟩
theorem fH_sleep_23 : fD M_H_sleep 23 (.getfield 104) 3 26 := ⟨by decide +kernel, rfl⟩
theorem fH_sleep_26 : fIC M_H_sleep 26 9999 29 := Or.inr (Or.inr (Or.inl ⟨9999, by decide +kernel, by decide, rfl⟩))
theorem fH_sleep_29 : fD M_H_sleep 29 (.invokestatic 107) 3 32 := ⟨by decide +kernel, rfl⟩
theorem fH_sleep_32 : fD M_H_sleep 32 (.putfield 104) 3 35 := ⟨by decide +kernel, rfl⟩
theorem fH_sleep_35 : fD M_H_sleep 35 (.iinc 2 1) 3 38 := ⟨by decide +kernel, rfl⟩
theorem fH_sleep_38 : fB M_H_sleep 38 (.goto (-36)) (-36) 41 2 := ⟨by decide +kernel, rfl, by decide⟩
theorem fH_sleep_41 : fD M_H_sleep 41 .return_ 1 42 := ⟨by decide +kernel, rfl⟩
theorem fH_rests_0 : fIC M_H_rests 0 0 1 := Or.inl ⟨0, by decide +kernel, by decide, rfl⟩
theorem fH_rests_1 : fIS M_H_rests 1 2 2 := Or.inl ⟨2, by decide +kernel, rfl, rfl⟩
theorem fH_rests_2 : fIL M_H_rests 2 2 3 := Or.inl ⟨2, by decide +kernel, rfl, rfl⟩
theorem fH_rests_3 : fIC M_H_rests 3 10 5 := Or.inr (Or.inl ⟨10, by decide +kernel, by decide, rfl⟩)
theorem fH_rests_5 : fB M_H_rests 5 (.if_icmp .ge 41) 41 8 46 := ⟨by decide +kernel, rfl, by decide⟩
theorem fH_rests_8 : fAL M_H_rests 8 1 9 := Or.inl ⟨1, by decide +kernel, rfl, rfl⟩
theorem fH_rests_9 : fD M_H_rests 9 (.getfield 113) 3 12 := ⟨by decide +kernel, rfl⟩
theorem fH_rests_12 : fIL M_H_rests 12 2 13 := Or.inl ⟨2, by decide +kernel, rfl, rfl⟩
theorem fH_rests_13 : fIC M_H_rests 13 0 14 := Or.inl ⟨0, by decide +kernel, by decide, rfl⟩
theorem fH_rests_14 : fAL M_H_rests 14 1 15 := Or.inl ⟨1, by decide +kernel, rfl, rfl⟩
theorem fH_rests_15 : fD M_H_rests 15 (.getfield 113) 3 18 := ⟨by decide +kernel, rfl⟩
theorem fH_rests_18 : fIL M_H_rests 18 2 19 := Or.inl ⟨2, by decide +kernel, rfl, rfl⟩
theorem fH_rests_19 : fD M_H_rests 19 .iaload 1 20 := ⟨by decide +kernel, rfl⟩
theorem fH_rests_20 : fAL M_H_rests 20 0 21 := Or.inl ⟨0, by decide +kernel, rfl, rfl⟩
theorem fH_rests_21 : fD M_H_rests 21 (.getfield 9) 3 24 := ⟨by decide +kernel, rfl⟩
theorem fH_rests_24 : fIL M_H_rests 24 2 25 := Or.inl ⟨2, by decide +kernel, rfl, rfl⟩
theorem fH_rests_25 : fD M_H_rests 25 .iaload 1 26 := ⟨by decide +kernel, rfl⟩
theorem fH_rests_26 : fAL M_H_rests 26 1 27 := Or.inl ⟨1, by decide +kernel, rfl, rfl⟩
theorem fH_rests_27 : fD M_H_rests 27 (.getfield 113) 3 30 := ⟨by decide +kernel, rfl⟩
theorem fH_rests_30 : fIL M_H_rests 30 2 31 := Or.inl ⟨2, by decide +kernel, rfl, rfl⟩
theorem fH_rests_31 : fD M_H_rests 31 .iaload 1 32 := ⟨by decide +kernel, rfl⟩
theorem fH_rests_32 : fD M_H_rests 32 (.invokestatic 116) 3 35 := ⟨by decide +kernel, rfl⟩
theorem fH_rests_35 : fD M_H_rests 35 .isub 1 36 := ⟨by decide +kernel, rfl⟩
theorem fH_rests_36 : fD M_H_rests 36 (.invokestatic 121) 3 39 := ⟨by decide +kernel, rfl⟩
theorem fH_rests_39 : fD M_H_rests 39 .iastore 1 40 := ⟨by decide +kernel, rfl⟩
theorem fH_rests_40 : fD M_H_rests 40 (.iinc 2 1) 3 43 := ⟨by decide +kernel, rfl⟩
theorem fH_rests_43 : fB M_H_rests 43 (.goto (-41)) (-41) 46 2 := ⟨by decide +kernel, rfl, by decide⟩
theorem fH_rests_46 : fAL M_H_rests 46 1 47 := Or.inl ⟨1, by decide +kernel, rfl, rfl⟩
theorem fH_rests_47 : fD M_H_rests 47 .dup 1 48 := ⟨by decide +kernel, rfl⟩
theorem fH_rests_48 : fD M_H_rests 48 (.getfield 104) 3 51 := ⟨by decide +kernel, rfl⟩
theorem fH_rests_51 : fIC M_H_rests 51 1 52 := Or.inl ⟨1, by decide +kernel, by decide, rfl⟩
theorem fH_rests_52 : fD M_H_rests 52 .iadd 1 53 := ⟨by decide +kernel, rfl⟩
theorem fH_rests_53 : fD M_H_rests 53 (.putfield 104) 3 56 := ⟨by decide +kernel, rfl⟩
theorem fH_rests_56 : fD M_H_rests 56 .return_ 1 57 := ⟨by decide +kernel, rfl⟩
theorem fH_costOf_0 : fIC M_H_costOf 0 0 1 := Or.inl ⟨0, by decide +kernel, by decide, rfl⟩
theorem fH_costOf_1 : fIS M_H_costOf 1 2 2 := Or.inl ⟨2, by decide +kernel, rfl, rfl⟩
theorem fH_costOf_2 : fIC M_H_costOf 2 0 3 := Or.inl ⟨0, by decide +kernel, by decide, rfl⟩
theorem fH_costOf_3 : fIS M_H_costOf 3 3 4 := Or.inl ⟨3, by decide +kernel, rfl, rfl⟩
theorem fH_costOf_4 : fIL M_H_costOf 4 3 5 := Or.inl ⟨3, by decide +kernel, rfl, rfl⟩
theorem fH_costOf_5 : fAL M_H_costOf 5 1 6 := Or.inl ⟨1, by decide +kernel, rfl, rfl⟩
theorem fH_costOf_6 : fD M_H_costOf 6 (.getfield 124) 3 9 := ⟨by decide +kernel, rfl⟩
theorem fH_costOf_9 : fB M_H_costOf 9 (.if_icmp .ge 34) 34 12 43 := ⟨by decide +kernel, rfl, by decide⟩
theorem fH_costOf_12 : fIL M_H_costOf 12 2 13 := Or.inl ⟨2, by decide +kernel, rfl, rfl⟩
theorem fH_costOf_13 : fAL M_H_costOf 13 0 14 := Or.inl ⟨0, by decide +kernel, rfl, rfl⟩
theorem fH_costOf_14 : fD M_H_costOf 14 (.getfield 9) 3 17 := ⟨by decide +kernel, rfl⟩
theorem fH_costOf_17 : fAL M_H_costOf 17 1 18 := Or.inl ⟨1, by decide +kernel, rfl, rfl⟩
theorem fH_costOf_18 : fD M_H_costOf 18 (.getfield 127) 3 21 := ⟨by decide +kernel, rfl⟩
theorem fH_costOf_21 : fIL M_H_costOf 21 3 22 := Or.inl ⟨3, by decide +kernel, rfl, rfl⟩
theorem fH_costOf_22 : fD M_H_costOf 22 .iaload 1 23 := ⟨by decide +kernel, rfl⟩
theorem fH_costOf_23 : fD M_H_costOf 23 .iaload 1 24 := ⟨by decide +kernel, rfl⟩
theorem fH_costOf_24 : fIL M_H_costOf 24 3 25 := Or.inl ⟨3, by decide +kernel, rfl, rfl⟩
theorem fH_costOf_25 : fAL M_H_costOf 25 0 26 := Or.inl ⟨0, by decide +kernel, rfl, rfl⟩
theorem fH_costOf_26 : fD M_H_costOf 26 (.getfield 21) 3 29 := ⟨by decide +kernel, rfl⟩
theorem fH_costOf_29 : fD M_H_costOf 29 (.getfield 104) 3 32 := ⟨by decide +kernel, rfl⟩
theorem fH_costOf_32 : fD M_H_costOf 32 (.invokestatic 130) 3 35 := ⟨by decide +kernel, rfl⟩
theorem fH_costOf_35 : fD M_H_costOf 35 .iadd 1 36 := ⟨by decide +kernel, rfl⟩
theorem fH_costOf_36 : fIS M_H_costOf 36 2 37 := Or.inl ⟨2, by decide +kernel, rfl, rfl⟩
theorem fH_costOf_37 : fD M_H_costOf 37 (.iinc 3 1) 3 40 := ⟨by decide +kernel, rfl⟩
theorem fH_costOf_40 : fB M_H_costOf 40 (.goto (-36)) (-36) 43 4 := ⟨by decide +kernel, rfl, by decide⟩
theorem fH_costOf_43 : fIL M_H_costOf 43 2 44 := Or.inl ⟨2, by decide +kernel, rfl, rfl⟩
theorem fH_costOf_44 : fD M_H_costOf 44 .ireturn 1 45 := ⟨by decide +kernel, rfl⟩
theorem fH_puts_0 : fAL M_H_puts 0 0 1 := Or.inl ⟨0, by decide +kernel, rfl, rfl⟩
theorem fH_puts_1 : fAL M_H_puts 1 1 2 := Or.inl ⟨1, by decide +kernel, rfl, rfl⟩
theorem fH_puts_2 : fAL M_H_puts 2 2 3 := Or.inl ⟨2, by decide +kernel, rfl, rfl⟩
theorem fH_puts_3 : fIC M_H_puts 3 1 4 := Or.inl ⟨1, by decide +kernel, by decide, rfl⟩
theorem fH_puts_4 : fD M_H_puts 4 (.invokevirtual 134) 3 7 := ⟨by decide +kernel, rfl⟩
theorem fH_puts_7 : fAL M_H_puts 7 0 8 := Or.inl ⟨0, by decide +kernel, rfl, rfl⟩
theorem fH_puts_8 : fAL M_H_puts 8 1 9 := Or.inl ⟨1, by decide +kernel, rfl, rfl⟩
theorem fH_puts_9 : fAL M_H_puts 9 2 10 := Or.inl ⟨2, by decide +kernel, rfl, rfl⟩
theorem fH_puts_10 : fD M_H_puts 10 (.invokevirtual 138) 3 13 := ⟨by decide +kernel, rfl⟩
theorem fH_puts_13 : fB M_H_puts 13 (.ifCond .eq 5) 5 16 18 := ⟨by decide +kernel, rfl, by decide⟩
theorem fH_puts_16 : fIC M_H_puts 16 1 17 := Or.inl ⟨1, by decide +kernel, by decide, rfl⟩
theorem fH_puts_17 : fD M_H_puts 17 .ireturn 1 18 := ⟨by decide +kernel, rfl⟩
theorem fH_puts_18 : fAL M_H_puts 18 0 19 := Or.inl ⟨0, by decide +kernel, rfl, rfl⟩
theorem fH_puts_19 : fAL M_H_puts 19 1 20 := Or.inl ⟨1, by decide +kernel, rfl, rfl⟩
theorem fH_puts_20 : fAL M_H_puts 20 2 21 := Or.inl ⟨2, by decide +kernel, rfl, rfl⟩
theorem fH_puts_21 : fIC M_H_puts 21 (-1) 22 := Or.inl ⟨(-1), by decide +kernel, by decide, rfl⟩
theorem fH_puts_22 : fD M_H_puts 22 (.invokevirtual 134) 3 25 := ⟨by decide +kernel, rfl⟩
theorem fH_puts_25 : fIC M_H_puts 25 0 26 := Or.inl ⟨0, by decide +kernel, by decide, rfl⟩
theorem fH_puts_26 : fD M_H_puts 26 .ireturn 1 27 := ⟨by decide +kernel, rfl⟩
theorem fH_takes_0 : fAL M_H_takes 0 0 1 := Or.inl ⟨0, by decide +kernel, rfl, rfl⟩
theorem fH_takes_1 : fAL M_H_takes 1 1 2 := Or.inl ⟨1, by decide +kernel, rfl, rfl⟩
theorem fH_takes_2 : fAL M_H_takes 2 2 3 := Or.inl ⟨2, by decide +kernel, rfl, rfl⟩
theorem fH_takes_3 : fIC M_H_takes 3 1 4 := Or.inl ⟨1, by decide +kernel, by decide, rfl⟩
theorem fH_takes_4 : fD M_H_takes 4 (.invokevirtual 134) 3 7 := ⟨by decide +kernel, rfl⟩
theorem fH_takes_7 : fAL M_H_takes 7 0 8 := Or.inl ⟨0, by decide +kernel, rfl, rfl⟩
theorem fH_takes_8 : fAL M_H_takes 8 1 9 := Or.inl ⟨1, by decide +kernel, rfl, rfl⟩
theorem fH_takes_9 : fAL M_H_takes 9 2 10 := Or.inl ⟨2, by decide +kernel, rfl, rfl⟩
theorem fH_takes_10 : fD M_H_takes 10 (.invokevirtual 138) 3 13 := ⟨by decide +kernel, rfl⟩
theorem fH_takes_13 : fIS M_H_takes 13 3 14 := Or.inl ⟨3, by decide +kernel, rfl, rfl⟩
theorem fH_takes_14 : fAL M_H_takes 14 0 15 := Or.inl ⟨0, by decide +kernel, rfl, rfl⟩
theorem fH_takes_15 : fAL M_H_takes 15 1 16 := Or.inl ⟨1, by decide +kernel, rfl, rfl⟩
theorem fH_takes_16 : fAL M_H_takes 16 2 17 := Or.inl ⟨2, by decide +kernel, rfl, rfl⟩
theorem fH_takes_17 : fIC M_H_takes 17 (-1) 18 := Or.inl ⟨(-1), by decide +kernel, by decide, rfl⟩
theorem fH_takes_18 : fD M_H_takes 18 (.invokevirtual 134) 3 21 := ⟨by decide +kernel, rfl⟩
theorem fH_takes_21 : fIL M_H_takes 21 3 22 := Or.inl ⟨3, by decide +kernel, rfl, rfl⟩
theorem fH_takes_22 : fD M_H_takes 22 .ireturn 1 23 := ⟨by decide +kernel, rfl⟩
theorem fH_wearBy_0 : fIC M_H_wearBy 0 0 1 := Or.inl ⟨0, by decide +kernel, by decide, rfl⟩
theorem fH_wearBy_1 : fIS M_H_wearBy 1 4 3 := Or.inr ⟨by decide +kernel, rfl⟩
theorem fH_wearBy_3 : fIL M_H_wearBy 3 4 5 := Or.inr ⟨by decide +kernel, rfl⟩
theorem fH_wearBy_5 : fAL M_H_wearBy 5 2 6 := Or.inl ⟨2, by decide +kernel, rfl, rfl⟩
theorem fH_wearBy_6 : fD M_H_wearBy 6 (.getfield 124) 3 9 := ⟨by decide +kernel, rfl⟩
theorem fH_wearBy_9 : fB M_H_wearBy 9 (.if_icmp .ge 46) 46 12 55 := ⟨by decide +kernel, rfl, by decide⟩
theorem fH_wearBy_12 : fAL M_H_wearBy 12 2 13 := Or.inl ⟨2, by decide +kernel, rfl, rfl⟩
theorem fH_wearBy_13 : fD M_H_wearBy 13 (.getfield 127) 3 16 := ⟨by decide +kernel, rfl⟩
theorem fH_wearBy_16 : fIL M_H_wearBy 16 4 18 := Or.inr ⟨by decide +kernel, rfl⟩
theorem fH_wearBy_18 : fD M_H_wearBy 18 .iaload 1 19 := ⟨by decide +kernel, rfl⟩
theorem fH_wearBy_19 : fIS M_H_wearBy 19 5 21 := Or.inr ⟨by decide +kernel, rfl⟩
theorem fH_wearBy_21 : fAL M_H_wearBy 21 1 22 := Or.inl ⟨1, by decide +kernel, rfl, rfl⟩
theorem fH_wearBy_22 : fD M_H_wearBy 22 (.getfield 113) 3 25 := ⟨by decide +kernel, rfl⟩
theorem fH_wearBy_25 : fIL M_H_wearBy 25 5 27 := Or.inr ⟨by decide +kernel, rfl⟩
theorem fH_wearBy_27 : fD M_H_wearBy 27 .dup2 1 28 := ⟨by decide +kernel, rfl⟩
theorem fH_wearBy_28 : fD M_H_wearBy 28 .iaload 1 29 := ⟨by decide +kernel, rfl⟩
theorem fH_wearBy_29 : fIL M_H_wearBy 29 3 30 := Or.inl ⟨3, by decide +kernel, rfl, rfl⟩
theorem fH_wearBy_30 : fAL M_H_wearBy 30 0 31 := Or.inl ⟨0, by decide +kernel, rfl, rfl⟩
theorem fH_wearBy_31 : fD M_H_wearBy 31 (.getfield 9) 3 34 := ⟨by decide +kernel, rfl⟩
theorem fH_wearBy_34 : fIL M_H_wearBy 34 5 36 := Or.inr ⟨by decide +kernel, rfl⟩
theorem fH_wearBy_36 : fD M_H_wearBy 36 .iaload 1 37 := ⟨by decide +kernel, rfl⟩
theorem fH_wearBy_37 : fIL M_H_wearBy 37 4 39 := Or.inr ⟨by decide +kernel, rfl⟩
theorem fH_wearBy_39 : fAL M_H_wearBy 39 1 40 := Or.inl ⟨1, by decide +kernel, rfl, rfl⟩
theorem fH_wearBy_40 : fD M_H_wearBy 40 (.getfield 104) 3 43 := ⟨by decide +kernel, rfl⟩
theorem fH_wearBy_43 : fD M_H_wearBy 43 (.invokestatic 130) 3 46 := ⟨by decide +kernel, rfl⟩
theorem fH_wearBy_46 : fD M_H_wearBy 46 .imul 1 47 := ⟨by decide +kernel, rfl⟩
theorem fH_wearBy_47 : fD M_H_wearBy 47 .iadd 1 48 := ⟨by decide +kernel, rfl⟩
theorem fH_wearBy_48 : fD M_H_wearBy 48 .iastore 1 49 := ⟨by decide +kernel, rfl⟩
theorem fH_wearBy_49 : fD M_H_wearBy 49 (.iinc 4 1) 3 52 := ⟨by decide +kernel, rfl⟩
theorem fH_wearBy_52 : fB M_H_wearBy 52 (.goto (-49)) (-49) 55 3 := ⟨by decide +kernel, rfl, by decide⟩
theorem fH_wearBy_55 : fD M_H_wearBy 55 .return_ 1 56 := ⟨by decide +kernel, rfl⟩
theorem fH_bears_0 : fIC M_H_bears 0 0 1 := Or.inl ⟨0, by decide +kernel, by decide, rfl⟩
theorem fH_bears_1 : fIS M_H_bears 1 3 2 := Or.inl ⟨3, by decide +kernel, rfl, rfl⟩
theorem fH_bears_2 : fIL M_H_bears 2 3 3 := Or.inl ⟨3, by decide +kernel, rfl, rfl⟩
theorem fH_bears_3 : fAL M_H_bears 3 2 4 := Or.inl ⟨2, by decide +kernel, rfl, rfl⟩
theorem fH_bears_4 : fD M_H_bears 4 (.getfield 124) 3 7 := ⟨by decide +kernel, rfl⟩
theorem fH_bears_7 : fB M_H_bears 7 (.if_icmp .ge 36) 36 10 43 := ⟨by decide +kernel, rfl, by decide⟩
theorem fH_bears_10 : fAL M_H_bears 10 2 11 := Or.inl ⟨2, by decide +kernel, rfl, rfl⟩
theorem fH_bears_11 : fD M_H_bears 11 (.getfield 127) 3 14 := ⟨by decide +kernel, rfl⟩
theorem fH_bears_14 : fIL M_H_bears 14 3 15 := Or.inl ⟨3, by decide +kernel, rfl, rfl⟩
theorem fH_bears_15 : fD M_H_bears 15 .iaload 1 16 := ⟨by decide +kernel, rfl⟩
theorem fH_bears_16 : fIS M_H_bears 16 4 18 := Or.inr ⟨by decide +kernel, rfl⟩
theorem fH_bears_18 : fAL M_H_bears 18 1 19 := Or.inl ⟨1, by decide +kernel, rfl, rfl⟩
theorem fH_bears_19 : fD M_H_bears 19 (.getfield 113) 3 22 := ⟨by decide +kernel, rfl⟩
theorem fH_bears_22 : fIL M_H_bears 22 4 24 := Or.inr ⟨by decide +kernel, rfl⟩
theorem fH_bears_24 : fD M_H_bears 24 .iaload 1 25 := ⟨by decide +kernel, rfl⟩
theorem fH_bears_25 : fAL M_H_bears 25 0 26 := Or.inl ⟨0, by decide +kernel, rfl, rfl⟩
theorem fH_bears_26 : fD M_H_bears 26 (.getfield 15) 3 29 := ⟨by decide +kernel, rfl⟩
theorem fH_bears_29 : fIL M_H_bears 29 4 31 := Or.inr ⟨by decide +kernel, rfl⟩
theorem fH_bears_31 : fD M_H_bears 31 .iaload 1 32 := ⟨by decide +kernel, rfl⟩
theorem fH_bears_32 : fB M_H_bears 32 (.if_icmp .le 5) 5 35 37 := ⟨by decide +kernel, rfl, by decide⟩
theorem fH_bears_35 : fIC M_H_bears 35 0 36 := Or.inl ⟨0, by decide +kernel, by decide, rfl⟩
theorem fH_bears_36 : fD M_H_bears 36 .ireturn 1 37 := ⟨by decide +kernel, rfl⟩
theorem fH_bears_37 : fD M_H_bears 37 (.iinc 3 1) 3 40 := ⟨by decide +kernel, rfl⟩
theorem fH_bears_40 : fB M_H_bears 40 (.goto (-38)) (-38) 43 2 := ⟨by decide +kernel, rfl, by decide⟩
theorem fH_bears_43 : fIC M_H_bears 43 1 44 := Or.inl ⟨1, by decide +kernel, by decide, rfl⟩
theorem fH_bears_44 : fD M_H_bears 44 .ireturn 1 45 := ⟨by decide +kernel, rfl⟩
theorem fH_leftOf_0 : fAL M_H_leftOf 0 0 1 := Or.inl ⟨0, by decide +kernel, rfl, rfl⟩
theorem fH_leftOf_1 : fD M_H_leftOf 1 (.getfield 15) 3 4 := ⟨by decide +kernel, rfl⟩
theorem fH_leftOf_4 : fIL M_H_leftOf 4 1 5 := Or.inl ⟨1, by decide +kernel, rfl, rfl⟩
theorem fH_leftOf_5 : fD M_H_leftOf 5 .iaload 1 6 := ⟨by decide +kernel, rfl⟩
theorem fH_leftOf_6 : fAL M_H_leftOf 6 0 7 := Or.inl ⟨0, by decide +kernel, rfl, rfl⟩
theorem fH_leftOf_7 : fD M_H_leftOf 7 (.getfield 21) 3 10 := ⟨by decide +kernel, rfl⟩
theorem fH_leftOf_10 : fD M_H_leftOf 10 (.getfield 113) 3 13 := ⟨by decide +kernel, rfl⟩
theorem fH_leftOf_13 : fIL M_H_leftOf 13 1 14 := Or.inl ⟨1, by decide +kernel, rfl, rfl⟩
theorem fH_leftOf_14 : fD M_H_leftOf 14 .iaload 1 15 := ⟨by decide +kernel, rfl⟩
theorem fH_leftOf_15 : fD M_H_leftOf 15 .isub 1 16 := ⟨by decide +kernel, rfl⟩
theorem fH_leftOf_16 : fIS M_H_leftOf 16 2 17 := Or.inl ⟨2, by decide +kernel, rfl, rfl⟩
theorem fH_leftOf_17 : fIL M_H_leftOf 17 2 18 := Or.inl ⟨2, by decide +kernel, rfl, rfl⟩
theorem fH_leftOf_18 : fB M_H_leftOf 18 (.ifCond .ge 5) 5 21 23 := ⟨by decide +kernel, rfl, by decide⟩
theorem fH_leftOf_21 : fIC M_H_leftOf 21 0 22 := Or.inl ⟨0, by decide +kernel, by decide, rfl⟩
theorem fH_leftOf_22 : fD M_H_leftOf 22 .ireturn 1 23 := ⟨by decide +kernel, rfl⟩
theorem fH_leftOf_23 : fAL M_H_leftOf 23 0 24 := Or.inl ⟨0, by decide +kernel, rfl, rfl⟩
theorem fH_leftOf_24 : fD M_H_leftOf 24 (.getfield 9) 3 27 := ⟨by decide +kernel, rfl⟩
theorem fH_leftOf_27 : fIL M_H_leftOf 27 1 28 := Or.inl ⟨1, by decide +kernel, rfl, rfl⟩
theorem fH_leftOf_28 : fD M_H_leftOf 28 .iaload 1 29 := ⟨by decide +kernel, rfl⟩
theorem fH_leftOf_29 : fIC M_H_leftOf 29 0 30 := Or.inl ⟨0, by decide +kernel, by decide, rfl⟩
theorem fH_leftOf_30 : fAL M_H_leftOf 30 0 31 := Or.inl ⟨0, by decide +kernel, rfl, rfl⟩
theorem fH_leftOf_31 : fD M_H_leftOf 31 (.getfield 21) 3 34 := ⟨by decide +kernel, rfl⟩
theorem fH_leftOf_34 : fD M_H_leftOf 34 (.getfield 104) 3 37 := ⟨by decide +kernel, rfl⟩
theorem fH_leftOf_37 : fD M_H_leftOf 37 (.invokestatic 130) 3 40 := ⟨by decide +kernel, rfl⟩
theorem fH_leftOf_40 : fIS M_H_leftOf 40 3 41 := Or.inl ⟨3, by decide +kernel, rfl, rfl⟩
theorem fH_leftOf_41 : fIL M_H_leftOf 41 3 42 := Or.inl ⟨3, by decide +kernel, rfl, rfl⟩
theorem fH_leftOf_42 : fB M_H_leftOf 42 (.ifCond .gt 8) 8 45 50 := ⟨by decide +kernel, rfl, by decide⟩
theorem fH_leftOf_45 : fIC M_H_leftOf 45 99 47 := Or.inr (Or.inl ⟨99, by decide +kernel, by decide, rfl⟩)
theorem fH_leftOf_47 : fB M_H_leftOf 47 (.goto 11) 11 50 58 := ⟨by decide +kernel, rfl, by decide⟩
theorem fH_leftOf_50 : fIC M_H_leftOf 50 99 52 := Or.inr (Or.inl ⟨99, by decide +kernel, by decide, rfl⟩)
theorem fH_leftOf_52 : fIL M_H_leftOf 52 2 53 := Or.inl ⟨2, by decide +kernel, rfl, rfl⟩
theorem fH_leftOf_53 : fIL M_H_leftOf 53 3 54 := Or.inl ⟨3, by decide +kernel, rfl, rfl⟩
theorem fH_leftOf_54 : fD M_H_leftOf 54 .idiv 1 55 := ⟨by decide +kernel, rfl⟩
theorem fH_leftOf_55 : fD M_H_leftOf 55 (.invokestatic 107) 3 58 := ⟨by decide +kernel, rfl⟩
theorem fH_leftOf_58 : fD M_H_leftOf 58 .ireturn 1 59 := ⟨by decide +kernel, rfl⟩
theorem fH_mixInto_0 : fLL M_H_mixInto 0 1 1 := Or.inl ⟨1, by decide +kernel, rfl, rfl⟩
theorem fH_mixInto_1 : fLS M_H_mixInto 1 3 2 := Or.inl ⟨3, by decide +kernel, rfl, rfl⟩
theorem fH_mixInto_2 : fIC M_H_mixInto 2 0 3 := Or.inl ⟨0, by decide +kernel, by decide, rfl⟩
theorem fH_mixInto_3 : fIS M_H_mixInto 3 5 5 := Or.inr ⟨by decide +kernel, rfl⟩
theorem fH_mixInto_5 : fIL M_H_mixInto 5 5 7 := Or.inr ⟨by decide +kernel, rfl⟩
theorem fH_mixInto_7 : fIC M_H_mixInto 7 10 9 := Or.inr (Or.inl ⟨10, by decide +kernel, by decide, rfl⟩)
theorem fH_mixInto_9 : fB M_H_mixInto 9 (.if_icmp .ge 57) 57 12 66 := ⟨by decide +kernel, rfl, by decide⟩
theorem fH_mixInto_12 : fLC M_H_mixInto 12 31 15 := Or.inr ⟨142, by decide +kernel, o_H_142, rfl⟩
theorem fH_mixInto_15 : fLL M_H_mixInto 15 3 16 := Or.inl ⟨3, by decide +kernel, rfl, rfl⟩
theorem fH_mixInto_16 : fD M_H_mixInto 16 .lmul 1 17 := ⟨by decide +kernel, rfl⟩
theorem fH_mixInto_17 : fAL M_H_mixInto 17 0 18 := Or.inl ⟨0, by decide +kernel, rfl, rfl⟩
theorem fH_mixInto_18 : fD M_H_mixInto 18 (.getfield 9) 3 21 := ⟨by decide +kernel, rfl⟩
theorem fH_mixInto_21 : fIL M_H_mixInto 21 5 23 := Or.inr ⟨by decide +kernel, rfl⟩
theorem fH_mixInto_23 : fD M_H_mixInto 23 .iaload 1 24 := ⟨by decide +kernel, rfl⟩
theorem fH_mixInto_24 : fD M_H_mixInto 24 .i2l 1 25 := ⟨by decide +kernel, rfl⟩
theorem fH_mixInto_25 : fD M_H_mixInto 25 .ladd 1 26 := ⟨by decide +kernel, rfl⟩
theorem fH_mixInto_26 : fLS M_H_mixInto 26 3 27 := Or.inl ⟨3, by decide +kernel, rfl, rfl⟩
theorem fH_mixInto_27 : fLC M_H_mixInto 27 31 30 := Or.inr ⟨142, by decide +kernel, o_H_142, rfl⟩
theorem fH_mixInto_30 : fLL M_H_mixInto 30 3 31 := Or.inl ⟨3, by decide +kernel, rfl, rfl⟩
theorem fH_mixInto_31 : fD M_H_mixInto 31 .lmul 1 32 := ⟨by decide +kernel, rfl⟩
theorem fH_mixInto_32 : fAL M_H_mixInto 32 0 33 := Or.inl ⟨0, by decide +kernel, rfl, rfl⟩
theorem fH_mixInto_33 : fD M_H_mixInto 33 (.getfield 15) 3 36 := ⟨by decide +kernel, rfl⟩
theorem fH_mixInto_36 : fIL M_H_mixInto 36 5 38 := Or.inr ⟨by decide +kernel, rfl⟩
theorem fH_mixInto_38 : fD M_H_mixInto 38 .iaload 1 39 := ⟨by decide +kernel, rfl⟩
theorem fH_mixInto_39 : fD M_H_mixInto 39 .i2l 1 40 := ⟨by decide +kernel, rfl⟩
theorem fH_mixInto_40 : fD M_H_mixInto 40 .ladd 1 41 := ⟨by decide +kernel, rfl⟩
theorem fH_mixInto_41 : fLS M_H_mixInto 41 3 42 := Or.inl ⟨3, by decide +kernel, rfl, rfl⟩
theorem fH_mixInto_42 : fLC M_H_mixInto 42 31 45 := Or.inr ⟨142, by decide +kernel, o_H_142, rfl⟩
theorem fH_mixInto_45 : fLL M_H_mixInto 45 3 46 := Or.inl ⟨3, by decide +kernel, rfl, rfl⟩
theorem fH_mixInto_46 : fD M_H_mixInto 46 .lmul 1 47 := ⟨by decide +kernel, rfl⟩
theorem fH_mixInto_47 : fAL M_H_mixInto 47 0 48 := Or.inl ⟨0, by decide +kernel, rfl, rfl⟩
theorem fH_mixInto_48 : fD M_H_mixInto 48 (.getfield 21) 3 51 := ⟨by decide +kernel, rfl⟩
theorem fH_mixInto_51 : fD M_H_mixInto 51 (.getfield 113) 3 54 := ⟨by decide +kernel, rfl⟩
theorem fH_mixInto_54 : fIL M_H_mixInto 54 5 56 := Or.inr ⟨by decide +kernel, rfl⟩
theorem fH_mixInto_56 : fD M_H_mixInto 56 .iaload 1 57 := ⟨by decide +kernel, rfl⟩
theorem fH_mixInto_57 : fD M_H_mixInto 57 .i2l 1 58 := ⟨by decide +kernel, rfl⟩
theorem fH_mixInto_58 : fD M_H_mixInto 58 .ladd 1 59 := ⟨by decide +kernel, rfl⟩
theorem fH_mixInto_59 : fLS M_H_mixInto 59 3 60 := Or.inl ⟨3, by decide +kernel, rfl, rfl⟩
theorem fH_mixInto_60 : fD M_H_mixInto 60 (.iinc 5 1) 3 63 := ⟨by decide +kernel, rfl⟩
theorem fH_mixInto_63 : fB M_H_mixInto 63 (.goto (-58)) (-58) 66 5 := ⟨by decide +kernel, rfl, by decide⟩
theorem fH_mixInto_66 : fIC M_H_mixInto 66 0 67 := Or.inl ⟨0, by decide +kernel, by decide, rfl⟩
theorem fH_mixInto_67 : fIS M_H_mixInto 67 5 69 := Or.inr ⟨by decide +kernel, rfl⟩
theorem fH_mixInto_69 : fIL M_H_mixInto 69 5 71 := Or.inr ⟨by decide +kernel, rfl⟩
theorem fH_mixInto_71 : fAL M_H_mixInto 71 0 72 := Or.inl ⟨0, by decide +kernel, rfl, rfl⟩
theorem fH_mixInto_72 : fD M_H_mixInto 72 (.getfield 28) 3 75 := ⟨by decide +kernel, rfl⟩
theorem fH_mixInto_75 : fD M_H_mixInto 75 (.getfield 144) 3 78 := ⟨by decide +kernel, rfl⟩
theorem fH_mixInto_78 : fB M_H_mixInto 78 (.if_icmp .ge 52) 52 81 130 := ⟨by decide +kernel, rfl, by decide⟩
theorem fH_mixInto_81 : fIL M_H_mixInto 81 5 83 := Or.inr ⟨by decide +kernel, rfl⟩
theorem fH_mixInto_83 : fIC M_H_mixInto 83 6 85 := Or.inr (Or.inl ⟨6, by decide +kernel, by decide, rfl⟩)
theorem fH_mixInto_85 : fB M_H_mixInto 85 (.if_icmp .ge 45) 45 88 130 := ⟨by decide +kernel, rfl, by decide⟩
theorem fH_mixInto_88 : fLC M_H_mixInto 88 31 91 := Or.inr ⟨142, by decide +kernel, o_H_142, rfl⟩
theorem fH_mixInto_91 : fLL M_H_mixInto 91 3 92 := Or.inl ⟨3, by decide +kernel, rfl, rfl⟩
theorem fH_mixInto_92 : fD M_H_mixInto 92 .lmul 1 93 := ⟨by decide +kernel, rfl⟩
theorem fH_mixInto_93 : fAL M_H_mixInto 93 0 94 := Or.inl ⟨0, by decide +kernel, rfl, rfl⟩
theorem fH_mixInto_94 : fD M_H_mixInto 94 (.getfield 28) 3 97 := ⟨by decide +kernel, rfl⟩
theorem fH_mixInto_97 : fD M_H_mixInto 97 (.getfield 145) 3 100 := ⟨by decide +kernel, rfl⟩
theorem fH_mixInto_100 : fIL M_H_mixInto 100 5 102 := Or.inr ⟨by decide +kernel, rfl⟩
theorem fH_mixInto_102 : fD M_H_mixInto 102 .iaload 1 103 := ⟨by decide +kernel, rfl⟩
theorem fH_mixInto_103 : fD M_H_mixInto 103 .i2l 1 104 := ⟨by decide +kernel, rfl⟩
theorem fH_mixInto_104 : fD M_H_mixInto 104 .ladd 1 105 := ⟨by decide +kernel, rfl⟩
theorem fH_mixInto_105 : fLS M_H_mixInto 105 3 106 := Or.inl ⟨3, by decide +kernel, rfl, rfl⟩
theorem fH_mixInto_106 : fLC M_H_mixInto 106 31 109 := Or.inr ⟨142, by decide +kernel, o_H_142, rfl⟩
theorem fH_mixInto_109 : fLL M_H_mixInto 109 3 110 := Or.inl ⟨3, by decide +kernel, rfl, rfl⟩
theorem fH_mixInto_110 : fD M_H_mixInto 110 .lmul 1 111 := ⟨by decide +kernel, rfl⟩
theorem fH_mixInto_111 : fAL M_H_mixInto 111 0 112 := Or.inl ⟨0, by decide +kernel, rfl, rfl⟩
theorem fH_mixInto_112 : fD M_H_mixInto 112 (.getfield 28) 3 115 := ⟨by decide +kernel, rfl⟩
theorem fH_mixInto_115 : fD M_H_mixInto 115 (.getfield 148) 3 118 := ⟨by decide +kernel, rfl⟩
theorem fH_mixInto_118 : fIL M_H_mixInto 118 5 120 := Or.inr ⟨by decide +kernel, rfl⟩
theorem fH_mixInto_120 : fD M_H_mixInto 120 .iaload 1 121 := ⟨by decide +kernel, rfl⟩
theorem fH_mixInto_121 : fD M_H_mixInto 121 .i2l 1 122 := ⟨by decide +kernel, rfl⟩
theorem fH_mixInto_122 : fD M_H_mixInto 122 .ladd 1 123 := ⟨by decide +kernel, rfl⟩
theorem fH_mixInto_123 : fLS M_H_mixInto 123 3 124 := Or.inl ⟨3, by decide +kernel, rfl, rfl⟩
theorem fH_mixInto_124 : fD M_H_mixInto 124 (.iinc 5 1) 3 127 := ⟨by decide +kernel, rfl⟩
theorem fH_mixInto_127 : fB M_H_mixInto 127 (.goto (-58)) (-58) 130 69 := ⟨by decide +kernel, rfl, by decide⟩
theorem fH_mixInto_130 : fAL M_H_mixInto 130 0 131 := Or.inl ⟨0, by decide +kernel, rfl, rfl⟩
theorem fH_mixInto_131 : fD M_H_mixInto 131 (.getfield 35) 3 134 := ⟨by decide +kernel, rfl⟩
theorem fH_mixInto_134 : fLL M_H_mixInto 134 3 135 := Or.inl ⟨3, by decide +kernel, rfl, rfl⟩
theorem fH_mixInto_135 : fD M_H_mixInto 135 (.invokevirtual 151) 3 138 := ⟨by decide +kernel, rfl⟩
theorem fH_mixInto_138 : fD M_H_mixInto 138 .lreturn 1 139 := ⟨by decide +kernel, rfl⟩
theorem fI_wear_0 : fIL M_I_wear 0 0 1 := Or.inl ⟨0, by decide +kernel, rfl, rfl⟩
theorem fI_wear_1 : fD M_I_wear 1 (.tableswitch 83 1 5 #[35, 39, 41, 56, 70]) 35 36 := ⟨by decide +kernel, rfl⟩
theorem fI_wear_36 : fIC M_I_wear 36 2 37 := Or.inl ⟨2, by decide +kernel, by decide, rfl⟩
theorem fI_wear_37 : fIL M_I_wear 37 1 38 := Or.inl ⟨1, by decide +kernel, rfl, rfl⟩
theorem fI_wear_38 : fD M_I_wear 38 .iadd 1 39 := ⟨by decide +kernel, rfl⟩
theorem fI_wear_39 : fD M_I_wear 39 .ireturn 1 40 := ⟨by decide +kernel, rfl⟩
theorem fI_wear_40 : fIC M_I_wear 40 4 41 := Or.inl ⟨4, by decide +kernel, by decide, rfl⟩
theorem fI_wear_41 : fD M_I_wear 41 .ireturn 1 42 := ⟨by decide +kernel, rfl⟩
theorem fI_wear_42 : fIL M_I_wear 42 2 43 := Or.inl ⟨2, by decide +kernel, rfl, rfl⟩
theorem fI_wear_43 : fIC M_I_wear 43 7 45 := Or.inr (Or.inl ⟨7, by decide +kernel, by decide, rfl⟩)
theorem fI_wear_45 : fD M_I_wear 45 .irem 1 46 := ⟨by decide +kernel, rfl⟩
theorem fI_wear_46 : fIC M_I_wear 46 6 48 := Or.inr (Or.inl ⟨6, by decide +kernel, by decide, rfl⟩)
theorem fI_wear_48 : fB M_I_wear 48 (.if_icmp .ne 7) 7 51 55 := ⟨by decide +kernel, rfl, by decide⟩
theorem fI_wear_51 : fIC M_I_wear 51 0 52 := Or.inl ⟨0, by decide +kernel, by decide, rfl⟩
theorem fI_wear_52 : fB M_I_wear 52 (.goto 4) 4 55 56 := ⟨by decide +kernel, rfl, by decide⟩
theorem fI_wear_55 : fIC M_I_wear 55 2 56 := Or.inl ⟨2, by decide +kernel, by decide, rfl⟩
theorem fI_wear_56 : fD M_I_wear 56 .ireturn 1 57 := ⟨by decide +kernel, rfl⟩
theorem fI_wear_57 : fIL M_I_wear 57 1 58 := Or.inl ⟨1, by decide +kernel, rfl, rfl⟩
theorem fI_wear_58 : fB M_I_wear 58 (.ifCond .ne 7) 7 61 65 := ⟨by decide +kernel, rfl, by decide⟩
theorem fI_wear_61 : fIC M_I_wear 61 0 62 := Or.inl ⟨0, by decide +kernel, by decide, rfl⟩
theorem fI_wear_62 : fB M_I_wear 62 (.goto 8) 8 65 70 := ⟨by decide +kernel, rfl, by decide⟩
theorem fI_wear_65 : fIC M_I_wear 65 2 66 := Or.inl ⟨2, by decide +kernel, by decide, rfl⟩
theorem fI_wear_66 : fIL M_I_wear 66 1 67 := Or.inl ⟨1, by decide +kernel, rfl, rfl⟩
theorem fI_wear_67 : fD M_I_wear 67 .iadd 1 68 := ⟨by decide +kernel, rfl⟩
theorem fI_wear_68 : fIC M_I_wear 68 1 69 := Or.inl ⟨1, by decide +kernel, by decide, rfl⟩
theorem fI_wear_69 : fD M_I_wear 69 .iadd 1 70 := ⟨by decide +kernel, rfl⟩
theorem fI_wear_70 : fD M_I_wear 70 .ireturn 1 71 := ⟨by decide +kernel, rfl⟩
theorem fI_wear_71 : fIL M_I_wear 71 2 72 := Or.inl ⟨2, by decide +kernel, rfl, rfl⟩
theorem fI_wear_72 : fIC M_I_wear 72 2 73 := Or.inl ⟨2, by decide +kernel, by decide, rfl⟩
theorem fI_wear_73 : fD M_I_wear 73 .irem 1 74 := ⟨by decide +kernel, rfl⟩
theorem fI_wear_74 : fIC M_I_wear 74 1 75 := Or.inl ⟨1, by decide +kernel, by decide, rfl⟩
theorem fI_wear_75 : fB M_I_wear 75 (.if_icmp .ne 7) 7 78 82 := ⟨by decide +kernel, rfl, by decide⟩
theorem fI_wear_78 : fIC M_I_wear 78 5 79 := Or.inl ⟨5, by decide +kernel, by decide, rfl⟩
theorem fI_wear_79 : fB M_I_wear 79 (.goto 4) 4 82 83 := ⟨by decide +kernel, rfl, by decide⟩
theorem fI_wear_82 : fIC M_I_wear 82 4 83 := Or.inl ⟨4, by decide +kernel, by decide, rfl⟩
theorem fI_wear_83 : fD M_I_wear 83 .ireturn 1 84 := ⟨by decide +kernel, rfl⟩
theorem fI_wear_84 : fIC M_I_wear 84 2 85 := Or.inl ⟨2, by decide +kernel, by decide, rfl⟩
theorem fI_wear_85 : fD M_I_wear 85 .ireturn 1 86 := ⟨by decide +kernel, rfl⟩
theorem fI_rest_0 : fIL M_I_rest 0 0 1 := Or.inl ⟨0, by decide +kernel, rfl, rfl⟩
theorem fI_rest_1 : fD M_I_rest 1 (.tableswitch 45 2 5 #[31, 34, 45, 36]) 31 32 := ⟨by decide +kernel, rfl⟩
theorem fI_rest_32 : fIC M_I_rest 32 6 34 := Or.inr (Or.inl ⟨6, by decide +kernel, by decide, rfl⟩)
theorem fI_rest_34 : fD M_I_rest 34 .ireturn 1 35 := ⟨by decide +kernel, rfl⟩
theorem fI_rest_35 : fIC M_I_rest 35 2 36 := Or.inl ⟨2, by decide +kernel, by decide, rfl⟩
theorem fI_rest_36 : fD M_I_rest 36 .ireturn 1 37 := ⟨by decide +kernel, rfl⟩
theorem fI_rest_37 : fIL M_I_rest 37 1 38 := Or.inl ⟨1, by decide +kernel, rfl, rfl⟩
theorem fI_rest_38 : fIC M_I_rest 38 2 39 := Or.inl ⟨2, by decide +kernel, by decide, rfl⟩
theorem fI_rest_39 : fD M_I_rest 39 .idiv 1 40 := ⟨by decide +kernel, rfl⟩
theorem fI_rest_40 : fIC M_I_rest 40 6 42 := Or.inr (Or.inl ⟨6, by decide +kernel, by decide, rfl⟩)
theorem fI_rest_42 : fD M_I_rest 42 (.invokestatic 9) 3 45 := ⟨by decide +kernel, rfl⟩
theorem fI_rest_45 : fD M_I_rest 45 .ireturn 1 46 := ⟨by decide +kernel, rfl⟩
theorem fI_rest_46 : fIC M_I_rest 46 3 47 := Or.inl ⟨3, by decide +kernel, by decide, rfl⟩
theorem fI_rest_47 : fD M_I_rest 47 .ireturn 1 48 := ⟨by decide +kernel, rfl⟩
theorem fL_init_0 : fAL M_L_init 0 0 1 := Or.inl ⟨0, by decide +kernel, rfl, rfl⟩
theorem fL_init_1 : fD M_L_init 1 (.invokespecial 3) 3 4 := ⟨by decide +kernel, rfl⟩
theorem fL_init_4 : fAL M_L_init 4 0 5 := Or.inl ⟨0, by decide +kernel, rfl, rfl⟩
theorem fL_init_5 : fIC M_L_init 5 4 6 := Or.inl ⟨4, by decide +kernel, by decide, rfl⟩
theorem fL_init_6 : fD M_L_init 6 (.newarray .int) 2 8 := ⟨by decide +kernel, rfl⟩
theorem fL_init_8 : fD M_L_init 8 (.putfield 9) 3 11 := ⟨by decide +kernel, rfl⟩
theorem fL_init_11 : fAL M_L_init 11 0 12 := Or.inl ⟨0, by decide +kernel, rfl, rfl⟩
theorem fL_init_12 : fIC M_L_init 12 0 13 := Or.inl ⟨0, by decide +kernel, by decide, rfl⟩
theorem fL_init_13 : fD M_L_init 13 (.putfield 15) 3 16 := ⟨by decide +kernel, rfl⟩
theorem fL_init_16 : fD M_L_init 16 .return_ 1 17 := ⟨by decide +kernel, rfl⟩
theorem fL_tell_0 : fAL M_L_tell 0 0 1 := Or.inl ⟨0, by decide +kernel, rfl, rfl⟩
theorem fL_tell_1 : fIC M_L_tell 1 0 2 := Or.inl ⟨0, by decide +kernel, by decide, rfl⟩
theorem fL_tell_2 : fD M_L_tell 2 (.putfield 15) 3 5 := ⟨by decide +kernel, rfl⟩
theorem fL_tell_5 : fAL M_L_tell 5 0 6 := Or.inl ⟨0, by decide +kernel, rfl, rfl⟩
theorem fL_tell_6 : fIL M_L_tell 6 2 7 := Or.inl ⟨2, by decide +kernel, rfl, rfl⟩
theorem fL_tell_7 : fD M_L_tell 7 (.invokevirtual 19) 3 10 := ⟨by decide +kernel, rfl⟩
theorem fL_tell_10 : fIL M_L_tell 10 2 11 := Or.inl ⟨2, by decide +kernel, rfl, rfl⟩
theorem fL_tell_11 : fIL M_L_tell 11 1 12 := Or.inl ⟨1, by decide +kernel, rfl, rfl⟩
theorem fL_tell_12 : fB M_L_tell 12 (.if_icmp .eq 13) 13 15 25 := ⟨by decide +kernel, rfl, by decide⟩
theorem fL_tell_15 : fAL M_L_tell 15 0 16 := Or.inl ⟨0, by decide +kernel, rfl, rfl⟩
theorem fL_tell_16 : fIL M_L_tell 16 1 17 := Or.inl ⟨1, by decide +kernel, rfl, rfl⟩
theorem fL_tell_17 : fIL M_L_tell 17 2 18 := Or.inl ⟨2, by decide +kernel, rfl, rfl⟩
theorem fL_tell_18 : fD M_L_tell 18 .isub 1 19 := ⟨by decide +kernel, rfl⟩
theorem fL_tell_19 : fD M_L_tell 19 (.invokestatic 23) 3 22 := ⟨by decide +kernel, rfl⟩
theorem fL_tell_22 : fD M_L_tell 22 (.invokevirtual 19) 3 25 := ⟨by decide +kernel, rfl⟩
theorem fL_tell_25 : fD M_L_tell 25 .return_ 1 26 := ⟨by decide +kernel, rfl⟩
theorem fL_addNumber_0 : fIL M_L_addNumber 0 1 1 := Or.inl ⟨1, by decide +kernel, rfl, rfl⟩
theorem fL_addNumber_1 : fB M_L_addNumber 1 (.ifCond .lt 17) 17 4 18 := ⟨by decide +kernel, rfl, by decide⟩
theorem fL_addNumber_4 : fIL M_L_addNumber 4 1 5 := Or.inl ⟨1, by decide +kernel, rfl, rfl⟩
theorem fL_addNumber_5 : fIC M_L_addNumber 5 100 7 := Or.inr (Or.inl ⟨100, by decide +kernel, by decide, rfl⟩)
theorem fL_addNumber_7 : fB M_L_addNumber 7 (.if_icmp .ge 11) 11 10 18 := ⟨by decide +kernel, rfl, by decide⟩
theorem fL_addNumber_10 : fAL M_L_addNumber 10 0 11 := Or.inl ⟨0, by decide +kernel, rfl, rfl⟩
theorem fL_addNumber_11 : fD M_L_addNumber 11 (.getfield 15) 3 14 := ⟨by decide +kernel, rfl⟩
theorem fL_addNumber_14 : fIC M_L_addNumber 14 2 15 := Or.inl ⟨2, by decide +kernel, by decide, rfl⟩
theorem fL_addNumber_15 : fB M_L_addNumber 15 (.if_icmp .le 4) 4 18 19 := ⟨by decide +kernel, rfl, by decide⟩
theorem fL_addNumber_18 : fD M_L_addNumber 18 .return_ 1 19 := ⟨by decide +kernel, rfl⟩
theorem fL_addNumber_19 : fIL M_L_addNumber 19 1 20 := Or.inl ⟨1, by decide +kernel, rfl, rfl⟩
theorem fL_addNumber_20 : fIC M_L_addNumber 20 9 22 := Or.inr (Or.inl ⟨9, by decide +kernel, by decide, rfl⟩)
theorem fL_addNumber_22 : fB M_L_addNumber 22 (.if_icmp .le 26) 26 25 48 := ⟨by decide +kernel, rfl, by decide⟩
theorem fL_addNumber_25 : fAL M_L_addNumber 25 0 26 := Or.inl ⟨0, by decide +kernel, rfl, rfl⟩
theorem fL_addNumber_26 : fD M_L_addNumber 26 (.getfield 9) 3 29 := ⟨by decide +kernel, rfl⟩
theorem fL_addNumber_29 : fAL M_L_addNumber 29 0 30 := Or.inl ⟨0, by decide +kernel, rfl, rfl⟩
theorem fL_addNumber_30 : fD M_L_addNumber 30 (.getfield 15) 3 33 := ⟨by decide +kernel, rfl⟩
theorem fL_addNumber_33 : fIL M_L_addNumber 33 1 34 := Or.inl ⟨1, by decide +kernel, rfl, rfl⟩
theorem fL_addNumber_34 : fIC M_L_addNumber 34 10 36 := Or.inr (Or.inl ⟨10, by decide +kernel, by decide, rfl⟩)
theorem fL_addNumber_36 : fD M_L_addNumber 36 .idiv 1 37 := ⟨by decide +kernel, rfl⟩
theorem fL_addNumber_37 : fD M_L_addNumber 37 .iastore 1 38 := ⟨by decide +kernel, rfl⟩
theorem fL_addNumber_38 : fAL M_L_addNumber 38 0 39 := Or.inl ⟨0, by decide +kernel, rfl, rfl⟩
theorem fL_addNumber_39 : fD M_L_addNumber 39 .dup 1 40 := ⟨by decide +kernel, rfl⟩
theorem fL_addNumber_40 : fD M_L_addNumber 40 (.getfield 15) 3 43 := ⟨by decide +kernel, rfl⟩
theorem fL_addNumber_43 : fIC M_L_addNumber 43 1 44 := Or.inl ⟨1, by decide +kernel, by decide, rfl⟩
theorem fL_addNumber_44 : fD M_L_addNumber 44 .iadd 1 45 := ⟨by decide +kernel, rfl⟩
theorem fL_addNumber_45 : fD M_L_addNumber 45 (.putfield 15) 3 48 := ⟨by decide +kernel, rfl⟩
theorem fL_addNumber_48 : fAL M_L_addNumber 48 0 49 := Or.inl ⟨0, by decide +kernel, rfl, rfl⟩
theorem fL_addNumber_49 : fD M_L_addNumber 49 (.getfield 9) 3 52 := ⟨by decide +kernel, rfl⟩
theorem fL_addNumber_52 : fAL M_L_addNumber 52 0 53 := Or.inl ⟨0, by decide +kernel, rfl, rfl⟩
theorem fL_addNumber_53 : fD M_L_addNumber 53 (.getfield 15) 3 56 := ⟨by decide +kernel, rfl⟩
theorem fL_addNumber_56 : fIL M_L_addNumber 56 1 57 := Or.inl ⟨1, by decide +kernel, rfl, rfl⟩
theorem fL_addNumber_57 : fIC M_L_addNumber 57 10 59 := Or.inr (Or.inl ⟨10, by decide +kernel, by decide, rfl⟩)
theorem fL_addNumber_59 : fD M_L_addNumber 59 .irem 1 60 := ⟨by decide +kernel, rfl⟩
theorem fL_addNumber_60 : fD M_L_addNumber 60 .iastore 1 61 := ⟨by decide +kernel, rfl⟩
theorem fL_addNumber_61 : fAL M_L_addNumber 61 0 62 := Or.inl ⟨0, by decide +kernel, rfl, rfl⟩
theorem fL_addNumber_62 : fD M_L_addNumber 62 .dup 1 63 := ⟨by decide +kernel, rfl⟩
theorem fL_addNumber_63 : fD M_L_addNumber 63 (.getfield 15) 3 66 := ⟨by decide +kernel, rfl⟩
theorem fL_addNumber_66 : fIC M_L_addNumber 66 1 67 := Or.inl ⟨1, by decide +kernel, by decide, rfl⟩
theorem fL_addNumber_67 : fD M_L_addNumber 67 .iadd 1 68 := ⟨by decide +kernel, rfl⟩
theorem fL_addNumber_68 : fD M_L_addNumber 68 (.putfield 15) 3 71 := ⟨by decide +kernel, rfl⟩
theorem fL_addNumber_71 : fD M_L_addNumber 71 .return_ 1 72 := ⟨by decide +kernel, rfl⟩
theorem fP_init_0 : fAL M_P_init 0 0 1 := Or.inl ⟨0, by decide +kernel, rfl, rfl⟩
theorem fP_init_1 : fD M_P_init 1 (.invokespecial 3) 3 4 := ⟨by decide +kernel, rfl⟩
theorem fP_init_4 : fAL M_P_init 4 0 5 := Or.inl ⟨0, by decide +kernel, rfl, rfl⟩
theorem fP_init_5 : fIC M_P_init 5 104 7 := Or.inr (Or.inl ⟨104, by decide +kernel, by decide, rfl⟩)
theorem fP_init_7 : fD M_P_init 7 (.newarray .int) 2 9 := ⟨by decide +kernel, rfl⟩
theorem fP_init_9 : fD M_P_init 9 (.putfield 11) 3 12 := ⟨by decide +kernel, rfl⟩
theorem fP_init_12 : fAL M_P_init 12 0 13 := Or.inl ⟨0, by decide +kernel, rfl, rfl⟩
theorem fP_init_13 : fIC M_P_init 13 0 14 := Or.inl ⟨0, by decide +kernel, by decide, rfl⟩
theorem fP_init_14 : fD M_P_init 14 (.putfield 15) 3 17 := ⟨by decide +kernel, rfl⟩
theorem fP_init_17 : fD M_P_init 17 .return_ 1 18 := ⟨by decide +kernel, rfl⟩
theorem fP_become_0 : fAL M_P_become 0 1 1 := Or.inl ⟨1, by decide +kernel, rfl, rfl⟩
theorem fP_become_1 : fD M_P_become 1 (.getfield 11) 3 4 := ⟨by decide +kernel, rfl⟩
theorem fP_become_4 : fIC M_P_become 4 0 5 := Or.inl ⟨0, by decide +kernel, by decide, rfl⟩
theorem fP_become_5 : fAL M_P_become 5 0 6 := Or.inl ⟨0, by decide +kernel, rfl, rfl⟩
theorem fP_become_6 : fD M_P_become 6 (.getfield 11) 3 9 := ⟨by decide +kernel, rfl⟩
theorem fP_become_9 : fIC M_P_become 9 0 10 := Or.inl ⟨0, by decide +kernel, by decide, rfl⟩
theorem fP_become_10 : fIC M_P_become 10 104 12 := Or.inr (Or.inl ⟨104, by decide +kernel, by decide, rfl⟩)
theorem fP_become_12 : fD M_P_become 12 (.invokestatic 19) 3 15 := ⟨by decide +kernel, rfl⟩
theorem fP_become_15 : fAL M_P_become 15 0 16 := Or.inl ⟨0, by decide +kernel, rfl, rfl⟩
theorem fP_become_16 : fAL M_P_become 16 1 17 := Or.inl ⟨1, by decide +kernel, rfl, rfl⟩
theorem fP_become_17 : fD M_P_become 17 (.getfield 15) 3 20 := ⟨by decide +kernel, rfl⟩
theorem fP_become_20 : fD M_P_become 20 (.putfield 15) 3 23 := ⟨by decide +kernel, rfl⟩
theorem fP_become_23 : fD M_P_become 23 .return_ 1 24 := ⟨by decide +kernel, rfl⟩
theorem fP_push_0 : fAL M_P_push 0 0 1 := Or.inl ⟨0, by decide +kernel, rfl, rfl⟩
theorem fP_push_1 : fD M_P_push 1 (.getfield 15) 3 4 := ⟨by decide +kernel, rfl⟩
theorem fP_push_4 : fIC M_P_push 4 8 6 := Or.inr (Or.inl ⟨8, by decide +kernel, by decide, rfl⟩)
theorem fP_push_6 : fB M_P_push 6 (.if_icmp .lt 25) 25 9 31 := ⟨by decide +kernel, rfl, by decide⟩
theorem fP_push_9 : fAL M_P_push 9 0 10 := Or.inl ⟨0, by decide +kernel, rfl, rfl⟩
theorem fP_push_10 : fD M_P_push 10 (.getfield 11) 3 13 := ⟨by decide +kernel, rfl⟩
theorem fP_push_13 : fIC M_P_push 13 13 15 := Or.inr (Or.inl ⟨13, by decide +kernel, by decide, rfl⟩)
theorem fP_push_15 : fAL M_P_push 15 0 16 := Or.inl ⟨0, by decide +kernel, rfl, rfl⟩
theorem fP_push_16 : fD M_P_push 16 (.getfield 11) 3 19 := ⟨by decide +kernel, rfl⟩
theorem fP_push_19 : fIC M_P_push 19 0 20 := Or.inl ⟨0, by decide +kernel, by decide, rfl⟩
theorem fP_push_20 : fIC M_P_push 20 91 22 := Or.inr (Or.inl ⟨91, by decide +kernel, by decide, rfl⟩)
theorem fP_push_22 : fD M_P_push 22 (.invokestatic 19) 3 25 := ⟨by decide +kernel, rfl⟩
theorem fP_push_25 : fAL M_P_push 25 0 26 := Or.inl ⟨0, by decide +kernel, rfl, rfl⟩
theorem fP_push_26 : fIC M_P_push 26 7 28 := Or.inr (Or.inl ⟨7, by decide +kernel, by decide, rfl⟩)
theorem fP_push_28 : fD M_P_push 28 (.putfield 15) 3 31 := ⟨by decide +kernel, rfl⟩
theorem fP_push_31 : fAL M_P_push 31 0 32 := Or.inl ⟨0, by decide +kernel, rfl, rfl⟩
theorem fP_push_32 : fD M_P_push 32 (.getfield 15) 3 35 := ⟨by decide +kernel, rfl⟩
theorem fP_push_35 : fIC M_P_push 35 13 37 := Or.inr (Or.inl ⟨13, by decide +kernel, by decide, rfl⟩)
theorem fP_push_37 : fD M_P_push 37 .imul 1 38 := ⟨by decide +kernel, rfl⟩
theorem fP_push_38 : fIS M_P_push 38 3 39 := Or.inl ⟨3, by decide +kernel, rfl, rfl⟩
theorem fP_push_39 : fAL M_P_push 39 1 40 := Or.inl ⟨1, by decide +kernel, rfl, rfl⟩
theorem fP_push_40 : fD M_P_push 40 (.getfield 25) 3 43 := ⟨by decide +kernel, rfl⟩
theorem fP_push_43 : fIC M_P_push 43 0 44 := Or.inl ⟨0, by decide +kernel, by decide, rfl⟩
theorem fP_push_44 : fAL M_P_push 44 0 45 := Or.inl ⟨0, by decide +kernel, rfl, rfl⟩
theorem fP_push_45 : fD M_P_push 45 (.getfield 11) 3 48 := ⟨by decide +kernel, rfl⟩
theorem fP_push_48 : fIL M_P_push 48 3 49 := Or.inl ⟨3, by decide +kernel, rfl, rfl⟩
theorem fP_push_49 : fIC M_P_push 49 10 51 := Or.inr (Or.inl ⟨10, by decide +kernel, by decide, rfl⟩)
theorem fP_push_51 : fD M_P_push 51 (.invokestatic 19) 3 54 := ⟨by decide +kernel, rfl⟩
theorem fP_push_54 : fAL M_P_push 54 0 55 := Or.inl ⟨0, by decide +kernel, rfl, rfl⟩
theorem fP_push_55 : fD M_P_push 55 (.getfield 11) 3 58 := ⟨by decide +kernel, rfl⟩
theorem fP_push_58 : fIL M_P_push 58 3 59 := Or.inl ⟨3, by decide +kernel, rfl, rfl⟩
theorem fP_push_59 : fIC M_P_push 59 10 61 := Or.inr (Or.inl ⟨10, by decide +kernel, by decide, rfl⟩)
theorem fP_push_61 : fD M_P_push 61 .iadd 1 62 := ⟨by decide +kernel, rfl⟩
theorem fP_push_62 : fAL M_P_push 62 1 63 := Or.inl ⟨1, by decide +kernel, rfl, rfl⟩
theorem fP_push_63 : fD M_P_push 63 (.getfield 30) 3 66 := ⟨by decide +kernel, rfl⟩
theorem fP_push_66 : fD M_P_push 66 .iastore 1 67 := ⟨by decide +kernel, rfl⟩
theorem fP_push_67 : fAL M_P_push 67 0 68 := Or.inl ⟨0, by decide +kernel, rfl, rfl⟩
theorem fP_push_68 : fD M_P_push 68 (.getfield 11) 3 71 := ⟨by decide +kernel, rfl⟩
theorem fP_push_71 : fIL M_P_push 71 3 72 := Or.inl ⟨3, by decide +kernel, rfl, rfl⟩
theorem fP_push_72 : fIC M_P_push 72 11 74 := Or.inr (Or.inl ⟨11, by decide +kernel, by decide, rfl⟩)
theorem fP_push_74 : fD M_P_push 74 .iadd 1 75 := ⟨by decide +kernel, rfl⟩
theorem fP_push_75 : fAL M_P_push 75 2 76 := Or.inl ⟨2, by decide +kernel, rfl, rfl⟩
theorem fP_push_76 : fD M_P_push 76 (.getfield 33) 3 79 := ⟨by decide +kernel, rfl⟩
theorem fP_push_79 : fD M_P_push 79 .iastore 1 80 := ⟨by decide +kernel, rfl⟩
theorem fP_push_80 : fAL M_P_push 80 0 81 := Or.inl ⟨0, by decide +kernel, rfl, rfl⟩
theorem fP_push_81 : fD M_P_push 81 (.getfield 11) 3 84 := ⟨by decide +kernel, rfl⟩
theorem fP_push_84 : fIL M_P_push 84 3 85 := Or.inl ⟨3, by decide +kernel, rfl, rfl⟩
theorem fP_push_85 : fIC M_P_push 85 12 87 := Or.inr (Or.inl ⟨12, by decide +kernel, by decide, rfl⟩)
theorem fP_push_87 : fD M_P_push 87 .iadd 1 88 := ⟨by decide +kernel, rfl⟩
theorem fP_push_88 : fAL M_P_push 88 2 89 := Or.inl ⟨2, by decide +kernel, rfl, rfl⟩
theorem fP_push_89 : fD M_P_push 89 (.getfield 38) 3 92 := ⟨by decide +kernel, rfl⟩
theorem fP_push_92 : fD M_P_push 92 .iastore 1 93 := ⟨by decide +kernel, rfl⟩
theorem fP_push_93 : fAL M_P_push 93 0 94 := Or.inl ⟨0, by decide +kernel, rfl, rfl⟩
theorem fP_push_94 : fD M_P_push 94 .dup 1 95 := ⟨by decide +kernel, rfl⟩
theorem fP_push_95 : fD M_P_push 95 (.getfield 15) 3 98 := ⟨by decide +kernel, rfl⟩
theorem fP_push_98 : fIC M_P_push 98 1 99 := Or.inl ⟨1, by decide +kernel, by decide, rfl⟩
theorem fP_push_99 : fD M_P_push 99 .iadd 1 100 := ⟨by decide +kernel, rfl⟩
theorem fP_push_100 : fD M_P_push 100 (.putfield 15) 3 103 := ⟨by decide +kernel, rfl⟩
theorem fP_push_103 : fD M_P_push 103 .return_ 1 104 := ⟨by decide +kernel, rfl⟩
theorem fP_pop_0 : fAL M_P_pop 0 0 1 := Or.inl ⟨0, by decide +kernel, rfl, rfl⟩
theorem fP_pop_1 : fD M_P_pop 1 (.getfield 15) 3 4 := ⟨by decide +kernel, rfl⟩
theorem fP_pop_4 : fB M_P_pop 4 (.ifCond .le 84) 84 7 88 := ⟨by decide +kernel, rfl, by decide⟩
theorem fP_pop_7 : fAL M_P_pop 7 0 8 := Or.inl ⟨0, by decide +kernel, rfl, rfl⟩
theorem fP_pop_8 : fD M_P_pop 8 (.getfield 15) 3 11 := ⟨by decide +kernel, rfl⟩
theorem fP_pop_11 : fIC M_P_pop 11 8 13 := Or.inr (Or.inl ⟨8, by decide +kernel, by decide, rfl⟩)
theorem fP_pop_13 : fB M_P_pop 13 (.if_icmp .gt 75) 75 16 88 := ⟨by decide +kernel, rfl, by decide⟩
theorem fP_pop_16 : fAL M_P_pop 16 0 17 := Or.inl ⟨0, by decide +kernel, rfl, rfl⟩
theorem fP_pop_17 : fD M_P_pop 17 .dup 1 18 := ⟨by decide +kernel, rfl⟩
theorem fP_pop_18 : fD M_P_pop 18 (.getfield 15) 3 21 := ⟨by decide +kernel, rfl⟩
theorem fP_pop_21 : fIC M_P_pop 21 1 22 := Or.inl ⟨1, by decide +kernel, by decide, rfl⟩
theorem fP_pop_22 : fD M_P_pop 22 .isub 1 23 := ⟨by decide +kernel, rfl⟩
theorem fP_pop_23 : fD M_P_pop 23 (.putfield 15) 3 26 := ⟨by decide +kernel, rfl⟩
theorem fP_pop_26 : fAL M_P_pop 26 0 27 := Or.inl ⟨0, by decide +kernel, rfl, rfl⟩
theorem fP_pop_27 : fD M_P_pop 27 (.getfield 15) 3 30 := ⟨by decide +kernel, rfl⟩
theorem fP_pop_30 : fIC M_P_pop 30 13 32 := Or.inr (Or.inl ⟨13, by decide +kernel, by decide, rfl⟩)
theorem fP_pop_32 : fD M_P_pop 32 .imul 1 33 := ⟨by decide +kernel, rfl⟩
theorem fP_pop_33 : fIS M_P_pop 33 3 34 := Or.inl ⟨3, by decide +kernel, rfl, rfl⟩
theorem fP_pop_34 : fAL M_P_pop 34 0 35 := Or.inl ⟨0, by decide +kernel, rfl, rfl⟩
theorem fP_pop_35 : fD M_P_pop 35 (.getfield 11) 3 38 := ⟨by decide +kernel, rfl⟩
theorem fP_pop_38 : fIL M_P_pop 38 3 39 := Or.inl ⟨3, by decide +kernel, rfl, rfl⟩
theorem fP_pop_39 : fAL M_P_pop 39 1 40 := Or.inl ⟨1, by decide +kernel, rfl, rfl⟩
theorem fP_pop_40 : fD M_P_pop 40 (.getfield 25) 3 43 := ⟨by decide +kernel, rfl⟩
theorem fP_pop_43 : fIC M_P_pop 43 0 44 := Or.inl ⟨0, by decide +kernel, by decide, rfl⟩
theorem fP_pop_44 : fIC M_P_pop 44 10 46 := Or.inr (Or.inl ⟨10, by decide +kernel, by decide, rfl⟩)
theorem fP_pop_46 : fD M_P_pop 46 (.invokestatic 19) 3 49 := ⟨by decide +kernel, rfl⟩
theorem fP_pop_49 : fAL M_P_pop 49 1 50 := Or.inl ⟨1, by decide +kernel, rfl, rfl⟩
theorem fP_pop_50 : fAL M_P_pop 50 0 51 := Or.inl ⟨0, by decide +kernel, rfl, rfl⟩
theorem fP_pop_51 : fD M_P_pop 51 (.getfield 11) 3 54 := ⟨by decide +kernel, rfl⟩
theorem fP_pop_54 : fIL M_P_pop 54 3 55 := Or.inl ⟨3, by decide +kernel, rfl, rfl⟩
theorem fP_pop_55 : fIC M_P_pop 55 10 57 := Or.inr (Or.inl ⟨10, by decide +kernel, by decide, rfl⟩)
theorem fP_pop_57 : fD M_P_pop 57 .iadd 1 58 := ⟨by decide +kernel, rfl⟩
theorem fP_pop_58 : fD M_P_pop 58 .iaload 1 59 := ⟨by decide +kernel, rfl⟩
theorem fP_pop_59 : fD M_P_pop 59 (.putfield 30) 3 62 := ⟨by decide +kernel, rfl⟩
theorem fP_pop_62 : fAL M_P_pop 62 2 63 := Or.inl ⟨2, by decide +kernel, rfl, rfl⟩
theorem fP_pop_63 : fAL M_P_pop 63 0 64 := Or.inl ⟨0, by decide +kernel, rfl, rfl⟩
theorem fP_pop_64 : fD M_P_pop 64 (.getfield 11) 3 67 := ⟨by decide +kernel, rfl⟩
theorem fP_pop_67 : fIL M_P_pop 67 3 68 := Or.inl ⟨3, by decide +kernel, rfl, rfl⟩
theorem fP_pop_68 : fIC M_P_pop 68 11 70 := Or.inr (Or.inl ⟨11, by decide +kernel, by decide, rfl⟩)
theorem fP_pop_70 : fD M_P_pop 70 .iadd 1 71 := ⟨by decide +kernel, rfl⟩
theorem fP_pop_71 : fD M_P_pop 71 .iaload 1 72 := ⟨by decide +kernel, rfl⟩
theorem fP_pop_72 : fD M_P_pop 72 (.putfield 33) 3 75 := ⟨by decide +kernel, rfl⟩
theorem fP_pop_75 : fAL M_P_pop 75 2 76 := Or.inl ⟨2, by decide +kernel, rfl, rfl⟩
theorem fP_pop_76 : fAL M_P_pop 76 0 77 := Or.inl ⟨0, by decide +kernel, rfl, rfl⟩
theorem fP_pop_77 : fD M_P_pop 77 (.getfield 11) 3 80 := ⟨by decide +kernel, rfl⟩
theorem fP_pop_80 : fIL M_P_pop 80 3 81 := Or.inl ⟨3, by decide +kernel, rfl, rfl⟩
theorem fP_pop_81 : fIC M_P_pop 81 12 83 := Or.inr (Or.inl ⟨12, by decide +kernel, by decide, rfl⟩)
theorem fP_pop_83 : fD M_P_pop 83 .iadd 1 84 := ⟨by decide +kernel, rfl⟩
theorem fP_pop_84 : fD M_P_pop 84 .iaload 1 85 := ⟨by decide +kernel, rfl⟩
theorem fP_pop_85 : fD M_P_pop 85 (.putfield 38) 3 88 := ⟨by decide +kernel, rfl⟩
theorem fP_pop_88 : fD M_P_pop 88 .return_ 1 89 := ⟨by decide +kernel, rfl⟩
theorem fS_init_0 : fAL M_S_init 0 0 1 := Or.inl ⟨0, by decide +kernel, rfl, rfl⟩
theorem fS_init_1 : fD M_S_init 1 (.invokespecial 3) 3 4 := ⟨by decide +kernel, rfl⟩
theorem fS_init_4 : fAL M_S_init 4 0 5 := Or.inl ⟨0, by decide +kernel, rfl, rfl⟩
theorem fS_init_5 : fIC M_S_init 5 10 7 := Or.inr (Or.inl ⟨10, by decide +kernel, by decide, rfl⟩)
theorem fS_init_7 : fD M_S_init 7 (.newarray .int) 2 9 := ⟨by decide +kernel, rfl⟩
theorem fS_init_9 : fD M_S_init 9 (.putfield 9) 3 12 := ⟨by decide +kernel, rfl⟩
theorem fS_init_12 : fAL M_S_init 12 0 13 := Or.inl ⟨0, by decide +kernel, rfl, rfl⟩
theorem fS_init_13 : fIC M_S_init 13 0 14 := Or.inl ⟨0, by decide +kernel, by decide, rfl⟩
theorem fS_init_14 : fD M_S_init 14 (.putfield 15) 3 17 := ⟨by decide +kernel, rfl⟩
theorem fS_init_17 : fD M_S_init 17 .return_ 1 18 := ⟨by decide +kernel, rfl⟩
theorem fS_begin_0 : fAL M_S_begin 0 0 1 := Or.inl ⟨0, by decide +kernel, rfl, rfl⟩
theorem fS_begin_1 : fD M_S_begin 1 (.getfield 9) 3 4 := ⟨by decide +kernel, rfl⟩
theorem fS_begin_4 : fIC M_S_begin 4 0 5 := Or.inl ⟨0, by decide +kernel, by decide, rfl⟩
theorem fS_begin_5 : fD M_S_begin 5 (.invokestatic 19) 3 8 := ⟨by decide +kernel, rfl⟩
theorem fS_begin_8 : fAL M_S_begin 8 0 9 := Or.inl ⟨0, by decide +kernel, rfl, rfl⟩
theorem fS_begin_9 : fIC M_S_begin 9 0 10 := Or.inl ⟨0, by decide +kernel, by decide, rfl⟩
theorem fS_begin_10 : fD M_S_begin 10 (.putfield 15) 3 13 := ⟨by decide +kernel, rfl⟩
theorem fS_begin_13 : fD M_S_begin 13 .return_ 1 14 := ⟨by decide +kernel, rfl⟩
theorem fS_become_0 : fAL M_S_become 0 1 1 := Or.inl ⟨1, by decide +kernel, rfl, rfl⟩
theorem fS_become_1 : fD M_S_become 1 (.getfield 9) 3 4 := ⟨by decide +kernel, rfl⟩
theorem fS_become_4 : fIC M_S_become 4 0 5 := Or.inl ⟨0, by decide +kernel, by decide, rfl⟩
theorem fS_become_5 : fAL M_S_become 5 0 6 := Or.inl ⟨0, by decide +kernel, rfl, rfl⟩
theorem fS_become_6 : fD M_S_become 6 (.getfield 9) 3 9 := ⟨by decide +kernel, rfl⟩
theorem fS_become_9 : fIC M_S_become 9 0 10 := Or.inl ⟨0, by decide +kernel, by decide, rfl⟩
theorem fS_become_10 : fIC M_S_become 10 10 12 := Or.inr (Or.inl ⟨10, by decide +kernel, by decide, rfl⟩)
theorem fS_become_12 : fD M_S_become 12 (.invokestatic 25) 3 15 := ⟨by decide +kernel, rfl⟩
theorem fS_become_15 : fAL M_S_become 15 0 16 := Or.inl ⟨0, by decide +kernel, rfl, rfl⟩
theorem fS_become_16 : fAL M_S_become 16 1 17 := Or.inl ⟨1, by decide +kernel, rfl, rfl⟩
theorem fS_become_17 : fD M_S_become 17 (.getfield 15) 3 20 := ⟨by decide +kernel, rfl⟩
theorem fS_become_20 : fD M_S_become 20 (.putfield 15) 3 23 := ⟨by decide +kernel, rfl⟩
theorem fS_become_23 : fD M_S_become 23 .return_ 1 24 := ⟨by decide +kernel, rfl⟩
theorem fS_wornTogether_0 : fIC M_S_wornTogether 0 0 1 := Or.inl ⟨0, by decide +kernel, by decide, rfl⟩
theorem fS_wornTogether_1 : fIS M_S_wornTogether 1 1 2 := Or.inl ⟨1, by decide +kernel, rfl, rfl⟩
theorem fS_wornTogether_2 : fIC M_S_wornTogether 2 0 3 := Or.inl ⟨0, by decide +kernel, by decide, rfl⟩
theorem fS_wornTogether_3 : fIS M_S_wornTogether 3 2 4 := Or.inl ⟨2, by decide +kernel, rfl, rfl⟩
theorem fS_wornTogether_4 : fIL M_S_wornTogether 4 2 5 := Or.inl ⟨2, by decide +kernel, rfl, rfl⟩
theorem fS_wornTogether_5 : fIC M_S_wornTogether 5 10 7 := Or.inr (Or.inl ⟨10, by decide +kernel, by decide, rfl⟩)
theorem fS_wornTogether_7 : fB M_S_wornTogether 7 (.if_icmp .ge 18) 18 10 25 := ⟨by decide +kernel, rfl, by decide⟩
theorem fS_wornTogether_10 : fIL M_S_wornTogether 10 1 11 := Or.inl ⟨1, by decide +kernel, rfl, rfl⟩
theorem fS_wornTogether_11 : fAL M_S_wornTogether 11 0 12 := Or.inl ⟨0, by decide +kernel, rfl, rfl⟩
theorem fS_wornTogether_12 : fD M_S_wornTogether 12 (.getfield 9) 3 15 := ⟨by decide +kernel, rfl⟩
theorem fS_wornTogether_15 : fIL M_S_wornTogether 15 2 16 := Or.inl ⟨2, by decide +kernel, rfl, rfl⟩
theorem fS_wornTogether_16 : fD M_S_wornTogether 16 .iaload 1 17 := ⟨by decide +kernel, rfl⟩
theorem fS_wornTogether_17 : fD M_S_wornTogether 17 .iadd 1 18 := ⟨by decide +kernel, rfl⟩
theorem fS_wornTogether_18 : fIS M_S_wornTogether 18 1 19 := Or.inl ⟨1, by decide +kernel, rfl, rfl⟩
theorem fS_wornTogether_19 : fD M_S_wornTogether 19 (.iinc 2 1) 3 22 := ⟨by decide +kernel, rfl⟩
theorem fS_wornTogether_22 : fB M_S_wornTogether 22 (.goto (-18)) (-18) 25 4 := ⟨by decide +kernel, rfl, by decide⟩
theorem fS_wornTogether_25 : fIL M_S_wornTogether 25 1 26 := Or.inl ⟨1, by decide +kernel, rfl, rfl⟩
theorem fS_wornTogether_26 : fD M_S_wornTogether 26 .ireturn 1 27 := ⟨by decide +kernel, rfl⟩
end
section
theorem fF_init_0 : fAL M_F_init 0 0 1 := Or.inl ⟨0, by decide +kernel, rfl, rfl⟩
theorem fF_init_1 : fD M_F_init 1 (.invokespecial 1) 3 4 := ⟨by decide +kernel, rfl⟩
theorem fF_init_4 : fAL M_F_init 4 0 5 := Or.inl ⟨0, by decide +kernel, rfl, rfl⟩
theorem fF_init_5 : fD M_F_init 5 (.new 7) 3 8 := ⟨by decide +kernel, rfl⟩
theorem fF_init_8 : fD M_F_init 8 .dup 1 9 := ⟨by decide +kernel, rfl⟩
theorem fF_init_9 : fD M_F_init 9 (.invokespecial 9) 3 12 := ⟨by decide +kernel, rfl⟩
theorem fF_init_12 : fD M_F_init 12 (.putfield 10) 3 15 := ⟨by decide +kernel, rfl⟩
theorem fF_init_15 : fAL M_F_init 15 0 16 := Or.inl ⟨0, by decide +kernel, rfl, rfl⟩
theorem fF_init_16 : fD M_F_init 16 (.new 7) 3 19 := ⟨by decide +kernel, rfl⟩
theorem fF_init_19 : fD M_F_init 19 .dup 1 20 := ⟨by decide +kernel, rfl⟩
theorem fF_init_20 : fD M_F_init 20 (.invokespecial 9) 3 23 := ⟨by decide +kernel, rfl⟩
theorem fF_init_23 : fD M_F_init 23 (.putfield 16) 3 26 := ⟨by decide +kernel, rfl⟩
theorem fF_init_26 : fAL M_F_init 26 0 27 := Or.inl ⟨0, by decide +kernel, rfl, rfl⟩
theorem fF_init_27 : fIC M_F_init 27 2 28 := Or.inl ⟨2, by decide +kernel, by decide, rfl⟩
theorem fF_init_28 : fD M_F_init 28 (.anewarray 7) 3 31 := ⟨by decide +kernel, rfl⟩
theorem fF_init_31 : fD M_F_init 31 (.putfield 19) 3 34 := ⟨by decide +kernel, rfl⟩
theorem fF_init_34 : fAL M_F_init 34 0 35 := Or.inl ⟨0, by decide +kernel, rfl, rfl⟩
theorem fF_init_35 : fD M_F_init 35 (.new 23) 3 38 := ⟨by decide +kernel, rfl⟩
theorem fF_init_38 : fD M_F_init 38 .dup 1 39 := ⟨by decide +kernel, rfl⟩
theorem fF_init_39 : fD M_F_init 39 (.invokespecial 25) 3 42 := ⟨by decide +kernel, rfl⟩
theorem fF_init_42 : fD M_F_init 42 (.putfield 26) 3 45 := ⟨by decide +kernel, rfl⟩
theorem fF_init_45 : fAL M_F_init 45 0 46 := Or.inl ⟨0, by decide +kernel, rfl, rfl⟩
theorem fF_init_46 : fD M_F_init 46 (.new 30) 3 49 := ⟨by decide +kernel, rfl⟩
theorem fF_init_49 : fD M_F_init 49 .dup 1 50 := ⟨by decide +kernel, rfl⟩
theorem fF_init_50 : fD M_F_init 50 (.invokespecial 32) 3 53 := ⟨by decide +kernel, rfl⟩
theorem fF_init_53 : fD M_F_init 53 (.putfield 33) 3 56 := ⟨by decide +kernel, rfl⟩
theorem fF_init_56 : fAL M_F_init 56 0 57 := Or.inl ⟨0, by decide +kernel, rfl, rfl⟩
theorem fF_init_57 : fD M_F_init 57 (.new 37) 3 60 := ⟨by decide +kernel, rfl⟩
theorem fF_init_60 : fD M_F_init 60 .dup 1 61 := ⟨by decide +kernel, rfl⟩
theorem fF_init_61 : fD M_F_init 61 (.invokespecial 39) 3 64 := ⟨by decide +kernel, rfl⟩
theorem fF_init_64 : fD M_F_init 64 (.putfield 40) 3 67 := ⟨by decide +kernel, rfl⟩
theorem fF_init_67 : fAL M_F_init 67 0 68 := Or.inl ⟨0, by decide +kernel, rfl, rfl⟩
theorem fF_init_68 : fD M_F_init 68 (.new 44) 3 71 := ⟨by decide +kernel, rfl⟩
theorem fF_init_71 : fD M_F_init 71 .dup 1 72 := ⟨by decide +kernel, rfl⟩
theorem fF_init_72 : fD M_F_init 72 (.invokespecial 46) 3 75 := ⟨by decide +kernel, rfl⟩
theorem fF_init_75 : fD M_F_init 75 (.putfield 47) 3 78 := ⟨by decide +kernel, rfl⟩
theorem fF_init_78 : fAL M_F_init 78 0 79 := Or.inl ⟨0, by decide +kernel, rfl, rfl⟩
theorem fF_init_79 : fIC M_F_init 79 0 80 := Or.inl ⟨0, by decide +kernel, by decide, rfl⟩
theorem fF_init_80 : fD M_F_init 80 (.putfield 51) 3 83 := ⟨by decide +kernel, rfl⟩
theorem fF_init_83 : fAL M_F_init 83 0 84 := Or.inl ⟨0, by decide +kernel, rfl, rfl⟩
theorem fF_init_84 : fIC M_F_init 84 1 85 := Or.inl ⟨1, by decide +kernel, by decide, rfl⟩
theorem fF_init_85 : fD M_F_init 85 (.putfield 55) 3 88 := ⟨by decide +kernel, rfl⟩
theorem fF_init_88 : fAL M_F_init 88 0 89 := Or.inl ⟨0, by decide +kernel, rfl, rfl⟩
theorem fF_init_89 : fIC M_F_init 89 0 90 := Or.inl ⟨0, by decide +kernel, by decide, rfl⟩
theorem fF_init_90 : fD M_F_init 90 (.putfield 58) 3 93 := ⟨by decide +kernel, rfl⟩
theorem fF_init_93 : fAL M_F_init 93 0 94 := Or.inl ⟨0, by decide +kernel, rfl, rfl⟩
theorem fF_init_94 : fIC M_F_init 94 0 95 := Or.inl ⟨0, by decide +kernel, by decide, rfl⟩
theorem fF_init_95 : fD M_F_init 95 (.putfield 61) 3 98 := ⟨by decide +kernel, rfl⟩
theorem fF_init_98 : fAL M_F_init 98 0 99 := Or.inl ⟨0, by decide +kernel, rfl, rfl⟩
theorem fF_init_99 : fIC M_F_init 99 0 100 := Or.inl ⟨0, by decide +kernel, by decide, rfl⟩
theorem fF_init_100 : fD M_F_init 100 (.putfield 64) 3 103 := ⟨by decide +kernel, rfl⟩
theorem fF_init_103 : fD M_F_init 103 .return_ 1 104 := ⟨by decide +kernel, rfl⟩
theorem fF_house_0 : fAL M_F_house 0 0 1 := Or.inl ⟨0, by decide +kernel, rfl, rfl⟩
theorem fF_house_1 : fD M_F_house 1 (.getfield 10) 3 4 := ⟨by decide +kernel, rfl⟩
theorem fF_house_4 : fD M_F_house 4 (.getfield 67) 3 7 := ⟨by decide +kernel, rfl⟩
theorem fF_house_7 : fD M_F_house 7 (.getfield 71) 3 10 := ⟨by decide +kernel, rfl⟩
theorem fF_house_10 : fIS M_F_house 10 1 11 := Or.inl ⟨1, by decide +kernel, rfl, rfl⟩
theorem fF_house_11 : fAL M_F_house 11 0 12 := Or.inl ⟨0, by decide +kernel, rfl, rfl⟩
theorem fF_house_12 : fD M_F_house 12 (.getfield 10) 3 15 := ⟨by decide +kernel, rfl⟩
theorem fF_house_15 : fD M_F_house 15 (.invokevirtual 76) 3 18 := ⟨by decide +kernel, rfl⟩
theorem fF_house_18 : fIL M_F_house 18 1 19 := Or.inl ⟨1, by decide +kernel, rfl, rfl⟩
theorem fF_house_19 : fD M_F_house 19 .ireturn 1 20 := ⟨by decide +kernel, rfl⟩
theorem fF_figure_0 : fIL M_F_figure 0 1 1 := Or.inl ⟨1, by decide +kernel, rfl, rfl⟩
theorem fF_figure_1 : fD M_F_figure 1 (.invokestatic 79) 3 4 := ⟨by decide +kernel, rfl⟩
theorem fF_figure_4 : fB M_F_figure 4 (.ifCond .eq 22) 22 7 26 := ⟨by decide +kernel, rfl, by decide⟩
theorem fF_figure_7 : fIL M_F_figure 7 2 8 := Or.inl ⟨2, by decide +kernel, rfl, rfl⟩
theorem fF_figure_8 : fIC M_F_figure 8 0 9 := Or.inl ⟨0, by decide +kernel, by decide, rfl⟩
theorem fF_figure_9 : fIC M_F_figure 9 5 10 := Or.inl ⟨5, by decide +kernel, by decide, rfl⟩
theorem fF_figure_10 : fD M_F_figure 10 (.invokestatic 85) 3 13 := ⟨by decide +kernel, rfl⟩
theorem fF_figure_13 : fB M_F_figure 13 (.ifCond .eq 13) 13 16 26 := ⟨by decide +kernel, rfl, by decide⟩
theorem fF_figure_16 : fIL M_F_figure 16 3 17 := Or.inl ⟨3, by decide +kernel, rfl, rfl⟩
theorem fF_figure_17 : fIC M_F_figure 17 1 18 := Or.inl ⟨1, by decide +kernel, by decide, rfl⟩
theorem fF_figure_18 : fIC M_F_figure 18 60 20 := Or.inr (Or.inl ⟨60, by decide +kernel, by decide, rfl⟩)
theorem fF_figure_20 : fD M_F_figure 20 (.invokestatic 85) 3 23 := ⟨by decide +kernel, rfl⟩
theorem fF_figure_23 : fB M_F_figure 23 (.ifCond .ne 8) 8 26 31 := ⟨by decide +kernel, rfl, by decide⟩
theorem fF_figure_26 : fAL M_F_figure 26 0 27 := Or.inl ⟨0, by decide +kernel, rfl, rfl⟩
theorem fF_figure_27 : fD M_F_figure 27 (.invokevirtual 89) 3 30 := ⟨by decide +kernel, rfl⟩
theorem fF_figure_30 : fD M_F_figure 30 .ireturn 1 31 := ⟨by decide +kernel, rfl⟩
theorem fF_figure_31 : fIC M_F_figure 31 100 33 := Or.inr (Or.inl ⟨100, by decide +kernel, by decide, rfl⟩)
theorem fF_figure_33 : fAL M_F_figure 33 0 34 := Or.inl ⟨0, by decide +kernel, rfl, rfl⟩
theorem fF_figure_34 : fD M_F_figure 34 (.getfield 10) 3 37 := ⟨by decide +kernel, rfl⟩
theorem fF_figure_37 : fD M_F_figure 37 (.getfield 93) 3 40 := ⟨by decide +kernel, rfl⟩
theorem fF_figure_40 : fIL M_F_figure 40 1 41 := Or.inl ⟨1, by decide +kernel, rfl, rfl⟩
theorem fF_figure_41 : fD M_F_figure 41 .iaload 1 42 := ⟨by decide +kernel, rfl⟩
theorem fF_figure_42 : fD M_F_figure 42 .imul 1 43 := ⟨by decide +kernel, rfl⟩
theorem fF_figure_43 : fAL M_F_figure 43 0 44 := Or.inl ⟨0, by decide +kernel, rfl, rfl⟩
theorem fF_figure_44 : fD M_F_figure 44 (.getfield 10) 3 47 := ⟨by decide +kernel, rfl⟩
theorem fF_figure_47 : fD M_F_figure 47 (.getfield 97) 3 50 := ⟨by decide +kernel, rfl⟩
theorem fF_figure_50 : fIL M_F_figure 50 1 51 := Or.inl ⟨1, by decide +kernel, rfl, rfl⟩
theorem fF_figure_51 : fD M_F_figure 51 .iaload 1 52 := ⟨by decide +kernel, rfl⟩
theorem fF_figure_52 : fD M_F_figure 52 .iadd 1 53 := ⟨by decide +kernel, rfl⟩
theorem fF_figure_53 : fIS M_F_figure 53 4 55 := Or.inr ⟨by decide +kernel, rfl⟩
theorem fF_figure_55 : fAL M_F_figure 55 0 56 := Or.inl ⟨0, by decide +kernel, rfl, rfl⟩
theorem fF_figure_56 : fD M_F_figure 56 (.getfield 10) 3 59 := ⟨by decide +kernel, rfl⟩
theorem fF_figure_59 : fIL M_F_figure 59 1 60 := Or.inl ⟨1, by decide +kernel, rfl, rfl⟩
theorem fF_figure_60 : fIL M_F_figure 60 2 61 := Or.inl ⟨2, by decide +kernel, rfl, rfl⟩
theorem fF_figure_61 : fIL M_F_figure 61 3 62 := Or.inl ⟨3, by decide +kernel, rfl, rfl⟩
theorem fF_figure_62 : fD M_F_figure 62 (.invokevirtual 100) 3 65 := ⟨by decide +kernel, rfl⟩
theorem fF_figure_65 : fIL M_F_figure 65 4 67 := Or.inr ⟨by decide +kernel, rfl⟩
theorem fF_figure_67 : fD M_F_figure 67 .ireturn 1 68 := ⟨by decide +kernel, rfl⟩
theorem fF_bill_0 : fIL M_F_bill 0 1 1 := Or.inl ⟨1, by decide +kernel, rfl, rfl⟩
theorem fF_bill_1 : fD M_F_bill 1 (.invokestatic 104) 3 4 := ⟨by decide +kernel, rfl⟩
theorem fF_bill_4 : fB M_F_bill 4 (.ifCond .eq 13) 13 7 17 := ⟨by decide +kernel, rfl, by decide⟩
theorem fF_bill_7 : fIL M_F_bill 7 2 8 := Or.inl ⟨2, by decide +kernel, rfl, rfl⟩
theorem fF_bill_8 : fIC M_F_bill 8 0 9 := Or.inl ⟨0, by decide +kernel, by decide, rfl⟩
theorem fF_bill_9 : fIC M_F_bill 9 99 11 := Or.inr (Or.inl ⟨99, by decide +kernel, by decide, rfl⟩)
theorem fF_bill_11 : fD M_F_bill 11 (.invokestatic 85) 3 14 := ⟨by decide +kernel, rfl⟩
theorem fF_bill_14 : fB M_F_bill 14 (.ifCond .ne 8) 8 17 22 := ⟨by decide +kernel, rfl, by decide⟩
theorem fF_bill_17 : fAL M_F_bill 17 0 18 := Or.inl ⟨0, by decide +kernel, rfl, rfl⟩
theorem fF_bill_18 : fD M_F_bill 18 (.invokevirtual 89) 3 21 := ⟨by decide +kernel, rfl⟩
theorem fF_bill_21 : fD M_F_bill 21 .ireturn 1 22 := ⟨by decide +kernel, rfl⟩
theorem fF_bill_22 : fAL M_F_bill 22 0 23 := Or.inl ⟨0, by decide +kernel, rfl, rfl⟩
theorem fF_bill_23 : fD M_F_bill 23 (.getfield 10) 3 26 := ⟨by decide +kernel, rfl⟩
theorem fF_bill_26 : fD M_F_bill 26 (.getfield 67) 3 29 := ⟨by decide +kernel, rfl⟩
theorem fF_bill_29 : fD M_F_bill 29 (.getfield 71) 3 32 := ⟨by decide +kernel, rfl⟩
theorem fF_bill_32 : fIC M_F_bill 32 6 34 := Or.inr (Or.inl ⟨6, by decide +kernel, by decide, rfl⟩)
theorem fF_bill_34 : fB M_F_bill 34 (.if_icmp .lt 8) 8 37 42 := ⟨by decide +kernel, rfl, by decide⟩
theorem fF_bill_37 : fAL M_F_bill 37 0 38 := Or.inl ⟨0, by decide +kernel, rfl, rfl⟩
theorem fF_bill_38 : fD M_F_bill 38 (.invokevirtual 107) 3 41 := ⟨by decide +kernel, rfl⟩
theorem fF_bill_41 : fD M_F_bill 41 .ireturn 1 42 := ⟨by decide +kernel, rfl⟩
theorem fF_bill_42 : fAL M_F_bill 42 0 43 := Or.inl ⟨0, by decide +kernel, rfl, rfl⟩
theorem fF_bill_43 : fD M_F_bill 43 (.getfield 10) 3 46 := ⟨by decide +kernel, rfl⟩
theorem fF_bill_46 : fIL M_F_bill 46 1 47 := Or.inl ⟨1, by decide +kernel, rfl, rfl⟩
theorem fF_bill_47 : fIL M_F_bill 47 2 48 := Or.inl ⟨2, by decide +kernel, rfl, rfl⟩
theorem fF_bill_48 : fD M_F_bill 48 (.invokevirtual 110) 3 51 := ⟨by decide +kernel, rfl⟩
theorem fF_bill_51 : fAL M_F_bill 51 0 52 := Or.inl ⟨0, by decide +kernel, rfl, rfl⟩
theorem fF_bill_52 : fD M_F_bill 52 (.getfield 10) 3 55 := ⟨by decide +kernel, rfl⟩
theorem fF_bill_55 : fD M_F_bill 55 (.getfield 67) 3 58 := ⟨by decide +kernel, rfl⟩
theorem fF_bill_58 : fD M_F_bill 58 (.getfield 71) 3 61 := ⟨by decide +kernel, rfl⟩
theorem fF_bill_61 : fIC M_F_bill 61 1 62 := Or.inl ⟨1, by decide +kernel, by decide, rfl⟩
theorem fF_bill_62 : fD M_F_bill 62 .isub 1 63 := ⟨by decide +kernel, rfl⟩
theorem fF_bill_63 : fD M_F_bill 63 .ireturn 1 64 := ⟨by decide +kernel, rfl⟩
theorem fF_type_0 : fIL M_F_type 0 1 1 := Or.inl ⟨1, by decide +kernel, rfl, rfl⟩
theorem fF_type_1 : fIC M_F_type 1 0 2 := Or.inl ⟨0, by decide +kernel, by decide, rfl⟩
theorem fF_type_2 : fIC M_F_type 2 127 4 := Or.inr (Or.inl ⟨127, by decide +kernel, by decide, rfl⟩)
theorem fF_type_4 : fD M_F_type 4 (.invokestatic 85) 3 7 := ⟨by decide +kernel, rfl⟩
theorem fF_type_7 : fB M_F_type 7 (.ifCond .ne 8) 8 10 15 := ⟨by decide +kernel, rfl, by decide⟩
theorem fF_type_10 : fAL M_F_type 10 0 11 := Or.inl ⟨0, by decide +kernel, rfl, rfl⟩
theorem fF_type_11 : fD M_F_type 11 (.invokevirtual 89) 3 14 := ⟨by decide +kernel, rfl⟩
theorem fF_type_14 : fD M_F_type 14 .ireturn 1 15 := ⟨by decide +kernel, rfl⟩
theorem fF_type_15 : fAL M_F_type 15 0 16 := Or.inl ⟨0, by decide +kernel, rfl, rfl⟩
theorem fF_type_16 : fD M_F_type 16 (.getfield 40) 3 19 := ⟨by decide +kernel, rfl⟩
theorem fF_type_19 : fD M_F_type 19 (.getfield 114) 3 22 := ⟨by decide +kernel, rfl⟩
theorem fF_type_22 : fIC M_F_type 22 150 25 := Or.inr (Or.inr (Or.inl ⟨150, by decide +kernel, by decide, rfl⟩))
theorem fF_type_25 : fB M_F_type 25 (.if_icmp .lt 8) 8 28 33 := ⟨by decide +kernel, rfl, by decide⟩
theorem fF_type_28 : fAL M_F_type 28 0 29 := Or.inl ⟨0, by decide +kernel, rfl, rfl⟩
theorem fF_type_29 : fD M_F_type 29 (.invokevirtual 107) 3 32 := ⟨by decide +kernel, rfl⟩
theorem fF_type_32 : fD M_F_type 32 .ireturn 1 33 := ⟨by decide +kernel, rfl⟩
theorem fF_type_33 : fAL M_F_type 33 0 34 := Or.inl ⟨0, by decide +kernel, rfl, rfl⟩
theorem fF_type_34 : fD M_F_type 34 (.getfield 40) 3 37 := ⟨by decide +kernel, rfl⟩
theorem fF_type_37 : fD M_F_type 37 (.getfield 115) 3 40 := ⟨by decide +kernel, rfl⟩
theorem fF_type_40 : fAL M_F_type 40 0 41 := Or.inl ⟨0, by decide +kernel, rfl, rfl⟩
theorem fF_type_41 : fD M_F_type 41 (.getfield 40) 3 44 := ⟨by decide +kernel, rfl⟩
theorem fF_type_44 : fD M_F_type 44 (.getfield 114) 3 47 := ⟨by decide +kernel, rfl⟩
theorem fF_type_47 : fIL M_F_type 47 1 48 := Or.inl ⟨1, by decide +kernel, rfl, rfl⟩
theorem fF_type_48 : fD M_F_type 48 .iastore 1 49 := ⟨by decide +kernel, rfl⟩
theorem fF_type_49 : fAL M_F_type 49 0 50 := Or.inl ⟨0, by decide +kernel, rfl, rfl⟩
theorem fF_type_50 : fD M_F_type 50 (.getfield 40) 3 53 := ⟨by decide +kernel, rfl⟩
theorem fF_type_53 : fD M_F_type 53 .dup 1 54 := ⟨by decide +kernel, rfl⟩
theorem fF_type_54 : fD M_F_type 54 (.getfield 114) 3 57 := ⟨by decide +kernel, rfl⟩
theorem fF_type_57 : fIC M_F_type 57 1 58 := Or.inl ⟨1, by decide +kernel, by decide, rfl⟩
theorem fF_type_58 : fD M_F_type 58 .iadd 1 59 := ⟨by decide +kernel, rfl⟩
theorem fF_type_59 : fD M_F_type 59 (.putfield 114) 3 62 := ⟨by decide +kernel, rfl⟩
theorem fF_type_62 : fAL M_F_type 62 0 63 := Or.inl ⟨0, by decide +kernel, rfl, rfl⟩
theorem fF_type_63 : fD M_F_type 63 (.getfield 40) 3 66 := ⟨by decide +kernel, rfl⟩
theorem fF_type_66 : fD M_F_type 66 (.getfield 114) 3 69 := ⟨by decide +kernel, rfl⟩
theorem fF_type_69 : fD M_F_type 69 .ireturn 1 70 := ⟨by decide +kernel, rfl⟩
theorem fF_clear_0 : fAL M_F_clear 0 0 1 := Or.inl ⟨0, by decide +kernel, rfl, rfl⟩
theorem fF_clear_1 : fD M_F_clear 1 (.getfield 40) 3 4 := ⟨by decide +kernel, rfl⟩
theorem fF_clear_4 : fD M_F_clear 4 (.getfield 114) 3 7 := ⟨by decide +kernel, rfl⟩
theorem fF_clear_7 : fIS M_F_clear 7 1 8 := Or.inl ⟨1, by decide +kernel, rfl, rfl⟩
theorem fF_clear_8 : fAL M_F_clear 8 0 9 := Or.inl ⟨0, by decide +kernel, rfl, rfl⟩
theorem fF_clear_9 : fD M_F_clear 9 (.getfield 40) 3 12 := ⟨by decide +kernel, rfl⟩
theorem fF_clear_12 : fIC M_F_clear 12 0 13 := Or.inl ⟨0, by decide +kernel, by decide, rfl⟩
theorem fF_clear_13 : fD M_F_clear 13 (.putfield 114) 3 16 := ⟨by decide +kernel, rfl⟩
theorem fF_clear_16 : fIL M_F_clear 16 1 17 := Or.inl ⟨1, by decide +kernel, rfl, rfl⟩
theorem fF_clear_17 : fD M_F_clear 17 .ireturn 1 18 := ⟨by decide +kernel, rfl⟩
theorem fF_read_0 : fAL M_F_read 0 0 1 := Or.inl ⟨0, by decide +kernel, rfl, rfl⟩
theorem fF_read_1 : fD M_F_read 1 (.getfield 40) 3 4 := ⟨by decide +kernel, rfl⟩
theorem fF_read_4 : fAL M_F_read 4 0 5 := Or.inl ⟨0, by decide +kernel, rfl, rfl⟩
theorem fF_read_5 : fD M_F_read 5 (.getfield 16) 3 8 := ⟨by decide +kernel, rfl⟩
theorem fF_read_8 : fD M_F_read 8 (.invokevirtual 118) 3 11 := ⟨by decide +kernel, rfl⟩
theorem fF_read_11 : fIS M_F_read 11 1 12 := Or.inl ⟨1, by decide +kernel, rfl, rfl⟩
theorem fF_read_12 : fIL M_F_read 12 1 13 := Or.inl ⟨1, by decide +kernel, rfl, rfl⟩
theorem fF_read_13 : fIC M_F_read 13 (-1) 14 := Or.inl ⟨(-1), by decide +kernel, by decide, rfl⟩
theorem fF_read_14 : fB M_F_read 14 (.if_icmp .ne 14) 14 17 28 := ⟨by decide +kernel, rfl, by decide⟩
theorem fF_read_17 : fIC M_F_read 17 (-10) 19 := Or.inr (Or.inl ⟨(-10), by decide +kernel, by decide, rfl⟩)
theorem fF_read_19 : fAL M_F_read 19 0 20 := Or.inl ⟨0, by decide +kernel, rfl, rfl⟩
theorem fF_read_20 : fD M_F_read 20 (.getfield 40) 3 23 := ⟨by decide +kernel, rfl⟩
theorem fF_read_23 : fD M_F_read 23 (.getfield 122) 3 26 := ⟨by decide +kernel, rfl⟩
theorem fF_read_26 : fD M_F_read 26 .isub 1 27 := ⟨by decide +kernel, rfl⟩
theorem fF_read_27 : fD M_F_read 27 .ireturn 1 28 := ⟨by decide +kernel, rfl⟩
theorem fF_read_28 : fAL M_F_read 28 0 29 := Or.inl ⟨0, by decide +kernel, rfl, rfl⟩
theorem fF_read_29 : fD M_F_read 29 (.getfield 10) 3 32 := ⟨by decide +kernel, rfl⟩
theorem fF_read_32 : fAL M_F_read 32 0 33 := Or.inl ⟨0, by decide +kernel, rfl, rfl⟩
theorem fF_read_33 : fD M_F_read 33 (.getfield 16) 3 36 := ⟨by decide +kernel, rfl⟩
theorem fF_read_36 : fD M_F_read 36 (.invokevirtual 125) 3 39 := ⟨by decide +kernel, rfl⟩
theorem fF_read_39 : fIL M_F_read 39 1 40 := Or.inl ⟨1, by decide +kernel, rfl, rfl⟩
theorem fF_read_40 : fD M_F_read 40 .ireturn 1 41 := ⟨by decide +kernel, rfl⟩
theorem fF_write_0 : fIL M_F_write 0 1 1 := Or.inl ⟨1, by decide +kernel, rfl, rfl⟩
theorem fF_write_1 : fD M_F_write 1 (.invokestatic 104) 3 4 := ⟨by decide +kernel, rfl⟩
theorem fF_write_4 : fB M_F_write 4 (.ifCond .eq 10) 10 7 14 := ⟨by decide +kernel, rfl, by decide⟩
theorem fF_write_7 : fIL M_F_write 7 2 8 := Or.inl ⟨2, by decide +kernel, rfl, rfl⟩
theorem fF_write_8 : fD M_F_write 8 (.invokestatic 104) 3 11 := ⟨by decide +kernel, rfl⟩
theorem fF_write_11 : fB M_F_write 11 (.ifCond .ne 8) 8 14 19 := ⟨by decide +kernel, rfl, by decide⟩
theorem fF_write_14 : fAL M_F_write 14 0 15 := Or.inl ⟨0, by decide +kernel, rfl, rfl⟩
theorem fF_write_15 : fD M_F_write 15 (.invokevirtual 89) 3 18 := ⟨by decide +kernel, rfl⟩
theorem fF_write_18 : fD M_F_write 18 .ireturn 1 19 := ⟨by decide +kernel, rfl⟩
theorem fF_write_19 : fAL M_F_write 19 0 20 := Or.inl ⟨0, by decide +kernel, rfl, rfl⟩
theorem fF_write_20 : fD M_F_write 20 (.getfield 47) 3 23 := ⟨by decide +kernel, rfl⟩
theorem fF_write_23 : fIL M_F_write 23 1 24 := Or.inl ⟨1, by decide +kernel, rfl, rfl⟩
theorem fF_write_24 : fIL M_F_write 24 2 25 := Or.inl ⟨2, by decide +kernel, rfl, rfl⟩
theorem fF_write_25 : fD M_F_write 25 (.invokevirtual 129) 3 28 := ⟨by decide +kernel, rfl⟩
theorem fF_write_28 : fAL M_F_write 28 0 29 := Or.inl ⟨0, by decide +kernel, rfl, rfl⟩
theorem fF_write_29 : fD M_F_write 29 (.getfield 10) 3 32 := ⟨by decide +kernel, rfl⟩
theorem fF_write_32 : fAL M_F_write 32 0 33 := Or.inl ⟨0, by decide +kernel, rfl, rfl⟩
theorem fF_write_33 : fD M_F_write 33 (.getfield 10) 3 36 := ⟨by decide +kernel, rfl⟩
theorem fF_write_36 : fD M_F_write 36 (.getfield 132) 3 39 := ⟨by decide +kernel, rfl⟩
theorem fF_write_39 : fAL M_F_write 39 0 40 := Or.inl ⟨0, by decide +kernel, rfl, rfl⟩
theorem fF_write_40 : fD M_F_write 40 (.getfield 47) 3 43 := ⟨by decide +kernel, rfl⟩
theorem fF_write_43 : fD M_F_write 43 (.invokevirtual 136) 3 46 := ⟨by decide +kernel, rfl⟩
theorem fF_write_46 : fB M_F_write 46 (.ifCond .ne 8) 8 49 54 := ⟨by decide +kernel, rfl, by decide⟩
theorem fF_write_49 : fAL M_F_write 49 0 50 := Or.inl ⟨0, by decide +kernel, rfl, rfl⟩
theorem fF_write_50 : fD M_F_write 50 (.invokevirtual 140) 3 53 := ⟨by decide +kernel, rfl⟩
theorem fF_write_53 : fD M_F_write 53 .ireturn 1 54 := ⟨by decide +kernel, rfl⟩
theorem fF_write_54 : fAL M_F_write 54 0 55 := Or.inl ⟨0, by decide +kernel, rfl, rfl⟩
theorem fF_write_55 : fD M_F_write 55 (.getfield 10) 3 58 := ⟨by decide +kernel, rfl⟩
theorem fF_write_58 : fD M_F_write 58 (.invokevirtual 143) 3 61 := ⟨by decide +kernel, rfl⟩
theorem fF_write_61 : fAL M_F_write 61 0 62 := Or.inl ⟨0, by decide +kernel, rfl, rfl⟩
theorem fF_write_62 : fD M_F_write 62 (.getfield 10) 3 65 := ⟨by decide +kernel, rfl⟩
theorem fF_write_65 : fAL M_F_write 65 0 66 := Or.inl ⟨0, by decide +kernel, rfl, rfl⟩
theorem fF_write_66 : fD M_F_write 66 (.getfield 10) 3 69 := ⟨by decide +kernel, rfl⟩
theorem fF_write_69 : fD M_F_write 69 (.getfield 132) 3 72 := ⟨by decide +kernel, rfl⟩
theorem fF_write_72 : fAL M_F_write 72 0 73 := Or.inl ⟨0, by decide +kernel, rfl, rfl⟩
theorem fF_write_73 : fD M_F_write 73 (.getfield 47) 3 76 := ⟨by decide +kernel, rfl⟩
theorem fF_write_76 : fD M_F_write 76 (.invokevirtual 146) 3 79 := ⟨by decide +kernel, rfl⟩
theorem fF_write_79 : fD M_F_write 79 .pop 1 80 := ⟨by decide +kernel, rfl⟩
theorem fF_write_80 : fAL M_F_write 80 0 81 := Or.inl ⟨0, by decide +kernel, rfl, rfl⟩
theorem fF_write_81 : fD M_F_write 81 (.getfield 10) 3 84 := ⟨by decide +kernel, rfl⟩
theorem fF_write_84 : fAL M_F_write 84 0 85 := Or.inl ⟨0, by decide +kernel, rfl, rfl⟩
theorem fF_write_85 : fD M_F_write 85 (.getfield 47) 3 88 := ⟨by decide +kernel, rfl⟩
theorem fF_write_88 : fD M_F_write 88 (.invokevirtual 149) 3 91 := ⟨by decide +kernel, rfl⟩
theorem fF_write_91 : fD M_F_write 91 .ireturn 1 92 := ⟨by decide +kernel, rfl⟩
theorem fF_pay_0 : fAL M_F_pay 0 0 1 := Or.inl ⟨0, by decide +kernel, rfl, rfl⟩
theorem fF_pay_1 : fD M_F_pay 1 (.getfield 10) 3 4 := ⟨by decide +kernel, rfl⟩
theorem fF_pay_4 : fD M_F_pay 4 (.getfield 67) 3 7 := ⟨by decide +kernel, rfl⟩
theorem fF_pay_7 : fIL M_F_pay 7 1 8 := Or.inl ⟨1, by decide +kernel, rfl, rfl⟩
theorem fF_pay_8 : fD M_F_pay 8 (.invokevirtual 153) 3 11 := ⟨by decide +kernel, rfl⟩
theorem fF_pay_11 : fB M_F_pay 11 (.ifCond .ne 8) 8 14 19 := ⟨by decide +kernel, rfl, by decide⟩
theorem fF_pay_14 : fAL M_F_pay 14 0 15 := Or.inl ⟨0, by decide +kernel, rfl, rfl⟩
theorem fF_pay_15 : fD M_F_pay 15 (.invokevirtual 89) 3 18 := ⟨by decide +kernel, rfl⟩
theorem fF_pay_18 : fD M_F_pay 18 .ireturn 1 19 := ⟨by decide +kernel, rfl⟩
theorem fF_pay_19 : fAL M_F_pay 19 0 20 := Or.inl ⟨0, by decide +kernel, rfl, rfl⟩
theorem fF_pay_20 : fD M_F_pay 20 (.getfield 10) 3 23 := ⟨by decide +kernel, rfl⟩
theorem fF_pay_23 : fD M_F_pay 23 (.getfield 67) 3 26 := ⟨by decide +kernel, rfl⟩
theorem fF_pay_26 : fD M_F_pay 26 (.getfield 156) 3 29 := ⟨by decide +kernel, rfl⟩
theorem fF_pay_29 : fIL M_F_pay 29 1 30 := Or.inl ⟨1, by decide +kernel, rfl, rfl⟩
theorem fF_pay_30 : fD M_F_pay 30 .iaload 1 31 := ⟨by decide +kernel, rfl⟩
theorem fF_pay_31 : fIS M_F_pay 31 2 32 := Or.inl ⟨2, by decide +kernel, rfl, rfl⟩
theorem fF_pay_32 : fAL M_F_pay 32 0 33 := Or.inl ⟨0, by decide +kernel, rfl, rfl⟩
theorem fF_pay_33 : fD M_F_pay 33 (.getfield 47) 3 36 := ⟨by decide +kernel, rfl⟩
theorem fF_pay_36 : fIL M_F_pay 36 2 37 := Or.inl ⟨2, by decide +kernel, rfl, rfl⟩
theorem fF_pay_37 : fIL M_F_pay 37 2 38 := Or.inl ⟨2, by decide +kernel, rfl, rfl⟩
theorem fF_pay_38 : fD M_F_pay 38 (.invokevirtual 129) 3 41 := ⟨by decide +kernel, rfl⟩
theorem fF_pay_41 : fAL M_F_pay 41 0 42 := Or.inl ⟨0, by decide +kernel, rfl, rfl⟩
theorem fF_pay_42 : fD M_F_pay 42 (.getfield 10) 3 45 := ⟨by decide +kernel, rfl⟩
theorem fF_pay_45 : fD M_F_pay 45 (.getfield 67) 3 48 := ⟨by decide +kernel, rfl⟩
theorem fF_pay_48 : fIL M_F_pay 48 1 49 := Or.inl ⟨1, by decide +kernel, rfl, rfl⟩
theorem fF_pay_49 : fD M_F_pay 49 (.invokevirtual 159) 3 52 := ⟨by decide +kernel, rfl⟩
theorem fF_pay_52 : fB M_F_pay 52 (.ifCond .ne 24) 24 55 76 := ⟨by decide +kernel, rfl, by decide⟩
theorem fF_pay_55 : fAL M_F_pay 55 0 56 := Or.inl ⟨0, by decide +kernel, rfl, rfl⟩
theorem fF_pay_56 : fD M_F_pay 56 (.getfield 10) 3 59 := ⟨by decide +kernel, rfl⟩
theorem fF_pay_59 : fAL M_F_pay 59 0 60 := Or.inl ⟨0, by decide +kernel, rfl, rfl⟩
theorem fF_pay_60 : fD M_F_pay 60 (.getfield 10) 3 63 := ⟨by decide +kernel, rfl⟩
theorem fF_pay_63 : fD M_F_pay 63 (.getfield 132) 3 66 := ⟨by decide +kernel, rfl⟩
theorem fF_pay_66 : fAL M_F_pay 66 0 67 := Or.inl ⟨0, by decide +kernel, rfl, rfl⟩
theorem fF_pay_67 : fD M_F_pay 67 (.getfield 47) 3 70 := ⟨by decide +kernel, rfl⟩
theorem fF_pay_70 : fD M_F_pay 70 (.invokevirtual 136) 3 73 := ⟨by decide +kernel, rfl⟩
theorem fF_pay_73 : fB M_F_pay 73 (.ifCond .ne 8) 8 76 81 := ⟨by decide +kernel, rfl, by decide⟩
theorem fF_pay_76 : fAL M_F_pay 76 0 77 := Or.inl ⟨0, by decide +kernel, rfl, rfl⟩
theorem fF_pay_77 : fD M_F_pay 77 (.invokevirtual 140) 3 80 := ⟨by decide +kernel, rfl⟩
theorem fF_pay_80 : fD M_F_pay 80 .ireturn 1 81 := ⟨by decide +kernel, rfl⟩
theorem fF_pay_81 : fAL M_F_pay 81 0 82 := Or.inl ⟨0, by decide +kernel, rfl, rfl⟩
theorem fF_pay_82 : fD M_F_pay 82 (.getfield 10) 3 85 := ⟨by decide +kernel, rfl⟩
theorem fF_pay_85 : fD M_F_pay 85 (.invokevirtual 143) 3 88 := ⟨by decide +kernel, rfl⟩
theorem fF_pay_88 : fAL M_F_pay 88 0 89 := Or.inl ⟨0, by decide +kernel, rfl, rfl⟩
theorem fF_pay_89 : fD M_F_pay 89 (.getfield 10) 3 92 := ⟨by decide +kernel, rfl⟩
theorem fF_pay_92 : fAL M_F_pay 92 0 93 := Or.inl ⟨0, by decide +kernel, rfl, rfl⟩
theorem fF_pay_93 : fD M_F_pay 93 (.getfield 10) 3 96 := ⟨by decide +kernel, rfl⟩
theorem fF_pay_96 : fD M_F_pay 96 (.getfield 132) 3 99 := ⟨by decide +kernel, rfl⟩
theorem fF_pay_99 : fAL M_F_pay 99 0 100 := Or.inl ⟨0, by decide +kernel, rfl, rfl⟩
theorem fF_pay_100 : fD M_F_pay 100 (.getfield 47) 3 103 := ⟨by decide +kernel, rfl⟩
theorem fF_pay_103 : fD M_F_pay 103 (.invokevirtual 146) 3 106 := ⟨by decide +kernel, rfl⟩
theorem fF_pay_106 : fD M_F_pay 106 .pop 1 107 := ⟨by decide +kernel, rfl⟩
theorem fF_pay_107 : fAL M_F_pay 107 0 108 := Or.inl ⟨0, by decide +kernel, rfl, rfl⟩
theorem fF_pay_108 : fD M_F_pay 108 (.getfield 10) 3 111 := ⟨by decide +kernel, rfl⟩
theorem fF_pay_111 : fD M_F_pay 111 (.getfield 67) 3 114 := ⟨by decide +kernel, rfl⟩
theorem fF_pay_114 : fIL M_F_pay 114 1 115 := Or.inl ⟨1, by decide +kernel, rfl, rfl⟩
theorem fF_pay_115 : fD M_F_pay 115 (.invokevirtual 162) 3 118 := ⟨by decide +kernel, rfl⟩
theorem fF_pay_118 : fAL M_F_pay 118 0 119 := Or.inl ⟨0, by decide +kernel, rfl, rfl⟩
theorem fF_pay_119 : fD M_F_pay 119 (.getfield 10) 3 122 := ⟨by decide +kernel, rfl⟩
theorem fF_pay_122 : fD M_F_pay 122 (.getfield 67) 3 125 := ⟨by decide +kernel, rfl⟩
theorem fF_pay_125 : fD M_F_pay 125 (.getfield 166) 3 128 := ⟨by decide +kernel, rfl⟩
theorem fF_pay_128 : fD M_F_pay 128 .ireturn 1 129 := ⟨by decide +kernel, rfl⟩
theorem fF_night_0 : fIL M_F_night 0 1 1 := Or.inl ⟨1, by decide +kernel, rfl, rfl⟩
theorem fF_night_1 : fIC M_F_night 1 1 2 := Or.inl ⟨1, by decide +kernel, by decide, rfl⟩
theorem fF_night_2 : fIC M_F_night 2 60 4 := Or.inr (Or.inl ⟨60, by decide +kernel, by decide, rfl⟩)
theorem fF_night_4 : fD M_F_night 4 (.invokestatic 85) 3 7 := ⟨by decide +kernel, rfl⟩
theorem fF_night_7 : fB M_F_night 7 (.ifCond .ne 8) 8 10 15 := ⟨by decide +kernel, rfl, by decide⟩
theorem fF_night_10 : fAL M_F_night 10 0 11 := Or.inl ⟨0, by decide +kernel, rfl, rfl⟩
theorem fF_night_11 : fD M_F_night 11 (.invokevirtual 89) 3 14 := ⟨by decide +kernel, rfl⟩
theorem fF_night_14 : fD M_F_night 14 .ireturn 1 15 := ⟨by decide +kernel, rfl⟩
theorem fF_night_15 : fAL M_F_night 15 0 16 := Or.inl ⟨0, by decide +kernel, rfl, rfl⟩
theorem fF_night_16 : fD M_F_night 16 (.getfield 10) 3 19 := ⟨by decide +kernel, rfl⟩
theorem fF_night_19 : fD M_F_night 19 (.invokevirtual 143) 3 22 := ⟨by decide +kernel, rfl⟩
theorem fF_night_22 : fAL M_F_night 22 0 23 := Or.inl ⟨0, by decide +kernel, rfl, rfl⟩
theorem fF_night_23 : fD M_F_night 23 (.getfield 10) 3 26 := ⟨by decide +kernel, rfl⟩
theorem fF_night_26 : fIL M_F_night 26 1 27 := Or.inl ⟨1, by decide +kernel, rfl, rfl⟩
theorem fF_night_27 : fD M_F_night 27 (.invokevirtual 169) 3 30 := ⟨by decide +kernel, rfl⟩
theorem fF_night_30 : fAL M_F_night 30 0 31 := Or.inl ⟨0, by decide +kernel, rfl, rfl⟩
theorem fF_night_31 : fD M_F_night 31 (.getfield 10) 3 34 := ⟨by decide +kernel, rfl⟩
theorem fF_night_34 : fD M_F_night 34 (.getfield 132) 3 37 := ⟨by decide +kernel, rfl⟩
theorem fF_night_37 : fD M_F_night 37 (.getfield 172) 3 40 := ⟨by decide +kernel, rfl⟩
theorem fF_night_40 : fD M_F_night 40 .ireturn 1 41 := ⟨by decide +kernel, rfl⟩
theorem fF_undo_0 : fAL M_F_undo 0 0 1 := Or.inl ⟨0, by decide +kernel, rfl, rfl⟩
theorem fF_undo_1 : fD M_F_undo 1 (.getfield 10) 3 4 := ⟨by decide +kernel, rfl⟩
theorem fF_undo_4 : fD M_F_undo 4 (.getfield 177) 3 7 := ⟨by decide +kernel, rfl⟩
theorem fF_undo_7 : fD M_F_undo 7 (.getfield 181) 3 10 := ⟨by decide +kernel, rfl⟩
theorem fF_undo_10 : fB M_F_undo 10 (.ifCond .gt 8) 8 13 18 := ⟨by decide +kernel, rfl, by decide⟩
theorem fF_undo_13 : fAL M_F_undo 13 0 14 := Or.inl ⟨0, by decide +kernel, rfl, rfl⟩
theorem fF_undo_14 : fD M_F_undo 14 (.invokevirtual 140) 3 17 := ⟨by decide +kernel, rfl⟩
theorem fF_undo_17 : fD M_F_undo 17 .ireturn 1 18 := ⟨by decide +kernel, rfl⟩
theorem fF_undo_18 : fAL M_F_undo 18 0 19 := Or.inl ⟨0, by decide +kernel, rfl, rfl⟩
theorem fF_undo_19 : fD M_F_undo 19 (.getfield 10) 3 22 := ⟨by decide +kernel, rfl⟩
theorem fF_undo_22 : fD M_F_undo 22 (.invokevirtual 184) 3 25 := ⟨by decide +kernel, rfl⟩
theorem fF_undo_25 : fAL M_F_undo 25 0 26 := Or.inl ⟨0, by decide +kernel, rfl, rfl⟩
theorem fF_undo_26 : fD M_F_undo 26 (.getfield 10) 3 29 := ⟨by decide +kernel, rfl⟩
theorem fF_undo_29 : fD M_F_undo 29 (.getfield 132) 3 32 := ⟨by decide +kernel, rfl⟩
theorem fF_undo_32 : fD M_F_undo 32 (.getfield 172) 3 35 := ⟨by decide +kernel, rfl⟩
theorem fF_undo_35 : fD M_F_undo 35 .ireturn 1 36 := ⟨by decide +kernel, rfl⟩
theorem fF_of_0 : fIL M_F_of 0 1 1 := Or.inl ⟨1, by decide +kernel, rfl, rfl⟩
theorem fF_of_1 : fD M_F_of 1 (.invokestatic 79) 3 4 := ⟨by decide +kernel, rfl⟩
theorem fF_of_4 : fB M_F_of 4 (.ifCond .ne 8) 8 7 12 := ⟨by decide +kernel, rfl, by decide⟩
theorem fF_of_7 : fAL M_F_of 7 0 8 := Or.inl ⟨0, by decide +kernel, rfl, rfl⟩
theorem fF_of_8 : fD M_F_of 8 (.invokevirtual 89) 3 11 := ⟨by decide +kernel, rfl⟩
theorem fF_of_11 : fD M_F_of 11 .ireturn 1 12 := ⟨by decide +kernel, rfl⟩
theorem fF_of_12 : fIL M_F_of 12 2 13 := Or.inl ⟨2, by decide +kernel, rfl, rfl⟩
theorem fF_of_13 : fD M_F_of 13 (.tableswitch 102 0 4 #[35, 45, 55, 68, 77]) 35 48 := ⟨by decide +kernel, rfl⟩
theorem fF_of_48 : fAL M_F_of 48 0 49 := Or.inl ⟨0, by decide +kernel, rfl, rfl⟩
theorem fF_of_49 : fD M_F_of 49 (.getfield 10) 3 52 := ⟨by decide +kernel, rfl⟩
theorem fF_of_52 : fD M_F_of 52 (.getfield 93) 3 55 := ⟨by decide +kernel, rfl⟩
theorem fF_of_55 : fIL M_F_of 55 1 56 := Or.inl ⟨1, by decide +kernel, rfl, rfl⟩
theorem fF_of_56 : fD M_F_of 56 .iaload 1 57 := ⟨by decide +kernel, rfl⟩
theorem fF_of_57 : fD M_F_of 57 .ireturn 1 58 := ⟨by decide +kernel, rfl⟩
theorem fF_of_58 : fAL M_F_of 58 0 59 := Or.inl ⟨0, by decide +kernel, rfl, rfl⟩
theorem fF_of_59 : fD M_F_of 59 (.getfield 10) 3 62 := ⟨by decide +kernel, rfl⟩
theorem fF_of_62 : fD M_F_of 62 (.getfield 97) 3 65 := ⟨by decide +kernel, rfl⟩
theorem fF_of_65 : fIL M_F_of 65 1 66 := Or.inl ⟨1, by decide +kernel, rfl, rfl⟩
theorem fF_of_66 : fD M_F_of 66 .iaload 1 67 := ⟨by decide +kernel, rfl⟩
theorem fF_of_67 : fD M_F_of 67 .ireturn 1 68 := ⟨by decide +kernel, rfl⟩
theorem fF_of_68 : fAL M_F_of 68 0 69 := Or.inl ⟨0, by decide +kernel, rfl, rfl⟩
theorem fF_of_69 : fD M_F_of 69 (.getfield 10) 3 72 := ⟨by decide +kernel, rfl⟩
theorem fF_of_72 : fD M_F_of 72 (.getfield 132) 3 75 := ⟨by decide +kernel, rfl⟩
theorem fF_of_75 : fD M_F_of 75 (.getfield 187) 3 78 := ⟨by decide +kernel, rfl⟩
theorem fF_of_78 : fIL M_F_of 78 1 79 := Or.inl ⟨1, by decide +kernel, rfl, rfl⟩
theorem fF_of_79 : fD M_F_of 79 .iaload 1 80 := ⟨by decide +kernel, rfl⟩
theorem fF_of_80 : fD M_F_of 80 .ireturn 1 81 := ⟨by decide +kernel, rfl⟩
theorem fF_of_81 : fAL M_F_of 81 0 82 := Or.inl ⟨0, by decide +kernel, rfl, rfl⟩
theorem fF_of_82 : fD M_F_of 82 (.getfield 10) 3 85 := ⟨by decide +kernel, rfl⟩
theorem fF_of_85 : fIL M_F_of 85 1 86 := Or.inl ⟨1, by decide +kernel, rfl, rfl⟩
theorem fF_of_86 : fD M_F_of 86 (.invokevirtual 190) 3 89 := ⟨by decide +kernel, rfl⟩
theorem fF_of_89 : fD M_F_of 89 .ireturn 1 90 := ⟨by decide +kernel, rfl⟩
theorem fF_of_90 : fAL M_F_of 90 0 91 := Or.inl ⟨0, by decide +kernel, rfl, rfl⟩
theorem fF_of_91 : fD M_F_of 91 (.getfield 10) 3 94 := ⟨by decide +kernel, rfl⟩
theorem fF_of_94 : fD M_F_of 94 (.getfield 93) 3 97 := ⟨by decide +kernel, rfl⟩
theorem fF_of_97 : fIL M_F_of 97 1 98 := Or.inl ⟨1, by decide +kernel, rfl, rfl⟩
theorem fF_of_98 : fD M_F_of 98 .iaload 1 99 := ⟨by decide +kernel, rfl⟩
theorem fF_of_99 : fAL M_F_of 99 0 100 := Or.inl ⟨0, by decide +kernel, rfl, rfl⟩
theorem fF_of_100 : fD M_F_of 100 (.getfield 10) 3 103 := ⟨by decide +kernel, rfl⟩
theorem fF_of_103 : fD M_F_of 103 (.getfield 132) 3 106 := ⟨by decide +kernel, rfl⟩
theorem fF_of_106 : fD M_F_of 106 (.getfield 187) 3 109 := ⟨by decide +kernel, rfl⟩
theorem fF_of_109 : fIL M_F_of 109 1 110 := Or.inl ⟨1, by decide +kernel, rfl, rfl⟩
theorem fF_of_110 : fD M_F_of 110 .iaload 1 111 := ⟨by decide +kernel, rfl⟩
theorem fF_of_111 : fD M_F_of 111 (.invokestatic 194) 3 114 := ⟨by decide +kernel, rfl⟩
theorem fF_of_114 : fD M_F_of 114 .ireturn 1 115 := ⟨by decide +kernel, rfl⟩
theorem fF_of_115 : fAL M_F_of 115 0 116 := Or.inl ⟨0, by decide +kernel, rfl, rfl⟩
theorem fF_of_116 : fD M_F_of 116 (.invokevirtual 89) 3 119 := ⟨by decide +kernel, rfl⟩
theorem fF_of_119 : fD M_F_of 119 .ireturn 1 120 := ⟨by decide +kernel, rfl⟩
theorem fF_about_0 : fAL M_F_about 0 0 1 := Or.inl ⟨0, by decide +kernel, rfl, rfl⟩
theorem fF_about_1 : fD M_F_about 1 (.getfield 10) 3 4 := ⟨by decide +kernel, rfl⟩
theorem fF_about_4 : fD M_F_about 4 (.getfield 67) 3 7 := ⟨by decide +kernel, rfl⟩
theorem fF_about_7 : fIL M_F_about 7 1 8 := Or.inl ⟨1, by decide +kernel, rfl, rfl⟩
theorem fF_about_8 : fD M_F_about 8 (.invokevirtual 153) 3 11 := ⟨by decide +kernel, rfl⟩
theorem fF_about_11 : fB M_F_about 11 (.ifCond .ne 8) 8 14 19 := ⟨by decide +kernel, rfl, by decide⟩
theorem fF_about_14 : fAL M_F_about 14 0 15 := Or.inl ⟨0, by decide +kernel, rfl, rfl⟩
theorem fF_about_15 : fD M_F_about 15 (.invokevirtual 89) 3 18 := ⟨by decide +kernel, rfl⟩
theorem fF_about_18 : fD M_F_about 18 .ireturn 1 19 := ⟨by decide +kernel, rfl⟩
theorem fF_about_19 : fIL M_F_about 19 2 20 := Or.inl ⟨2, by decide +kernel, rfl, rfl⟩
theorem fF_about_20 : fD M_F_about 20 (.tableswitch 74 0 2 #[28, 41, 54]) 28 48 := ⟨by decide +kernel, rfl⟩
theorem fF_about_48 : fAL M_F_about 48 0 49 := Or.inl ⟨0, by decide +kernel, rfl, rfl⟩
theorem fF_about_49 : fD M_F_about 49 (.getfield 10) 3 52 := ⟨by decide +kernel, rfl⟩
theorem fF_about_52 : fD M_F_about 52 (.getfield 67) 3 55 := ⟨by decide +kernel, rfl⟩
theorem fF_about_55 : fD M_F_about 55 (.getfield 156) 3 58 := ⟨by decide +kernel, rfl⟩
theorem fF_about_58 : fIL M_F_about 58 1 59 := Or.inl ⟨1, by decide +kernel, rfl, rfl⟩
theorem fF_about_59 : fD M_F_about 59 .iaload 1 60 := ⟨by decide +kernel, rfl⟩
theorem fF_about_60 : fD M_F_about 60 .ireturn 1 61 := ⟨by decide +kernel, rfl⟩
theorem fF_about_61 : fAL M_F_about 61 0 62 := Or.inl ⟨0, by decide +kernel, rfl, rfl⟩
theorem fF_about_62 : fD M_F_about 62 (.getfield 10) 3 65 := ⟨by decide +kernel, rfl⟩
theorem fF_about_65 : fD M_F_about 65 (.getfield 67) 3 68 := ⟨by decide +kernel, rfl⟩
theorem fF_about_68 : fD M_F_about 68 (.getfield 198) 3 71 := ⟨by decide +kernel, rfl⟩
theorem fF_about_71 : fIL M_F_about 71 1 72 := Or.inl ⟨1, by decide +kernel, rfl, rfl⟩
theorem fF_about_72 : fD M_F_about 72 .iaload 1 73 := ⟨by decide +kernel, rfl⟩
theorem fF_about_73 : fD M_F_about 73 .ireturn 1 74 := ⟨by decide +kernel, rfl⟩
theorem fF_about_74 : fAL M_F_about 74 0 75 := Or.inl ⟨0, by decide +kernel, rfl, rfl⟩
theorem fF_about_75 : fD M_F_about 75 (.getfield 10) 3 78 := ⟨by decide +kernel, rfl⟩
theorem fF_about_78 : fD M_F_about 78 (.getfield 67) 3 81 := ⟨by decide +kernel, rfl⟩
theorem fF_about_81 : fIL M_F_about 81 1 82 := Or.inl ⟨1, by decide +kernel, rfl, rfl⟩
theorem fF_about_82 : fD M_F_about 82 (.invokevirtual 159) 3 85 := ⟨by decide +kernel, rfl⟩
theorem fF_about_85 : fB M_F_about 85 (.ifCond .eq 7) 7 88 92 := ⟨by decide +kernel, rfl, by decide⟩
theorem fF_about_88 : fIC M_F_about 88 1 89 := Or.inl ⟨1, by decide +kernel, by decide, rfl⟩
theorem fF_about_89 : fB M_F_about 89 (.goto 4) 4 92 93 := ⟨by decide +kernel, rfl, by decide⟩
theorem fF_about_92 : fIC M_F_about 92 0 93 := Or.inl ⟨0, by decide +kernel, by decide, rfl⟩
theorem fF_about_93 : fD M_F_about 93 .ireturn 1 94 := ⟨by decide +kernel, rfl⟩
theorem fF_about_94 : fAL M_F_about 94 0 95 := Or.inl ⟨0, by decide +kernel, rfl, rfl⟩
theorem fF_about_95 : fD M_F_about 95 (.invokevirtual 89) 3 98 := ⟨by decide +kernel, rfl⟩
theorem fF_about_98 : fD M_F_about 98 .ireturn 1 99 := ⟨by decide +kernel, rfl⟩
theorem fF_wears_0 : fIL M_F_wears 0 1 1 := Or.inl ⟨1, by decide +kernel, rfl, rfl⟩
theorem fF_wears_1 : fD M_F_wears 1 (.invokestatic 79) 3 4 := ⟨by decide +kernel, rfl⟩
theorem fF_wears_4 : fB M_F_wears 4 (.ifCond .eq 10) 10 7 14 := ⟨by decide +kernel, rfl, by decide⟩
theorem fF_wears_7 : fIL M_F_wears 7 2 8 := Or.inl ⟨2, by decide +kernel, rfl, rfl⟩
theorem fF_wears_8 : fD M_F_wears 8 (.invokestatic 201) 3 11 := ⟨by decide +kernel, rfl⟩
theorem fF_wears_11 : fB M_F_wears 11 (.ifCond .ne 8) 8 14 19 := ⟨by decide +kernel, rfl, by decide⟩
theorem fF_wears_14 : fAL M_F_wears 14 0 15 := Or.inl ⟨0, by decide +kernel, rfl, rfl⟩
theorem fF_wears_15 : fD M_F_wears 15 (.invokevirtual 89) 3 18 := ⟨by decide +kernel, rfl⟩
theorem fF_wears_18 : fD M_F_wears 18 .ireturn 1 19 := ⟨by decide +kernel, rfl⟩
theorem fF_wears_19 : fAL M_F_wears 19 0 20 := Or.inl ⟨0, by decide +kernel, rfl, rfl⟩
theorem fF_wears_20 : fD M_F_wears 20 (.getfield 10) 3 23 := ⟨by decide +kernel, rfl⟩
theorem fF_wears_23 : fD M_F_wears 23 (.getfield 93) 3 26 := ⟨by decide +kernel, rfl⟩
theorem fF_wears_26 : fIL M_F_wears 26 1 27 := Or.inl ⟨1, by decide +kernel, rfl, rfl⟩
theorem fF_wears_27 : fD M_F_wears 27 .iaload 1 28 := ⟨by decide +kernel, rfl⟩
theorem fF_wears_28 : fIL M_F_wears 28 2 29 := Or.inl ⟨2, by decide +kernel, rfl, rfl⟩
theorem fF_wears_29 : fAL M_F_wears 29 0 30 := Or.inl ⟨0, by decide +kernel, rfl, rfl⟩
theorem fF_wears_30 : fD M_F_wears 30 (.getfield 10) 3 33 := ⟨by decide +kernel, rfl⟩
theorem fF_wears_33 : fD M_F_wears 33 (.getfield 132) 3 36 := ⟨by decide +kernel, rfl⟩
theorem fF_wears_36 : fD M_F_wears 36 (.getfield 172) 3 39 := ⟨by decide +kernel, rfl⟩
theorem fF_wears_39 : fD M_F_wears 39 (.invokestatic 204) 3 42 := ⟨by decide +kernel, rfl⟩
theorem fF_wears_42 : fD M_F_wears 42 .ireturn 1 43 := ⟨by decide +kernel, rfl⟩
theorem fF_cost_0 : fIL M_F_cost 0 1 1 := Or.inl ⟨1, by decide +kernel, rfl, rfl⟩
theorem fF_cost_1 : fD M_F_cost 1 (.invokestatic 104) 3 4 := ⟨by decide +kernel, rfl⟩
theorem fF_cost_4 : fB M_F_cost 4 (.ifCond .eq 10) 10 7 14 := ⟨by decide +kernel, rfl, by decide⟩
theorem fF_cost_7 : fIL M_F_cost 7 2 8 := Or.inl ⟨2, by decide +kernel, rfl, rfl⟩
theorem fF_cost_8 : fD M_F_cost 8 (.invokestatic 104) 3 11 := ⟨by decide +kernel, rfl⟩
theorem fF_cost_11 : fB M_F_cost 11 (.ifCond .ne 8) 8 14 19 := ⟨by decide +kernel, rfl, by decide⟩
theorem fF_cost_14 : fAL M_F_cost 14 0 15 := Or.inl ⟨0, by decide +kernel, rfl, rfl⟩
theorem fF_cost_15 : fD M_F_cost 15 (.invokevirtual 89) 3 18 := ⟨by decide +kernel, rfl⟩
theorem fF_cost_18 : fD M_F_cost 18 .ireturn 1 19 := ⟨by decide +kernel, rfl⟩
theorem fF_cost_19 : fAL M_F_cost 19 0 20 := Or.inl ⟨0, by decide +kernel, rfl, rfl⟩
theorem fF_cost_20 : fD M_F_cost 20 (.getfield 47) 3 23 := ⟨by decide +kernel, rfl⟩
theorem fF_cost_23 : fIL M_F_cost 23 1 24 := Or.inl ⟨1, by decide +kernel, rfl, rfl⟩
theorem fF_cost_24 : fIL M_F_cost 24 2 25 := Or.inl ⟨2, by decide +kernel, rfl, rfl⟩
theorem fF_cost_25 : fD M_F_cost 25 (.invokevirtual 129) 3 28 := ⟨by decide +kernel, rfl⟩
theorem fF_cost_28 : fAL M_F_cost 28 0 29 := Or.inl ⟨0, by decide +kernel, rfl, rfl⟩
theorem fF_cost_29 : fD M_F_cost 29 (.getfield 10) 3 32 := ⟨by decide +kernel, rfl⟩
theorem fF_cost_32 : fAL M_F_cost 32 0 33 := Or.inl ⟨0, by decide +kernel, rfl, rfl⟩
theorem fF_cost_33 : fD M_F_cost 33 (.getfield 47) 3 36 := ⟨by decide +kernel, rfl⟩
theorem fF_cost_36 : fD M_F_cost 36 (.invokevirtual 149) 3 39 := ⟨by decide +kernel, rfl⟩
theorem fF_cost_39 : fD M_F_cost 39 .ireturn 1 40 := ⟨by decide +kernel, rfl⟩
theorem fF_can_0 : fIL M_F_can 0 1 1 := Or.inl ⟨1, by decide +kernel, rfl, rfl⟩
theorem fF_can_1 : fD M_F_can 1 (.invokestatic 104) 3 4 := ⟨by decide +kernel, rfl⟩
theorem fF_can_4 : fB M_F_can 4 (.ifCond .eq 10) 10 7 14 := ⟨by decide +kernel, rfl, by decide⟩
theorem fF_can_7 : fIL M_F_can 7 2 8 := Or.inl ⟨2, by decide +kernel, rfl, rfl⟩
theorem fF_can_8 : fD M_F_can 8 (.invokestatic 104) 3 11 := ⟨by decide +kernel, rfl⟩
theorem fF_can_11 : fB M_F_can 11 (.ifCond .ne 8) 8 14 19 := ⟨by decide +kernel, rfl, by decide⟩
theorem fF_can_14 : fAL M_F_can 14 0 15 := Or.inl ⟨0, by decide +kernel, rfl, rfl⟩
theorem fF_can_15 : fD M_F_can 15 (.invokevirtual 89) 3 18 := ⟨by decide +kernel, rfl⟩
theorem fF_can_18 : fD M_F_can 18 .ireturn 1 19 := ⟨by decide +kernel, rfl⟩
theorem fF_can_19 : fAL M_F_can 19 0 20 := Or.inl ⟨0, by decide +kernel, rfl, rfl⟩
theorem fF_can_20 : fD M_F_can 20 (.getfield 47) 3 23 := ⟨by decide +kernel, rfl⟩
theorem fF_can_23 : fIL M_F_can 23 1 24 := Or.inl ⟨1, by decide +kernel, rfl, rfl⟩
theorem fF_can_24 : fIL M_F_can 24 2 25 := Or.inl ⟨2, by decide +kernel, rfl, rfl⟩
theorem fF_can_25 : fD M_F_can 25 (.invokevirtual 129) 3 28 := ⟨by decide +kernel, rfl⟩
theorem fF_can_28 : fAL M_F_can 28 0 29 := Or.inl ⟨0, by decide +kernel, rfl, rfl⟩
theorem fF_can_29 : fD M_F_can 29 (.getfield 10) 3 32 := ⟨by decide +kernel, rfl⟩
theorem fF_can_32 : fAL M_F_can 32 0 33 := Or.inl ⟨0, by decide +kernel, rfl, rfl⟩
theorem fF_can_33 : fD M_F_can 33 (.getfield 10) 3 36 := ⟨by decide +kernel, rfl⟩
theorem fF_can_36 : fD M_F_can 36 (.getfield 132) 3 39 := ⟨by decide +kernel, rfl⟩
theorem fF_can_39 : fAL M_F_can 39 0 40 := Or.inl ⟨0, by decide +kernel, rfl, rfl⟩
theorem fF_can_40 : fD M_F_can 40 (.getfield 47) 3 43 := ⟨by decide +kernel, rfl⟩
theorem fF_can_43 : fD M_F_can 43 (.invokevirtual 136) 3 46 := ⟨by decide +kernel, rfl⟩
theorem fF_can_46 : fB M_F_can 46 (.ifCond .eq 7) 7 49 53 := ⟨by decide +kernel, rfl, by decide⟩
theorem fF_can_49 : fIC M_F_can 49 1 50 := Or.inl ⟨1, by decide +kernel, by decide, rfl⟩
theorem fF_can_50 : fB M_F_can 50 (.goto 4) 4 53 54 := ⟨by decide +kernel, rfl, by decide⟩
theorem fF_can_53 : fIC M_F_can 53 0 54 := Or.inl ⟨0, by decide +kernel, by decide, rfl⟩
theorem fF_can_54 : fD M_F_can 54 .ireturn 1 55 := ⟨by decide +kernel, rfl⟩
theorem fF_best_0 : fIL M_F_best 0 1 1 := Or.inl ⟨1, by decide +kernel, rfl, rfl⟩
theorem fF_best_1 : fD M_F_best 1 (.invokestatic 104) 3 4 := ⟨by decide +kernel, rfl⟩
theorem fF_best_4 : fB M_F_best 4 (.ifCond .ne 8) 8 7 12 := ⟨by decide +kernel, rfl, by decide⟩
theorem fF_best_7 : fAL M_F_best 7 0 8 := Or.inl ⟨0, by decide +kernel, rfl, rfl⟩
theorem fF_best_8 : fD M_F_best 8 (.invokevirtual 89) 3 11 := ⟨by decide +kernel, rfl⟩
theorem fF_best_11 : fD M_F_best 11 .ireturn 1 12 := ⟨by decide +kernel, rfl⟩
theorem fF_best_12 : fAL M_F_best 12 0 13 := Or.inl ⟨0, by decide +kernel, rfl, rfl⟩
theorem fF_best_13 : fD M_F_best 13 (.getfield 26) 3 16 := ⟨by decide +kernel, rfl⟩
theorem fF_best_16 : fAL M_F_best 16 0 17 := Or.inl ⟨0, by decide +kernel, rfl, rfl⟩
theorem fF_best_17 : fD M_F_best 17 (.getfield 10) 3 20 := ⟨by decide +kernel, rfl⟩
theorem fF_best_20 : fIL M_F_best 20 1 21 := Or.inl ⟨1, by decide +kernel, rfl, rfl⟩
theorem fF_best_21 : fD M_F_best 21 (.invokevirtual 208) 3 24 := ⟨by decide +kernel, rfl⟩
theorem fF_best_24 : fD M_F_best 24 .ireturn 1 25 := ⟨by decide +kernel, rfl⟩
theorem fF_first_0 : fAL M_F_first 0 0 1 := Or.inl ⟨0, by decide +kernel, rfl, rfl⟩
theorem fF_first_1 : fD M_F_first 1 (.getfield 26) 3 4 := ⟨by decide +kernel, rfl⟩
theorem fF_first_4 : fAL M_F_first 4 0 5 := Or.inl ⟨0, by decide +kernel, rfl, rfl⟩
theorem fF_first_5 : fD M_F_first 5 (.getfield 10) 3 8 := ⟨by decide +kernel, rfl⟩
theorem fF_first_8 : fD M_F_first 8 (.invokevirtual 212) 3 11 := ⟨by decide +kernel, rfl⟩
theorem fF_first_11 : fD M_F_first 11 .ireturn 1 12 := ⟨by decide +kernel, rfl⟩
theorem fF_counts_0 : fAL M_F_counts 0 0 1 := Or.inl ⟨0, by decide +kernel, rfl, rfl⟩
theorem fF_counts_1 : fD M_F_counts 1 (.getfield 26) 3 4 := ⟨by decide +kernel, rfl⟩
theorem fF_counts_4 : fAL M_F_counts 4 0 5 := Or.inl ⟨0, by decide +kernel, rfl, rfl⟩
theorem fF_counts_5 : fD M_F_counts 5 (.getfield 10) 3 8 := ⟨by decide +kernel, rfl⟩
theorem fF_counts_8 : fD M_F_counts 8 (.invokevirtual 215) 3 11 := ⟨by decide +kernel, rfl⟩
theorem fF_counts_11 : fD M_F_counts 11 .ireturn 1 12 := ⟨by decide +kernel, rfl⟩
theorem fF_when_0 : fIL M_F_when 0 1 1 := Or.inl ⟨1, by decide +kernel, rfl, rfl⟩
theorem fF_when_1 : fD M_F_when 1 (.invokestatic 104) 3 4 := ⟨by decide +kernel, rfl⟩
theorem fF_when_4 : fB M_F_when 4 (.ifCond .eq 10) 10 7 14 := ⟨by decide +kernel, rfl, by decide⟩
theorem fF_when_7 : fIL M_F_when 7 2 8 := Or.inl ⟨2, by decide +kernel, rfl, rfl⟩
theorem fF_when_8 : fD M_F_when 8 (.invokestatic 104) 3 11 := ⟨by decide +kernel, rfl⟩
theorem fF_when_11 : fB M_F_when 11 (.ifCond .ne 8) 8 14 19 := ⟨by decide +kernel, rfl, by decide⟩
theorem fF_when_14 : fAL M_F_when 14 0 15 := Or.inl ⟨0, by decide +kernel, rfl, rfl⟩
theorem fF_when_15 : fD M_F_when 15 (.invokevirtual 89) 3 18 := ⟨by decide +kernel, rfl⟩
theorem fF_when_18 : fD M_F_when 18 .ireturn 1 19 := ⟨by decide +kernel, rfl⟩
theorem fF_when_19 : fAL M_F_when 19 0 20 := Or.inl ⟨0, by decide +kernel, rfl, rfl⟩
theorem fF_when_20 : fD M_F_when 20 (.getfield 26) 3 23 := ⟨by decide +kernel, rfl⟩
theorem fF_when_23 : fAL M_F_when 23 0 24 := Or.inl ⟨0, by decide +kernel, rfl, rfl⟩
theorem fF_when_24 : fD M_F_when 24 (.getfield 10) 3 27 := ⟨by decide +kernel, rfl⟩
theorem fF_when_27 : fIL M_F_when 27 1 28 := Or.inl ⟨1, by decide +kernel, rfl, rfl⟩
theorem fF_when_28 : fIL M_F_when 28 2 29 := Or.inl ⟨2, by decide +kernel, rfl, rfl⟩
theorem fF_when_29 : fD M_F_when 29 (.invokevirtual 218) 3 32 := ⟨by decide +kernel, rfl⟩
theorem fF_when_32 : fD M_F_when 32 .ireturn 1 33 := ⟨by decide +kernel, rfl⟩
theorem fF_most_0 : fIL M_F_most 0 1 1 := Or.inl ⟨1, by decide +kernel, rfl, rfl⟩
theorem fF_most_1 : fIC M_F_most 1 0 2 := Or.inl ⟨0, by decide +kernel, by decide, rfl⟩
theorem fF_most_2 : fIC M_F_most 2 1 3 := Or.inl ⟨1, by decide +kernel, by decide, rfl⟩
theorem fF_most_3 : fD M_F_most 3 (.invokestatic 85) 3 6 := ⟨by decide +kernel, rfl⟩
theorem fF_most_6 : fB M_F_most 6 (.ifCond .ne 8) 8 9 14 := ⟨by decide +kernel, rfl, by decide⟩
theorem fF_most_9 : fAL M_F_most 9 0 10 := Or.inl ⟨0, by decide +kernel, rfl, rfl⟩
theorem fF_most_10 : fD M_F_most 10 (.invokevirtual 89) 3 13 := ⟨by decide +kernel, rfl⟩
theorem fF_most_13 : fD M_F_most 13 .ireturn 1 14 := ⟨by decide +kernel, rfl⟩
theorem fF_most_14 : fAL M_F_most 14 0 15 := Or.inl ⟨0, by decide +kernel, rfl, rfl⟩
theorem fF_most_15 : fD M_F_most 15 (.getfield 26) 3 18 := ⟨by decide +kernel, rfl⟩
theorem fF_most_18 : fAL M_F_most 18 0 19 := Or.inl ⟨0, by decide +kernel, rfl, rfl⟩
theorem fF_most_19 : fD M_F_most 19 (.getfield 10) 3 22 := ⟨by decide +kernel, rfl⟩
theorem fF_most_22 : fD M_F_most 22 (.invokevirtual 222) 3 25 := ⟨by decide +kernel, rfl⟩
theorem fF_most_25 : fIS M_F_most 25 2 26 := Or.inl ⟨2, by decide +kernel, rfl, rfl⟩
theorem fF_most_26 : fIL M_F_most 26 1 27 := Or.inl ⟨1, by decide +kernel, rfl, rfl⟩
theorem fF_most_27 : fB M_F_most 27 (.ifCond .ne 7) 7 30 34 := ⟨by decide +kernel, rfl, by decide⟩
theorem fF_most_30 : fIL M_F_most 30 2 31 := Or.inl ⟨2, by decide +kernel, rfl, rfl⟩
theorem fF_most_31 : fB M_F_most 31 (.goto 14) 14 34 45 := ⟨by decide +kernel, rfl, by decide⟩
theorem fF_most_34 : fAL M_F_most 34 0 35 := Or.inl ⟨0, by decide +kernel, rfl, rfl⟩
theorem fF_most_35 : fD M_F_most 35 (.getfield 10) 3 38 := ⟨by decide +kernel, rfl⟩
theorem fF_most_38 : fD M_F_most 38 (.getfield 67) 3 41 := ⟨by decide +kernel, rfl⟩
theorem fF_most_41 : fIL M_F_most 41 2 42 := Or.inl ⟨2, by decide +kernel, rfl, rfl⟩
theorem fF_most_42 : fD M_F_most 42 (.invokevirtual 225) 3 45 := ⟨by decide +kernel, rfl⟩
theorem fF_most_45 : fD M_F_most 45 .ireturn 1 46 := ⟨by decide +kernel, rfl⟩
theorem fF_plan_0 : fIL M_F_plan 0 1 1 := Or.inl ⟨1, by decide +kernel, rfl, rfl⟩
theorem fF_plan_1 : fIC M_F_plan 1 (-1) 2 := Or.inl ⟨(-1), by decide +kernel, by decide, rfl⟩
theorem fF_plan_2 : fB M_F_plan 2 (.if_icmp .eq 25) 25 5 27 := ⟨by decide +kernel, rfl, by decide⟩
theorem fF_plan_5 : fAL M_F_plan 5 0 6 := Or.inl ⟨0, by decide +kernel, rfl, rfl⟩
theorem fF_plan_6 : fD M_F_plan 6 (.getfield 10) 3 9 := ⟨by decide +kernel, rfl⟩
theorem fF_plan_9 : fD M_F_plan 9 (.getfield 67) 3 12 := ⟨by decide +kernel, rfl⟩
theorem fF_plan_12 : fIL M_F_plan 12 1 13 := Or.inl ⟨1, by decide +kernel, rfl, rfl⟩
theorem fF_plan_13 : fD M_F_plan 13 (.invokevirtual 153) 3 16 := ⟨by decide +kernel, rfl⟩
theorem fF_plan_16 : fB M_F_plan 16 (.ifCond .ne 11) 11 19 27 := ⟨by decide +kernel, rfl, by decide⟩
theorem fF_plan_19 : fAL M_F_plan 19 0 20 := Or.inl ⟨0, by decide +kernel, rfl, rfl⟩
theorem fF_plan_20 : fD M_F_plan 20 (.invokevirtual 89) 3 23 := ⟨by decide +kernel, rfl⟩
theorem fF_plan_23 : fD M_F_plan 23 .pop 1 24 := ⟨by decide +kernel, rfl⟩
theorem fF_plan_24 : fIC M_F_plan 24 (-10) 26 := Or.inr (Or.inl ⟨(-10), by decide +kernel, by decide, rfl⟩)
theorem fF_plan_26 : fD M_F_plan 26 .ireturn 1 27 := ⟨by decide +kernel, rfl⟩
theorem fF_plan_27 : fAL M_F_plan 27 0 28 := Or.inl ⟨0, by decide +kernel, rfl, rfl⟩
theorem fF_plan_28 : fD M_F_plan 28 (.getfield 26) 3 31 := ⟨by decide +kernel, rfl⟩
theorem fF_plan_31 : fAL M_F_plan 31 0 32 := Or.inl ⟨0, by decide +kernel, rfl, rfl⟩
theorem fF_plan_32 : fD M_F_plan 32 (.getfield 10) 3 35 := ⟨by decide +kernel, rfl⟩
theorem fF_plan_35 : fD M_F_plan 35 (.invokevirtual 228) 3 38 := ⟨by decide +kernel, rfl⟩
theorem fF_plan_38 : fIS M_F_plan 38 2 39 := Or.inl ⟨2, by decide +kernel, rfl, rfl⟩
theorem fF_plan_39 : fIL M_F_plan 39 1 40 := Or.inl ⟨1, by decide +kernel, rfl, rfl⟩
theorem fF_plan_40 : fIC M_F_plan 40 (-1) 41 := Or.inl ⟨(-1), by decide +kernel, by decide, rfl⟩
theorem fF_plan_41 : fB M_F_plan 41 (.if_icmp .ne 7) 7 44 48 := ⟨by decide +kernel, rfl, by decide⟩
theorem fF_plan_44 : fIL M_F_plan 44 2 45 := Or.inl ⟨2, by decide +kernel, rfl, rfl⟩
theorem fF_plan_45 : fB M_F_plan 45 (.goto 11) 11 48 56 := ⟨by decide +kernel, rfl, by decide⟩
theorem fF_plan_48 : fAL M_F_plan 48 0 49 := Or.inl ⟨0, by decide +kernel, rfl, rfl⟩
theorem fF_plan_49 : fD M_F_plan 49 (.getfield 26) 3 52 := ⟨by decide +kernel, rfl⟩
theorem fF_plan_52 : fIL M_F_plan 52 1 53 := Or.inl ⟨1, by decide +kernel, rfl, rfl⟩
theorem fF_plan_53 : fD M_F_plan 53 (.invokevirtual 231) 3 56 := ⟨by decide +kernel, rfl⟩
theorem fF_plan_56 : fD M_F_plan 56 .ireturn 1 57 := ⟨by decide +kernel, rfl⟩
theorem fF_wanted_0 : fIL M_F_wanted 0 1 1 := Or.inl ⟨1, by decide +kernel, rfl, rfl⟩
theorem fF_wanted_1 : fIC M_F_wanted 1 0 2 := Or.inl ⟨0, by decide +kernel, by decide, rfl⟩
theorem fF_wanted_2 : fIC M_F_wanted 2 1 3 := Or.inl ⟨1, by decide +kernel, by decide, rfl⟩
theorem fF_wanted_3 : fD M_F_wanted 3 (.invokestatic 85) 3 6 := ⟨by decide +kernel, rfl⟩
theorem fF_wanted_6 : fB M_F_wanted 6 (.ifCond .ne 8) 8 9 14 := ⟨by decide +kernel, rfl, by decide⟩
theorem fF_wanted_9 : fAL M_F_wanted 9 0 10 := Or.inl ⟨0, by decide +kernel, rfl, rfl⟩
theorem fF_wanted_10 : fD M_F_wanted 10 (.invokevirtual 89) 3 13 := ⟨by decide +kernel, rfl⟩
theorem fF_wanted_13 : fD M_F_wanted 13 .ireturn 1 14 := ⟨by decide +kernel, rfl⟩
theorem fF_wanted_14 : fAL M_F_wanted 14 0 15 := Or.inl ⟨0, by decide +kernel, rfl, rfl⟩
theorem fF_wanted_15 : fD M_F_wanted 15 (.getfield 26) 3 18 := ⟨by decide +kernel, rfl⟩
theorem fF_wanted_18 : fAL M_F_wanted 18 0 19 := Or.inl ⟨0, by decide +kernel, rfl, rfl⟩
theorem fF_wanted_19 : fD M_F_wanted 19 (.getfield 10) 3 22 := ⟨by decide +kernel, rfl⟩
theorem fF_wanted_22 : fD M_F_wanted 22 (.invokevirtual 234) 3 25 := ⟨by decide +kernel, rfl⟩
theorem fF_wanted_25 : fIS M_F_wanted 25 2 26 := Or.inl ⟨2, by decide +kernel, rfl, rfl⟩
theorem fF_wanted_26 : fIL M_F_wanted 26 1 27 := Or.inl ⟨1, by decide +kernel, rfl, rfl⟩
theorem fF_wanted_27 : fB M_F_wanted 27 (.ifCond .ne 7) 7 30 34 := ⟨by decide +kernel, rfl, by decide⟩
theorem fF_wanted_30 : fIL M_F_wanted 30 2 31 := Or.inl ⟨2, by decide +kernel, rfl, rfl⟩
theorem fF_wanted_31 : fB M_F_wanted 31 (.goto 15) 15 34 46 := ⟨by decide +kernel, rfl, by decide⟩
theorem fF_wanted_34 : fAL M_F_wanted 34 0 35 := Or.inl ⟨0, by decide +kernel, rfl, rfl⟩
theorem fF_wanted_35 : fD M_F_wanted 35 (.getfield 26) 3 38 := ⟨by decide +kernel, rfl⟩
theorem fF_wanted_38 : fAL M_F_wanted 38 0 39 := Or.inl ⟨0, by decide +kernel, rfl, rfl⟩
theorem fF_wanted_39 : fD M_F_wanted 39 (.getfield 10) 3 42 := ⟨by decide +kernel, rfl⟩
theorem fF_wanted_42 : fIL M_F_wanted 42 2 43 := Or.inl ⟨2, by decide +kernel, rfl, rfl⟩
theorem fF_wanted_43 : fD M_F_wanted 43 (.invokevirtual 237) 3 46 := ⟨by decide +kernel, rfl⟩
theorem fF_wanted_46 : fD M_F_wanted 46 .ireturn 1 47 := ⟨by decide +kernel, rfl⟩
theorem fF_trace_0 : fIL M_F_trace 0 1 1 := Or.inl ⟨1, by decide +kernel, rfl, rfl⟩
theorem fF_trace_1 : fD M_F_trace 1 (.invokestatic 79) 3 4 := ⟨by decide +kernel, rfl⟩
theorem fF_trace_4 : fB M_F_trace 4 (.ifCond .eq 13) 13 7 17 := ⟨by decide +kernel, rfl, by decide⟩
theorem fF_trace_7 : fIL M_F_trace 7 2 8 := Or.inl ⟨2, by decide +kernel, rfl, rfl⟩
theorem fF_trace_8 : fIC M_F_trace 8 0 9 := Or.inl ⟨0, by decide +kernel, by decide, rfl⟩
theorem fF_trace_9 : fIC M_F_trace 9 40 11 := Or.inr (Or.inl ⟨40, by decide +kernel, by decide, rfl⟩)
theorem fF_trace_11 : fD M_F_trace 11 (.invokestatic 85) 3 14 := ⟨by decide +kernel, rfl⟩
theorem fF_trace_14 : fB M_F_trace 14 (.ifCond .ne 8) 8 17 22 := ⟨by decide +kernel, rfl, by decide⟩
theorem fF_trace_17 : fAL M_F_trace 17 0 18 := Or.inl ⟨0, by decide +kernel, rfl, rfl⟩
theorem fF_trace_18 : fD M_F_trace 18 (.invokevirtual 89) 3 21 := ⟨by decide +kernel, rfl⟩
theorem fF_trace_21 : fD M_F_trace 21 .ireturn 1 22 := ⟨by decide +kernel, rfl⟩
theorem fF_trace_22 : fAL M_F_trace 22 0 23 := Or.inl ⟨0, by decide +kernel, rfl, rfl⟩
theorem fF_trace_23 : fD M_F_trace 23 (.getfield 10) 3 26 := ⟨by decide +kernel, rfl⟩
theorem fF_trace_26 : fD M_F_trace 26 (.getfield 240) 3 29 := ⟨by decide +kernel, rfl⟩
theorem fF_trace_29 : fD M_F_trace 29 (.getfield 244) 3 32 := ⟨by decide +kernel, rfl⟩
theorem fF_trace_32 : fIC M_F_trace 32 6 34 := Or.inr (Or.inl ⟨6, by decide +kernel, by decide, rfl⟩)
theorem fF_trace_34 : fB M_F_trace 34 (.if_icmp .lt 8) 8 37 42 := ⟨by decide +kernel, rfl, by decide⟩
theorem fF_trace_37 : fAL M_F_trace 37 0 38 := Or.inl ⟨0, by decide +kernel, rfl, rfl⟩
theorem fF_trace_38 : fD M_F_trace 38 (.invokevirtual 107) 3 41 := ⟨by decide +kernel, rfl⟩
theorem fF_trace_41 : fD M_F_trace 41 .ireturn 1 42 := ⟨by decide +kernel, rfl⟩
theorem fF_trace_42 : fAL M_F_trace 42 0 43 := Or.inl ⟨0, by decide +kernel, rfl, rfl⟩
theorem fF_trace_43 : fD M_F_trace 43 (.getfield 10) 3 46 := ⟨by decide +kernel, rfl⟩
theorem fF_trace_46 : fD M_F_trace 46 (.getfield 240) 3 49 := ⟨by decide +kernel, rfl⟩
theorem fF_trace_49 : fIL M_F_trace 49 1 50 := Or.inl ⟨1, by decide +kernel, rfl, rfl⟩
theorem fF_trace_50 : fIL M_F_trace 50 2 51 := Or.inl ⟨2, by decide +kernel, rfl, rfl⟩
theorem fF_trace_51 : fD M_F_trace 51 (.invokevirtual 249) 3 54 := ⟨by decide +kernel, rfl⟩
theorem fF_trace_54 : fAL M_F_trace 54 0 55 := Or.inl ⟨0, by decide +kernel, rfl, rfl⟩
theorem fF_trace_55 : fD M_F_trace 55 (.getfield 10) 3 58 := ⟨by decide +kernel, rfl⟩
theorem fF_trace_58 : fD M_F_trace 58 (.getfield 240) 3 61 := ⟨by decide +kernel, rfl⟩
theorem fF_trace_61 : fD M_F_trace 61 (.getfield 244) 3 64 := ⟨by decide +kernel, rfl⟩
theorem fF_trace_64 : fD M_F_trace 64 .ireturn 1 65 := ⟨by decide +kernel, rfl⟩
theorem fF_which_0 : fIL M_F_which 0 1 1 := Or.inl ⟨1, by decide +kernel, rfl, rfl⟩
theorem fF_which_1 : fIC M_F_which 1 (-1) 2 := Or.inl ⟨(-1), by decide +kernel, by decide, rfl⟩
theorem fF_which_2 : fB M_F_which 2 (.if_icmp .ge 11) 11 5 13 := ⟨by decide +kernel, rfl, by decide⟩
theorem fF_which_5 : fAL M_F_which 5 0 6 := Or.inl ⟨0, by decide +kernel, rfl, rfl⟩
theorem fF_which_6 : fD M_F_which 6 (.invokevirtual 89) 3 9 := ⟨by decide +kernel, rfl⟩
theorem fF_which_9 : fD M_F_which 9 .pop 1 10 := ⟨by decide +kernel, rfl⟩
theorem fF_which_10 : fIC M_F_which 10 (-10) 12 := Or.inr (Or.inl ⟨(-10), by decide +kernel, by decide, rfl⟩)
theorem fF_which_12 : fD M_F_which 12 .ireturn 1 13 := ⟨by decide +kernel, rfl⟩
theorem fF_which_13 : fIL M_F_which 13 1 14 := Or.inl ⟨1, by decide +kernel, rfl, rfl⟩
theorem fF_which_14 : fIC M_F_which 14 (-1) 15 := Or.inl ⟨(-1), by decide +kernel, by decide, rfl⟩
theorem fF_which_15 : fB M_F_which 15 (.if_icmp .ne 17) 17 18 32 := ⟨by decide +kernel, rfl, by decide⟩
theorem fF_which_18 : fAL M_F_which 18 0 19 := Or.inl ⟨0, by decide +kernel, rfl, rfl⟩
theorem fF_which_19 : fD M_F_which 19 (.getfield 33) 3 22 := ⟨by decide +kernel, rfl⟩
theorem fF_which_22 : fAL M_F_which 22 0 23 := Or.inl ⟨0, by decide +kernel, rfl, rfl⟩
theorem fF_which_23 : fD M_F_which 23 (.getfield 10) 3 26 := ⟨by decide +kernel, rfl⟩
theorem fF_which_26 : fD M_F_which 26 (.invokevirtual 252) 3 29 := ⟨by decide +kernel, rfl⟩
theorem fF_which_29 : fB M_F_which 29 (.goto 15) 15 32 44 := ⟨by decide +kernel, rfl, by decide⟩
theorem fF_which_32 : fAL M_F_which 32 0 33 := Or.inl ⟨0, by decide +kernel, rfl, rfl⟩
theorem fF_which_33 : fD M_F_which 33 (.getfield 33) 3 36 := ⟨by decide +kernel, rfl⟩
theorem fF_which_36 : fAL M_F_which 36 0 37 := Or.inl ⟨0, by decide +kernel, rfl, rfl⟩
theorem fF_which_37 : fD M_F_which 37 (.getfield 10) 3 40 := ⟨by decide +kernel, rfl⟩
theorem fF_which_40 : fIL M_F_which 40 1 41 := Or.inl ⟨1, by decide +kernel, rfl, rfl⟩
theorem fF_which_41 : fD M_F_which 41 (.invokevirtual 255) 3 44 := ⟨by decide +kernel, rfl⟩
theorem fF_which_44 : fD M_F_which 44 .ireturn 1 45 := ⟨by decide +kernel, rfl⟩
theorem fF_note_0 : fIL M_F_note 0 1 1 := Or.inl ⟨1, by decide +kernel, rfl, rfl⟩
theorem fF_note_1 : fD M_F_note 1 (.invokestatic 79) 3 4 := ⟨by decide +kernel, rfl⟩
theorem fF_note_4 : fB M_F_note 4 (.ifCond .eq 31) 31 7 35 := ⟨by decide +kernel, rfl, by decide⟩
theorem fF_note_7 : fIL M_F_note 7 2 8 := Or.inl ⟨2, by decide +kernel, rfl, rfl⟩
theorem fF_note_8 : fD M_F_note 8 (.invokestatic 201) 3 11 := ⟨by decide +kernel, rfl⟩
theorem fF_note_11 : fB M_F_note 11 (.ifCond .eq 24) 24 14 35 := ⟨by decide +kernel, rfl, by decide⟩
theorem fF_note_14 : fIL M_F_note 14 3 15 := Or.inl ⟨3, by decide +kernel, rfl, rfl⟩
theorem fF_note_15 : fIC M_F_note 15 0 16 := Or.inl ⟨0, by decide +kernel, by decide, rfl⟩
theorem fF_note_16 : fIC M_F_note 16 99 18 := Or.inr (Or.inl ⟨99, by decide +kernel, by decide, rfl⟩)
theorem fF_note_18 : fD M_F_note 18 (.invokestatic 85) 3 21 := ⟨by decide +kernel, rfl⟩
theorem fF_note_21 : fB M_F_note 21 (.ifCond .eq 14) 14 24 35 := ⟨by decide +kernel, rfl, by decide⟩
theorem fF_note_24 : fIL M_F_note 24 4 26 := Or.inr ⟨by decide +kernel, rfl⟩
theorem fF_note_26 : fIC M_F_note 26 0 27 := Or.inl ⟨0, by decide +kernel, by decide, rfl⟩
theorem fF_note_27 : fIC M_F_note 27 20 29 := Or.inr (Or.inl ⟨20, by decide +kernel, by decide, rfl⟩)
theorem fF_note_29 : fD M_F_note 29 (.invokestatic 85) 3 32 := ⟨by decide +kernel, rfl⟩
theorem fF_note_32 : fB M_F_note 32 (.ifCond .ne 8) 8 35 40 := ⟨by decide +kernel, rfl, by decide⟩
theorem fF_note_35 : fAL M_F_note 35 0 36 := Or.inl ⟨0, by decide +kernel, rfl, rfl⟩
theorem fF_note_36 : fD M_F_note 36 (.invokevirtual 89) 3 39 := ⟨by decide +kernel, rfl⟩
theorem fF_note_39 : fD M_F_note 39 .ireturn 1 40 := ⟨by decide +kernel, rfl⟩
theorem fF_note_40 : fAL M_F_note 40 0 41 := Or.inl ⟨0, by decide +kernel, rfl, rfl⟩
theorem fF_note_41 : fD M_F_note 41 (.getfield 10) 3 44 := ⟨by decide +kernel, rfl⟩
theorem fF_note_44 : fD M_F_note 44 (.getfield 240) 3 47 := ⟨by decide +kernel, rfl⟩
theorem fF_note_47 : fD M_F_note 47 (.getfield 258) 3 50 := ⟨by decide +kernel, rfl⟩
theorem fF_note_50 : fIC M_F_note 50 6 52 := Or.inr (Or.inl ⟨6, by decide +kernel, by decide, rfl⟩)
theorem fF_note_52 : fB M_F_note 52 (.if_icmp .lt 8) 8 55 60 := ⟨by decide +kernel, rfl, by decide⟩
theorem fF_note_55 : fAL M_F_note 55 0 56 := Or.inl ⟨0, by decide +kernel, rfl, rfl⟩
theorem fF_note_56 : fD M_F_note 56 (.invokevirtual 107) 3 59 := ⟨by decide +kernel, rfl⟩
theorem fF_note_59 : fD M_F_note 59 .ireturn 1 60 := ⟨by decide +kernel, rfl⟩
theorem fF_note_60 : fAL M_F_note 60 0 61 := Or.inl ⟨0, by decide +kernel, rfl, rfl⟩
theorem fF_note_61 : fD M_F_note 61 (.getfield 10) 3 64 := ⟨by decide +kernel, rfl⟩
theorem fF_note_64 : fD M_F_note 64 (.getfield 240) 3 67 := ⟨by decide +kernel, rfl⟩
theorem fF_note_67 : fIL M_F_note 67 1 68 := Or.inl ⟨1, by decide +kernel, rfl, rfl⟩
theorem fF_note_68 : fIL M_F_note 68 2 69 := Or.inl ⟨2, by decide +kernel, rfl, rfl⟩
theorem fF_note_69 : fIL M_F_note 69 3 70 := Or.inl ⟨3, by decide +kernel, rfl, rfl⟩
theorem fF_note_70 : fIL M_F_note 70 4 72 := Or.inr ⟨by decide +kernel, rfl⟩
theorem fF_note_72 : fD M_F_note 72 (.invokevirtual 261) 3 75 := ⟨by decide +kernel, rfl⟩
theorem fF_note_75 : fAL M_F_note 75 0 76 := Or.inl ⟨0, by decide +kernel, rfl, rfl⟩
theorem fF_note_76 : fD M_F_note 76 (.getfield 10) 3 79 := ⟨by decide +kernel, rfl⟩
theorem fF_note_79 : fD M_F_note 79 (.getfield 240) 3 82 := ⟨by decide +kernel, rfl⟩
theorem fF_note_82 : fD M_F_note 82 (.getfield 258) 3 85 := ⟨by decide +kernel, rfl⟩
theorem fF_note_85 : fD M_F_note 85 .ireturn 1 86 := ⟨by decide +kernel, rfl⟩
theorem fF_forget_0 : fIL M_F_forget 0 1 1 := Or.inl ⟨1, by decide +kernel, rfl, rfl⟩
theorem fF_forget_1 : fIC M_F_forget 1 0 2 := Or.inl ⟨0, by decide +kernel, by decide, rfl⟩
theorem fF_forget_2 : fIC M_F_forget 2 1 3 := Or.inl ⟨1, by decide +kernel, by decide, rfl⟩
theorem fF_forget_3 : fD M_F_forget 3 (.invokestatic 85) 3 6 := ⟨by decide +kernel, rfl⟩
theorem fF_forget_6 : fB M_F_forget 6 (.ifCond .ne 8) 8 9 14 := ⟨by decide +kernel, rfl, by decide⟩
theorem fF_forget_9 : fAL M_F_forget 9 0 10 := Or.inl ⟨0, by decide +kernel, rfl, rfl⟩
theorem fF_forget_10 : fD M_F_forget 10 (.invokevirtual 89) 3 13 := ⟨by decide +kernel, rfl⟩
theorem fF_forget_13 : fD M_F_forget 13 .ireturn 1 14 := ⟨by decide +kernel, rfl⟩
theorem fF_forget_14 : fIL M_F_forget 14 1 15 := Or.inl ⟨1, by decide +kernel, rfl, rfl⟩
theorem fF_forget_15 : fB M_F_forget 15 (.ifCond .ne 16) 16 18 31 := ⟨by decide +kernel, rfl, by decide⟩
theorem fF_forget_18 : fAL M_F_forget 18 0 19 := Or.inl ⟨0, by decide +kernel, rfl, rfl⟩
theorem fF_forget_19 : fD M_F_forget 19 (.getfield 10) 3 22 := ⟨by decide +kernel, rfl⟩
theorem fF_forget_22 : fD M_F_forget 22 (.getfield 240) 3 25 := ⟨by decide +kernel, rfl⟩
theorem fF_forget_25 : fD M_F_forget 25 (.invokevirtual 265) 3 28 := ⟨by decide +kernel, rfl⟩
theorem fF_forget_28 : fB M_F_forget 28 (.goto 13) 13 31 41 := ⟨by decide +kernel, rfl, by decide⟩
theorem fF_forget_31 : fAL M_F_forget 31 0 32 := Or.inl ⟨0, by decide +kernel, rfl, rfl⟩
theorem fF_forget_32 : fD M_F_forget 32 (.getfield 10) 3 35 := ⟨by decide +kernel, rfl⟩
theorem fF_forget_35 : fD M_F_forget 35 (.getfield 240) 3 38 := ⟨by decide +kernel, rfl⟩
theorem fF_forget_38 : fD M_F_forget 38 (.invokevirtual 268) 3 41 := ⟨by decide +kernel, rfl⟩
theorem fF_forget_41 : fD M_F_forget 41 .ireturn 1 42 := ⟨by decide +kernel, rfl⟩
theorem fF_is_0 : fIL M_F_is 0 1 1 := Or.inl ⟨1, by decide +kernel, rfl, rfl⟩
theorem fF_is_1 : fD M_F_is 1 (.invokestatic 79) 3 4 := ⟨by decide +kernel, rfl⟩
theorem fF_is_4 : fB M_F_is 4 (.ifCond .ne 8) 8 7 12 := ⟨by decide +kernel, rfl, by decide⟩
theorem fF_is_7 : fAL M_F_is 7 0 8 := Or.inl ⟨0, by decide +kernel, rfl, rfl⟩
theorem fF_is_8 : fD M_F_is 8 (.invokevirtual 89) 3 11 := ⟨by decide +kernel, rfl⟩
theorem fF_is_11 : fD M_F_is 11 .ireturn 1 12 := ⟨by decide +kernel, rfl⟩
theorem fF_is_12 : fAL M_F_is 12 0 13 := Or.inl ⟨0, by decide +kernel, rfl, rfl⟩
theorem fF_is_13 : fD M_F_is 13 (.getfield 10) 3 16 := ⟨by decide +kernel, rfl⟩
theorem fF_is_16 : fD M_F_is 16 (.getfield 240) 3 19 := ⟨by decide +kernel, rfl⟩
theorem fF_is_19 : fIL M_F_is 19 1 20 := Or.inl ⟨1, by decide +kernel, rfl, rfl⟩
theorem fF_is_20 : fD M_F_is 20 (.invokevirtual 271) 3 23 := ⟨by decide +kernel, rfl⟩
theorem fF_is_23 : fD M_F_is 23 .ireturn 1 24 := ⟨by decide +kernel, rfl⟩
theorem fF_look_0 : fIL M_F_look 0 1 1 := Or.inl ⟨1, by decide +kernel, rfl, rfl⟩
theorem fF_look_1 : fD M_F_look 1 (.invokestatic 79) 3 4 := ⟨by decide +kernel, rfl⟩
theorem fF_look_4 : fB M_F_look 4 (.ifCond .ne 8) 8 7 12 := ⟨by decide +kernel, rfl, by decide⟩
theorem fF_look_7 : fAL M_F_look 7 0 8 := Or.inl ⟨0, by decide +kernel, rfl, rfl⟩
theorem fF_look_8 : fD M_F_look 8 (.invokevirtual 89) 3 11 := ⟨by decide +kernel, rfl⟩
theorem fF_look_11 : fD M_F_look 11 .ireturn 1 12 := ⟨by decide +kernel, rfl⟩
theorem fF_look_12 : fAL M_F_look 12 0 13 := Or.inl ⟨0, by decide +kernel, rfl, rfl⟩
theorem fF_look_13 : fD M_F_look 13 (.getfield 33) 3 16 := ⟨by decide +kernel, rfl⟩
theorem fF_look_16 : fAL M_F_look 16 0 17 := Or.inl ⟨0, by decide +kernel, rfl, rfl⟩
theorem fF_look_17 : fD M_F_look 17 (.getfield 10) 3 20 := ⟨by decide +kernel, rfl⟩
theorem fF_look_20 : fD M_F_look 20 (.getfield 240) 3 23 := ⟨by decide +kernel, rfl⟩
theorem fF_look_23 : fIL M_F_look 23 1 24 := Or.inl ⟨1, by decide +kernel, rfl, rfl⟩
theorem fF_look_24 : fD M_F_look 24 (.invokevirtual 271) 3 27 := ⟨by decide +kernel, rfl⟩
theorem fF_look_27 : fD M_F_look 27 (.invokevirtual 274) 3 30 := ⟨by decide +kernel, rfl⟩
theorem fF_look_30 : fD M_F_look 30 .ireturn 1 31 := ⟨by decide +kernel, rfl⟩
theorem fF_two_0 : fAL M_F_two 0 0 1 := Or.inl ⟨0, by decide +kernel, rfl, rfl⟩
theorem fF_two_1 : fD M_F_two 1 (.getfield 10) 3 4 := ⟨by decide +kernel, rfl⟩
theorem fF_two_4 : fD M_F_two 4 (.getfield 67) 3 7 := ⟨by decide +kernel, rfl⟩
theorem fF_two_7 : fIL M_F_two 7 1 8 := Or.inl ⟨1, by decide +kernel, rfl, rfl⟩
theorem fF_two_8 : fD M_F_two 8 (.invokevirtual 153) 3 11 := ⟨by decide +kernel, rfl⟩
theorem fF_two_11 : fB M_F_two 11 (.ifCond .eq 22) 22 14 33 := ⟨by decide +kernel, rfl, by decide⟩
theorem fF_two_14 : fAL M_F_two 14 0 15 := Or.inl ⟨0, by decide +kernel, rfl, rfl⟩
theorem fF_two_15 : fD M_F_two 15 (.getfield 10) 3 18 := ⟨by decide +kernel, rfl⟩
theorem fF_two_18 : fD M_F_two 18 (.getfield 67) 3 21 := ⟨by decide +kernel, rfl⟩
theorem fF_two_21 : fIL M_F_two 21 2 22 := Or.inl ⟨2, by decide +kernel, rfl, rfl⟩
theorem fF_two_22 : fD M_F_two 22 (.invokevirtual 153) 3 25 := ⟨by decide +kernel, rfl⟩
theorem fF_two_25 : fB M_F_two 25 (.ifCond .eq 8) 8 28 33 := ⟨by decide +kernel, rfl, by decide⟩
theorem fF_two_28 : fIL M_F_two 28 1 29 := Or.inl ⟨1, by decide +kernel, rfl, rfl⟩
theorem fF_two_29 : fIL M_F_two 29 2 30 := Or.inl ⟨2, by decide +kernel, rfl, rfl⟩
theorem fF_two_30 : fB M_F_two 30 (.if_icmp .ne 8) 8 33 38 := ⟨by decide +kernel, rfl, by decide⟩
theorem fF_two_33 : fAL M_F_two 33 0 34 := Or.inl ⟨0, by decide +kernel, rfl, rfl⟩
theorem fF_two_34 : fD M_F_two 34 (.invokevirtual 89) 3 37 := ⟨by decide +kernel, rfl⟩
theorem fF_two_37 : fD M_F_two 37 .ireturn 1 38 := ⟨by decide +kernel, rfl⟩
theorem fF_two_38 : fAL M_F_two 38 0 39 := Or.inl ⟨0, by decide +kernel, rfl, rfl⟩
theorem fF_two_39 : fD M_F_two 39 (.getfield 10) 3 42 := ⟨by decide +kernel, rfl⟩
theorem fF_two_42 : fD M_F_two 42 (.getfield 67) 3 45 := ⟨by decide +kernel, rfl⟩
theorem fF_two_45 : fIL M_F_two 45 1 46 := Or.inl ⟨1, by decide +kernel, rfl, rfl⟩
theorem fF_two_46 : fD M_F_two 46 (.invokevirtual 159) 3 49 := ⟨by decide +kernel, rfl⟩
theorem fF_two_49 : fB M_F_two 49 (.ifCond .ne 17) 17 52 66 := ⟨by decide +kernel, rfl, by decide⟩
theorem fF_two_52 : fAL M_F_two 52 0 53 := Or.inl ⟨0, by decide +kernel, rfl, rfl⟩
theorem fF_two_53 : fD M_F_two 53 (.getfield 10) 3 56 := ⟨by decide +kernel, rfl⟩
theorem fF_two_56 : fD M_F_two 56 (.getfield 67) 3 59 := ⟨by decide +kernel, rfl⟩
theorem fF_two_59 : fIL M_F_two 59 2 60 := Or.inl ⟨2, by decide +kernel, rfl, rfl⟩
theorem fF_two_60 : fD M_F_two 60 (.invokevirtual 159) 3 63 := ⟨by decide +kernel, rfl⟩
theorem fF_two_63 : fB M_F_two 63 (.ifCond .eq 8) 8 66 71 := ⟨by decide +kernel, rfl, by decide⟩
theorem fF_two_66 : fAL M_F_two 66 0 67 := Or.inl ⟨0, by decide +kernel, rfl, rfl⟩
theorem fF_two_67 : fD M_F_two 67 (.invokevirtual 140) 3 70 := ⟨by decide +kernel, rfl⟩
theorem fF_two_70 : fD M_F_two 70 .ireturn 1 71 := ⟨by decide +kernel, rfl⟩
theorem fF_two_71 : fAL M_F_two 71 0 72 := Or.inl ⟨0, by decide +kernel, rfl, rfl⟩
theorem fF_two_72 : fD M_F_two 72 (.getfield 26) 3 75 := ⟨by decide +kernel, rfl⟩
theorem fF_two_75 : fAL M_F_two 75 0 76 := Or.inl ⟨0, by decide +kernel, rfl, rfl⟩
theorem fF_two_76 : fD M_F_two 76 (.getfield 10) 3 79 := ⟨by decide +kernel, rfl⟩
theorem fF_two_79 : fIL M_F_two 79 1 80 := Or.inl ⟨1, by decide +kernel, rfl, rfl⟩
theorem fF_two_80 : fIL M_F_two 80 2 81 := Or.inl ⟨2, by decide +kernel, rfl, rfl⟩
theorem fF_two_81 : fD M_F_two 81 (.invokevirtual 277) 3 84 := ⟨by decide +kernel, rfl⟩
theorem fF_two_84 : fD M_F_two 84 .ireturn 1 85 := ⟨by decide +kernel, rfl⟩
theorem fF_odds_0 : fIL M_F_odds 0 1 1 := Or.inl ⟨1, by decide +kernel, rfl, rfl⟩
theorem fF_odds_1 : fD M_F_odds 1 (.invokestatic 104) 3 4 := ⟨by decide +kernel, rfl⟩
theorem fF_odds_4 : fB M_F_odds 4 (.ifCond .eq 20) 20 7 24 := ⟨by decide +kernel, rfl, by decide⟩
theorem fF_odds_7 : fIL M_F_odds 7 2 8 := Or.inl ⟨2, by decide +kernel, rfl, rfl⟩
theorem fF_odds_8 : fD M_F_odds 8 (.invokestatic 104) 3 11 := ⟨by decide +kernel, rfl⟩
theorem fF_odds_11 : fB M_F_odds 11 (.ifCond .eq 13) 13 14 24 := ⟨by decide +kernel, rfl, by decide⟩
theorem fF_odds_14 : fIL M_F_odds 14 3 15 := Or.inl ⟨3, by decide +kernel, rfl, rfl⟩
theorem fF_odds_15 : fIC M_F_odds 15 0 16 := Or.inl ⟨0, by decide +kernel, by decide, rfl⟩
theorem fF_odds_16 : fIC M_F_odds 16 10 18 := Or.inr (Or.inl ⟨10, by decide +kernel, by decide, rfl⟩)
theorem fF_odds_18 : fD M_F_odds 18 (.invokestatic 85) 3 21 := ⟨by decide +kernel, rfl⟩
theorem fF_odds_21 : fB M_F_odds 21 (.ifCond .ne 8) 8 24 29 := ⟨by decide +kernel, rfl, by decide⟩
theorem fF_odds_24 : fAL M_F_odds 24 0 25 := Or.inl ⟨0, by decide +kernel, rfl, rfl⟩
theorem fF_odds_25 : fD M_F_odds 25 (.invokevirtual 89) 3 28 := ⟨by decide +kernel, rfl⟩
theorem fF_odds_28 : fD M_F_odds 28 .ireturn 1 29 := ⟨by decide +kernel, rfl⟩
theorem fF_odds_29 : fAL M_F_odds 29 0 30 := Or.inl ⟨0, by decide +kernel, rfl, rfl⟩
theorem fF_odds_30 : fD M_F_odds 30 (.getfield 47) 3 33 := ⟨by decide +kernel, rfl⟩
theorem fF_odds_33 : fIL M_F_odds 33 1 34 := Or.inl ⟨1, by decide +kernel, rfl, rfl⟩
theorem fF_odds_34 : fIL M_F_odds 34 2 35 := Or.inl ⟨2, by decide +kernel, rfl, rfl⟩
theorem fF_odds_35 : fD M_F_odds 35 (.invokevirtual 129) 3 38 := ⟨by decide +kernel, rfl⟩
theorem fF_odds_38 : fIC M_F_odds 38 1 39 := Or.inl ⟨1, by decide +kernel, by decide, rfl⟩
theorem fF_odds_39 : fIS M_F_odds 39 4 41 := Or.inr ⟨by decide +kernel, rfl⟩
theorem fF_odds_41 : fIC M_F_odds 41 0 42 := Or.inl ⟨0, by decide +kernel, by decide, rfl⟩
theorem fF_odds_42 : fIS M_F_odds 42 5 44 := Or.inr ⟨by decide +kernel, rfl⟩
theorem fF_odds_44 : fIL M_F_odds 44 5 46 := Or.inr ⟨by decide +kernel, rfl⟩
theorem fF_odds_46 : fAL M_F_odds 46 0 47 := Or.inl ⟨0, by decide +kernel, rfl, rfl⟩
theorem fF_odds_47 : fD M_F_odds 47 (.getfield 47) 3 50 := ⟨by decide +kernel, rfl⟩
theorem fF_odds_50 : fD M_F_odds 50 (.getfield 280) 3 53 := ⟨by decide +kernel, rfl⟩
theorem fF_odds_53 : fB M_F_odds 53 (.if_icmp .ge 16) 16 56 69 := ⟨by decide +kernel, rfl, by decide⟩
theorem fF_odds_56 : fIL M_F_odds 56 4 58 := Or.inr ⟨by decide +kernel, rfl⟩
theorem fF_odds_58 : fIC M_F_odds 58 10 60 := Or.inr (Or.inl ⟨10, by decide +kernel, by decide, rfl⟩)
theorem fF_odds_60 : fD M_F_odds 60 .imul 1 61 := ⟨by decide +kernel, rfl⟩
theorem fF_odds_61 : fIS M_F_odds 61 4 63 := Or.inr ⟨by decide +kernel, rfl⟩
theorem fF_odds_63 : fD M_F_odds 63 (.iinc 5 1) 3 66 := ⟨by decide +kernel, rfl⟩
theorem fF_odds_66 : fB M_F_odds 66 (.goto (-22)) (-22) 69 44 := ⟨by decide +kernel, rfl, by decide⟩
theorem fF_odds_69 : fAL M_F_odds 69 0 70 := Or.inl ⟨0, by decide +kernel, rfl, rfl⟩
theorem fF_odds_70 : fAL M_F_odds 70 0 71 := Or.inl ⟨0, by decide +kernel, rfl, rfl⟩
theorem fF_odds_71 : fD M_F_odds 71 (.getfield 26) 3 74 := ⟨by decide +kernel, rfl⟩
theorem fF_odds_74 : fAL M_F_odds 74 0 75 := Or.inl ⟨0, by decide +kernel, rfl, rfl⟩
theorem fF_odds_75 : fD M_F_odds 75 (.getfield 10) 3 78 := ⟨by decide +kernel, rfl⟩
theorem fF_odds_78 : fAL M_F_odds 78 0 79 := Or.inl ⟨0, by decide +kernel, rfl, rfl⟩
theorem fF_odds_79 : fD M_F_odds 79 (.getfield 47) 3 82 := ⟨by decide +kernel, rfl⟩
theorem fF_odds_82 : fIL M_F_odds 82 3 83 := Or.inl ⟨3, by decide +kernel, rfl, rfl⟩
theorem fF_odds_83 : fD M_F_odds 83 (.invokevirtual 281) 3 86 := ⟨by decide +kernel, rfl⟩
theorem fF_odds_86 : fIL M_F_odds 86 4 88 := Or.inr ⟨by decide +kernel, rfl⟩
theorem fF_odds_88 : fD M_F_odds 88 (.invokevirtual 285) 3 91 := ⟨by decide +kernel, rfl⟩
theorem fF_odds_91 : fIC M_F_odds 91 1 92 := Or.inl ⟨1, by decide +kernel, by decide, rfl⟩
theorem fF_odds_92 : fD M_F_odds 92 .ireturn 1 93 := ⟨by decide +kernel, rfl⟩
theorem fF_years_0 : fIL M_F_years 0 1 1 := Or.inl ⟨1, by decide +kernel, rfl, rfl⟩
theorem fF_years_1 : fIC M_F_years 1 0 2 := Or.inl ⟨0, by decide +kernel, by decide, rfl⟩
theorem fF_years_2 : fIC M_F_years 2 999999 5 := Or.inr (Or.inr (Or.inr (Or.inr ⟨288, by decide +kernel, o_F_288, rfl⟩)))
theorem fF_years_5 : fD M_F_years 5 (.invokestatic 85) 3 8 := ⟨by decide +kernel, rfl⟩
theorem fF_years_8 : fB M_F_years 8 (.ifCond .eq 13) 13 11 21 := ⟨by decide +kernel, rfl, by decide⟩
theorem fF_years_11 : fIL M_F_years 11 2 12 := Or.inl ⟨2, by decide +kernel, rfl, rfl⟩
theorem fF_years_12 : fIC M_F_years 12 0 13 := Or.inl ⟨0, by decide +kernel, by decide, rfl⟩
theorem fF_years_13 : fIC M_F_years 13 60 15 := Or.inr (Or.inl ⟨60, by decide +kernel, by decide, rfl⟩)
theorem fF_years_15 : fD M_F_years 15 (.invokestatic 85) 3 18 := ⟨by decide +kernel, rfl⟩
theorem fF_years_18 : fB M_F_years 18 (.ifCond .ne 8) 8 21 26 := ⟨by decide +kernel, rfl, by decide⟩
theorem fF_years_21 : fAL M_F_years 21 0 22 := Or.inl ⟨0, by decide +kernel, rfl, rfl⟩
theorem fF_years_22 : fD M_F_years 22 (.invokevirtual 89) 3 25 := ⟨by decide +kernel, rfl⟩
theorem fF_years_25 : fD M_F_years 25 .ireturn 1 26 := ⟨by decide +kernel, rfl⟩
theorem fF_years_26 : fAL M_F_years 26 0 27 := Or.inl ⟨0, by decide +kernel, rfl, rfl⟩
theorem fF_years_27 : fD M_F_years 27 (.getfield 26) 3 30 := ⟨by decide +kernel, rfl⟩
theorem fF_years_30 : fAL M_F_years 30 0 31 := Or.inl ⟨0, by decide +kernel, rfl, rfl⟩
theorem fF_years_31 : fD M_F_years 31 (.getfield 10) 3 34 := ⟨by decide +kernel, rfl⟩
theorem fF_years_34 : fIL M_F_years 34 1 35 := Or.inl ⟨1, by decide +kernel, rfl, rfl⟩
theorem fF_years_35 : fIL M_F_years 35 2 36 := Or.inl ⟨2, by decide +kernel, rfl, rfl⟩
theorem fF_years_36 : fD M_F_years 36 (.invokevirtual 289) 3 39 := ⟨by decide +kernel, rfl⟩
theorem fF_years_39 : fD M_F_years 39 .ireturn 1 40 := ⟨by decide +kernel, rfl⟩
theorem fF_part_0 : fIL M_F_part 0 1 1 := Or.inl ⟨1, by decide +kernel, rfl, rfl⟩
theorem fF_part_1 : fD M_F_part 1 (.lookupswitch 39 #[(0, 27), (1, 33)]) 27 28 := ⟨by decide +kernel, rfl⟩
theorem fF_part_28 : fAL M_F_part 28 0 29 := Or.inl ⟨0, by decide +kernel, rfl, rfl⟩
theorem fF_part_29 : fD M_F_part 29 (.getfield 51) 3 32 := ⟨by decide +kernel, rfl⟩
theorem fF_part_32 : fD M_F_part 32 .i2l 1 33 := ⟨by decide +kernel, rfl⟩
theorem fF_part_33 : fD M_F_part 33 .lreturn 1 34 := ⟨by decide +kernel, rfl⟩
theorem fF_part_34 : fAL M_F_part 34 0 35 := Or.inl ⟨0, by decide +kernel, rfl, rfl⟩
theorem fF_part_35 : fD M_F_part 35 (.getfield 55) 3 38 := ⟨by decide +kernel, rfl⟩
theorem fF_part_38 : fD M_F_part 38 .i2l 1 39 := ⟨by decide +kernel, rfl⟩
theorem fF_part_39 : fD M_F_part 39 .lreturn 1 40 := ⟨by decide +kernel, rfl⟩
theorem fF_part_40 : fAL M_F_part 40 0 41 := Or.inl ⟨0, by decide +kernel, rfl, rfl⟩
theorem fF_part_41 : fD M_F_part 41 (.invokevirtual 89) 3 44 := ⟨by decide +kernel, rfl⟩
theorem fF_part_44 : fD M_F_part 44 .i2l 1 45 := ⟨by decide +kernel, rfl⟩
theorem fF_part_45 : fD M_F_part 45 .lreturn 1 46 := ⟨by decide +kernel, rfl⟩
theorem fF_image_0 : fIL M_F_image 0 1 1 := Or.inl ⟨1, by decide +kernel, rfl, rfl⟩
theorem fF_image_1 : fIC M_F_image 1 0 2 := Or.inl ⟨0, by decide +kernel, by decide, rfl⟩
theorem fF_image_2 : fIC M_F_image 2 1 3 := Or.inl ⟨1, by decide +kernel, by decide, rfl⟩
theorem fF_image_3 : fD M_F_image 3 (.invokestatic 85) 3 6 := ⟨by decide +kernel, rfl⟩
theorem fF_image_6 : fB M_F_image 6 (.ifCond .ne 8) 8 9 14 := ⟨by decide +kernel, rfl, by decide⟩
theorem fF_image_9 : fAL M_F_image 9 0 10 := Or.inl ⟨0, by decide +kernel, rfl, rfl⟩
theorem fF_image_10 : fD M_F_image 10 (.invokevirtual 89) 3 13 := ⟨by decide +kernel, rfl⟩
theorem fF_image_13 : fD M_F_image 13 .ireturn 1 14 := ⟨by decide +kernel, rfl⟩
theorem fF_image_14 : fAL M_F_image 14 0 15 := Or.inl ⟨0, by decide +kernel, rfl, rfl⟩
theorem fF_image_15 : fD M_F_image 15 (.getfield 19) 3 18 := ⟨by decide +kernel, rfl⟩
theorem fF_image_18 : fIL M_F_image 18 1 19 := Or.inl ⟨1, by decide +kernel, rfl, rfl⟩
theorem fF_image_19 : fD M_F_image 19 .aaload 1 20 := ⟨by decide +kernel, rfl⟩
theorem fF_image_20 : fAS M_F_image 20 2 21 := Or.inl ⟨2, by decide +kernel, rfl, rfl⟩
theorem fF_image_21 : fAL M_F_image 21 2 22 := Or.inl ⟨2, by decide +kernel, rfl, rfl⟩
theorem fF_image_22 : fB M_F_image 22 (.ifnonnull 18) 18 25 40 := ⟨by decide +kernel, rfl, by decide⟩
theorem fF_image_25 : fD M_F_image 25 (.new 7) 3 28 := ⟨by decide +kernel, rfl⟩
theorem fF_image_28 : fD M_F_image 28 .dup 1 29 := ⟨by decide +kernel, rfl⟩
theorem fF_image_29 : fD M_F_image 29 (.invokespecial 9) 3 32 := ⟨by decide +kernel, rfl⟩
theorem fF_image_32 : fAS M_F_image 32 2 33 := Or.inl ⟨2, by decide +kernel, rfl, rfl⟩
theorem fF_image_33 : fAL M_F_image 33 0 34 := Or.inl ⟨0, by decide +kernel, rfl, rfl⟩
theorem fF_image_34 : fD M_F_image 34 (.getfield 19) 3 37 := ⟨by decide +kernel, rfl⟩
theorem fF_image_37 : fIL M_F_image 37 1 38 := Or.inl ⟨1, by decide +kernel, rfl, rfl⟩
theorem fF_image_38 : fAL M_F_image 38 2 39 := Or.inl ⟨2, by decide +kernel, rfl, rfl⟩
theorem fF_image_39 : fD M_F_image 39 .aastore 1 40 := ⟨by decide +kernel, rfl⟩
theorem fF_image_40 : fAL M_F_image 40 2 41 := Or.inl ⟨2, by decide +kernel, rfl, rfl⟩
theorem fF_image_41 : fAL M_F_image 41 0 42 := Or.inl ⟨0, by decide +kernel, rfl, rfl⟩
theorem fF_image_42 : fD M_F_image 42 (.getfield 10) 3 45 := ⟨by decide +kernel, rfl⟩
theorem fF_image_45 : fD M_F_image 45 (.invokevirtual 125) 3 48 := ⟨by decide +kernel, rfl⟩
theorem fF_image_48 : fIC M_F_image 48 1 49 := Or.inl ⟨1, by decide +kernel, by decide, rfl⟩
theorem fF_image_49 : fD M_F_image 49 .ireturn 1 50 := ⟨by decide +kernel, rfl⟩
theorem fF_from_0 : fIL M_F_from 0 1 1 := Or.inl ⟨1, by decide +kernel, rfl, rfl⟩
theorem fF_from_1 : fIC M_F_from 1 0 2 := Or.inl ⟨0, by decide +kernel, by decide, rfl⟩
theorem fF_from_2 : fIC M_F_from 2 1 3 := Or.inl ⟨1, by decide +kernel, by decide, rfl⟩
theorem fF_from_3 : fD M_F_from 3 (.invokestatic 85) 3 6 := ⟨by decide +kernel, rfl⟩
theorem fF_from_6 : fB M_F_from 6 (.ifCond .ne 8) 8 9 14 := ⟨by decide +kernel, rfl, by decide⟩
theorem fF_from_9 : fAL M_F_from 9 0 10 := Or.inl ⟨0, by decide +kernel, rfl, rfl⟩
theorem fF_from_10 : fD M_F_from 10 (.invokevirtual 89) 3 13 := ⟨by decide +kernel, rfl⟩
theorem fF_from_13 : fD M_F_from 13 .ireturn 1 14 := ⟨by decide +kernel, rfl⟩
theorem fF_from_14 : fAL M_F_from 14 0 15 := Or.inl ⟨0, by decide +kernel, rfl, rfl⟩
theorem fF_from_15 : fD M_F_from 15 (.getfield 19) 3 18 := ⟨by decide +kernel, rfl⟩
theorem fF_from_18 : fIL M_F_from 18 1 19 := Or.inl ⟨1, by decide +kernel, rfl, rfl⟩
theorem fF_from_19 : fD M_F_from 19 .aaload 1 20 := ⟨by decide +kernel, rfl⟩
theorem fF_from_20 : fAS M_F_from 20 2 21 := Or.inl ⟨2, by decide +kernel, rfl, rfl⟩
theorem fF_from_21 : fAL M_F_from 21 2 22 := Or.inl ⟨2, by decide +kernel, rfl, rfl⟩
theorem fF_from_22 : fB M_F_from 22 (.ifnonnull 8) 8 25 30 := ⟨by decide +kernel, rfl, by decide⟩
theorem fF_from_25 : fAL M_F_from 25 0 26 := Or.inl ⟨0, by decide +kernel, rfl, rfl⟩
theorem fF_from_26 : fD M_F_from 26 (.invokevirtual 140) 3 29 := ⟨by decide +kernel, rfl⟩
theorem fF_from_29 : fD M_F_from 29 .ireturn 1 30 := ⟨by decide +kernel, rfl⟩
theorem fF_from_30 : fAL M_F_from 30 0 31 := Or.inl ⟨0, by decide +kernel, rfl, rfl⟩
theorem fF_from_31 : fD M_F_from 31 (.getfield 10) 3 34 := ⟨by decide +kernel, rfl⟩
theorem fF_from_34 : fAL M_F_from 34 2 35 := Or.inl ⟨2, by decide +kernel, rfl, rfl⟩
theorem fF_from_35 : fD M_F_from 35 (.invokevirtual 125) 3 38 := ⟨by decide +kernel, rfl⟩
theorem fF_from_38 : fIC M_F_from 38 1 39 := Or.inl ⟨1, by decide +kernel, by decide, rfl⟩
theorem fF_from_39 : fD M_F_from 39 .ireturn 1 40 := ⟨by decide +kernel, rfl⟩
theorem fF_status_0 : fIL M_F_status 0 1 1 := Or.inl ⟨1, by decide +kernel, rfl, rfl⟩
theorem fF_status_1 : fD M_F_status 1 (.tableswitch 42 0 2 #[27, 32, 37]) 27 28 := ⟨by decide +kernel, rfl⟩
theorem fF_status_28 : fAL M_F_status 28 0 29 := Or.inl ⟨0, by decide +kernel, rfl, rfl⟩
theorem fF_status_29 : fD M_F_status 29 (.getfield 58) 3 32 := ⟨by decide +kernel, rfl⟩
theorem fF_status_32 : fD M_F_status 32 .ireturn 1 33 := ⟨by decide +kernel, rfl⟩
theorem fF_status_33 : fAL M_F_status 33 0 34 := Or.inl ⟨0, by decide +kernel, rfl, rfl⟩
theorem fF_status_34 : fD M_F_status 34 (.getfield 61) 3 37 := ⟨by decide +kernel, rfl⟩
theorem fF_status_37 : fD M_F_status 37 .ireturn 1 38 := ⟨by decide +kernel, rfl⟩
theorem fF_status_38 : fAL M_F_status 38 0 39 := Or.inl ⟨0, by decide +kernel, rfl, rfl⟩
theorem fF_status_39 : fD M_F_status 39 (.getfield 64) 3 42 := ⟨by decide +kernel, rfl⟩
theorem fF_status_42 : fD M_F_status 42 .ireturn 1 43 := ⟨by decide +kernel, rfl⟩
theorem fF_status_43 : fAL M_F_status 43 0 44 := Or.inl ⟨0, by decide +kernel, rfl, rfl⟩
theorem fF_status_44 : fD M_F_status 44 (.invokevirtual 89) 3 47 := ⟨by decide +kernel, rfl⟩
theorem fF_status_47 : fD M_F_status 47 .pop 1 48 := ⟨by decide +kernel, rfl⟩
theorem fF_status_48 : fIC M_F_status 48 (-1) 49 := Or.inl ⟨(-1), by decide +kernel, by decide, rfl⟩
theorem fF_status_49 : fD M_F_status 49 .ireturn 1 50 := ⟨by decide +kernel, rfl⟩
theorem fF_count_0 : fIL M_F_count 0 1 1 := Or.inl ⟨1, by decide +kernel, rfl, rfl⟩
theorem fF_count_1 : fIC M_F_count 1 0 2 := Or.inl ⟨0, by decide +kernel, by decide, rfl⟩
theorem fF_count_2 : fIC M_F_count 2 8 4 := Or.inr (Or.inl ⟨8, by decide +kernel, by decide, rfl⟩)
theorem fF_count_4 : fD M_F_count 4 (.invokestatic 85) 3 7 := ⟨by decide +kernel, rfl⟩
theorem fF_count_7 : fB M_F_count 7 (.ifCond .eq 11) 11 10 18 := ⟨by decide +kernel, rfl, by decide⟩
theorem fF_count_10 : fAL M_F_count 10 0 11 := Or.inl ⟨0, by decide +kernel, rfl, rfl⟩
theorem fF_count_11 : fIL M_F_count 11 1 12 := Or.inl ⟨1, by decide +kernel, rfl, rfl⟩
theorem fF_count_12 : fD M_F_count 12 (.invokevirtual 292) 3 15 := ⟨by decide +kernel, rfl⟩
theorem fF_count_15 : fB M_F_count 15 (.goto 7) 7 18 22 := ⟨by decide +kernel, rfl, by decide⟩
theorem fF_count_18 : fAL M_F_count 18 0 19 := Or.inl ⟨0, by decide +kernel, rfl, rfl⟩
theorem fF_count_19 : fD M_F_count 19 (.invokevirtual 89) 3 22 := ⟨by decide +kernel, rfl⟩
theorem fF_count_22 : fD M_F_count 22 .ireturn 1 23 := ⟨by decide +kernel, rfl⟩
theorem fF_digest_0 : fLC M_F_digest 0 1493 3 := Or.inr ⟨295, by decide +kernel, o_F_295, rfl⟩
theorem fF_digest_3 : fLS M_F_digest 3 1 4 := Or.inl ⟨1, by decide +kernel, rfl, rfl⟩
theorem fF_digest_4 : fIC M_F_digest 4 0 5 := Or.inl ⟨0, by decide +kernel, by decide, rfl⟩
theorem fF_digest_5 : fIS M_F_digest 5 3 6 := Or.inl ⟨3, by decide +kernel, rfl, rfl⟩
theorem fF_digest_6 : fIL M_F_digest 6 3 7 := Or.inl ⟨3, by decide +kernel, rfl, rfl⟩
theorem fF_digest_7 : fIC M_F_digest 7 8 9 := Or.inr (Or.inl ⟨8, by decide +kernel, by decide, rfl⟩)
theorem fF_digest_9 : fB M_F_digest 9 (.if_icmp .gt 22) 22 12 31 := ⟨by decide +kernel, rfl, by decide⟩
theorem fF_digest_12 : fLC M_F_digest 12 31 15 := Or.inr ⟨297, by decide +kernel, o_F_297, rfl⟩
theorem fF_digest_15 : fLL M_F_digest 15 1 16 := Or.inl ⟨1, by decide +kernel, rfl, rfl⟩
theorem fF_digest_16 : fD M_F_digest 16 .lmul 1 17 := ⟨by decide +kernel, rfl⟩
theorem fF_digest_17 : fAL M_F_digest 17 0 18 := Or.inl ⟨0, by decide +kernel, rfl, rfl⟩
theorem fF_digest_18 : fIL M_F_digest 18 3 19 := Or.inl ⟨3, by decide +kernel, rfl, rfl⟩
theorem fF_digest_19 : fD M_F_digest 19 (.invokevirtual 292) 3 22 := ⟨by decide +kernel, rfl⟩
theorem fF_digest_22 : fD M_F_digest 22 .i2l 1 23 := ⟨by decide +kernel, rfl⟩
theorem fF_digest_23 : fD M_F_digest 23 .ladd 1 24 := ⟨by decide +kernel, rfl⟩
theorem fF_digest_24 : fLS M_F_digest 24 1 25 := Or.inl ⟨1, by decide +kernel, rfl, rfl⟩
theorem fF_digest_25 : fD M_F_digest 25 (.iinc 3 1) 3 28 := ⟨by decide +kernel, rfl⟩
theorem fF_digest_28 : fB M_F_digest 28 (.goto (-22)) (-22) 31 6 := ⟨by decide +kernel, rfl, by decide⟩
theorem fF_digest_31 : fAL M_F_digest 31 0 32 := Or.inl ⟨0, by decide +kernel, rfl, rfl⟩
theorem fF_digest_32 : fD M_F_digest 32 (.getfield 10) 3 35 := ⟨by decide +kernel, rfl⟩
theorem fF_digest_35 : fLL M_F_digest 35 1 36 := Or.inl ⟨1, by decide +kernel, rfl, rfl⟩
theorem fF_digest_36 : fD M_F_digest 36 (.invokevirtual 299) 3 39 := ⟨by decide +kernel, rfl⟩
theorem fF_digest_39 : fLS M_F_digest 39 1 40 := Or.inl ⟨1, by decide +kernel, rfl, rfl⟩
theorem fF_digest_40 : fLC M_F_digest 40 31 43 := Or.inr ⟨297, by decide +kernel, o_F_297, rfl⟩
theorem fF_digest_43 : fLL M_F_digest 43 1 44 := Or.inl ⟨1, by decide +kernel, rfl, rfl⟩
theorem fF_digest_44 : fD M_F_digest 44 .lmul 1 45 := ⟨by decide +kernel, rfl⟩
theorem fF_digest_45 : fAL M_F_digest 45 0 46 := Or.inl ⟨0, by decide +kernel, rfl, rfl⟩
theorem fF_digest_46 : fD M_F_digest 46 (.getfield 51) 3 49 := ⟨by decide +kernel, rfl⟩
theorem fF_digest_49 : fD M_F_digest 49 .i2l 1 50 := ⟨by decide +kernel, rfl⟩
theorem fF_digest_50 : fD M_F_digest 50 .ladd 1 51 := ⟨by decide +kernel, rfl⟩
theorem fF_digest_51 : fLS M_F_digest 51 1 52 := Or.inl ⟨1, by decide +kernel, rfl, rfl⟩
theorem fF_digest_52 : fLC M_F_digest 52 31 55 := Or.inr ⟨297, by decide +kernel, o_F_297, rfl⟩
theorem fF_digest_55 : fLL M_F_digest 55 1 56 := Or.inl ⟨1, by decide +kernel, rfl, rfl⟩
theorem fF_digest_56 : fD M_F_digest 56 .lmul 1 57 := ⟨by decide +kernel, rfl⟩
theorem fF_digest_57 : fAL M_F_digest 57 0 58 := Or.inl ⟨0, by decide +kernel, rfl, rfl⟩
theorem fF_digest_58 : fD M_F_digest 58 (.getfield 55) 3 61 := ⟨by decide +kernel, rfl⟩
theorem fF_digest_61 : fD M_F_digest 61 .i2l 1 62 := ⟨by decide +kernel, rfl⟩
theorem fF_digest_62 : fD M_F_digest 62 .ladd 1 63 := ⟨by decide +kernel, rfl⟩
theorem fF_digest_63 : fD M_F_digest 63 .lreturn 1 64 := ⟨by decide +kernel, rfl⟩
theorem fF_howMany_0 : fIL M_F_howMany 0 1 1 := Or.inl ⟨1, by decide +kernel, rfl, rfl⟩
theorem fF_howMany_1 : fD M_F_howMany 1 (.tableswitch 135 0 7 #[47, 58, 69, 80, 91, 102, 113, 124]) 47 48 := ⟨by decide +kernel, rfl⟩
theorem fF_howMany_48 : fAL M_F_howMany 48 0 49 := Or.inl ⟨0, by decide +kernel, rfl, rfl⟩
theorem fF_howMany_49 : fD M_F_howMany 49 (.getfield 10) 3 52 := ⟨by decide +kernel, rfl⟩
theorem fF_howMany_52 : fD M_F_howMany 52 (.getfield 67) 3 55 := ⟨by decide +kernel, rfl⟩
theorem fF_howMany_55 : fD M_F_howMany 55 (.getfield 71) 3 58 := ⟨by decide +kernel, rfl⟩
theorem fF_howMany_58 : fD M_F_howMany 58 .ireturn 1 59 := ⟨by decide +kernel, rfl⟩
theorem fF_howMany_59 : fAL M_F_howMany 59 0 60 := Or.inl ⟨0, by decide +kernel, rfl, rfl⟩
theorem fF_howMany_60 : fD M_F_howMany 60 (.getfield 10) 3 63 := ⟨by decide +kernel, rfl⟩
theorem fF_howMany_63 : fD M_F_howMany 63 (.getfield 132) 3 66 := ⟨by decide +kernel, rfl⟩
theorem fF_howMany_66 : fD M_F_howMany 66 (.getfield 172) 3 69 := ⟨by decide +kernel, rfl⟩
theorem fF_howMany_69 : fD M_F_howMany 69 .ireturn 1 70 := ⟨by decide +kernel, rfl⟩
theorem fF_howMany_70 : fAL M_F_howMany 70 0 71 := Or.inl ⟨0, by decide +kernel, rfl, rfl⟩
theorem fF_howMany_71 : fD M_F_howMany 71 (.getfield 10) 3 74 := ⟨by decide +kernel, rfl⟩
theorem fF_howMany_74 : fD M_F_howMany 74 (.getfield 67) 3 77 := ⟨by decide +kernel, rfl⟩
theorem fF_howMany_77 : fD M_F_howMany 77 (.getfield 166) 3 80 := ⟨by decide +kernel, rfl⟩
theorem fF_howMany_80 : fD M_F_howMany 80 .ireturn 1 81 := ⟨by decide +kernel, rfl⟩
theorem fF_howMany_81 : fAL M_F_howMany 81 0 82 := Or.inl ⟨0, by decide +kernel, rfl, rfl⟩
theorem fF_howMany_82 : fD M_F_howMany 82 (.getfield 10) 3 85 := ⟨by decide +kernel, rfl⟩
theorem fF_howMany_85 : fD M_F_howMany 85 (.getfield 67) 3 88 := ⟨by decide +kernel, rfl⟩
theorem fF_howMany_88 : fD M_F_howMany 88 (.getfield 303) 3 91 := ⟨by decide +kernel, rfl⟩
theorem fF_howMany_91 : fD M_F_howMany 91 .ireturn 1 92 := ⟨by decide +kernel, rfl⟩
theorem fF_howMany_92 : fAL M_F_howMany 92 0 93 := Or.inl ⟨0, by decide +kernel, rfl, rfl⟩
theorem fF_howMany_93 : fD M_F_howMany 93 (.getfield 10) 3 96 := ⟨by decide +kernel, rfl⟩
theorem fF_howMany_96 : fD M_F_howMany 96 (.getfield 132) 3 99 := ⟨by decide +kernel, rfl⟩
theorem fF_howMany_99 : fD M_F_howMany 99 (.invokevirtual 306) 3 102 := ⟨by decide +kernel, rfl⟩
theorem fF_howMany_102 : fD M_F_howMany 102 .ireturn 1 103 := ⟨by decide +kernel, rfl⟩
theorem fF_howMany_103 : fAL M_F_howMany 103 0 104 := Or.inl ⟨0, by decide +kernel, rfl, rfl⟩
theorem fF_howMany_104 : fD M_F_howMany 104 (.getfield 10) 3 107 := ⟨by decide +kernel, rfl⟩
theorem fF_howMany_107 : fD M_F_howMany 107 (.getfield 240) 3 110 := ⟨by decide +kernel, rfl⟩
theorem fF_howMany_110 : fD M_F_howMany 110 (.getfield 244) 3 113 := ⟨by decide +kernel, rfl⟩
theorem fF_howMany_113 : fD M_F_howMany 113 .ireturn 1 114 := ⟨by decide +kernel, rfl⟩
theorem fF_howMany_114 : fAL M_F_howMany 114 0 115 := Or.inl ⟨0, by decide +kernel, rfl, rfl⟩
theorem fF_howMany_115 : fD M_F_howMany 115 (.getfield 10) 3 118 := ⟨by decide +kernel, rfl⟩
theorem fF_howMany_118 : fD M_F_howMany 118 (.getfield 240) 3 121 := ⟨by decide +kernel, rfl⟩
theorem fF_howMany_121 : fD M_F_howMany 121 (.getfield 258) 3 124 := ⟨by decide +kernel, rfl⟩
theorem fF_howMany_124 : fD M_F_howMany 124 .ireturn 1 125 := ⟨by decide +kernel, rfl⟩
theorem fF_howMany_125 : fAL M_F_howMany 125 0 126 := Or.inl ⟨0, by decide +kernel, rfl, rfl⟩
theorem fF_howMany_126 : fD M_F_howMany 126 (.getfield 10) 3 129 := ⟨by decide +kernel, rfl⟩
theorem fF_howMany_129 : fD M_F_howMany 129 (.getfield 177) 3 132 := ⟨by decide +kernel, rfl⟩
theorem fF_howMany_132 : fD M_F_howMany 132 (.getfield 181) 3 135 := ⟨by decide +kernel, rfl⟩
theorem fF_howMany_135 : fD M_F_howMany 135 .ireturn 1 136 := ⟨by decide +kernel, rfl⟩
theorem fF_howMany_136 : fAL M_F_howMany 136 0 137 := Or.inl ⟨0, by decide +kernel, rfl, rfl⟩
theorem fF_howMany_137 : fD M_F_howMany 137 (.getfield 40) 3 140 := ⟨by decide +kernel, rfl⟩
theorem fF_howMany_140 : fD M_F_howMany 140 (.getfield 114) 3 143 := ⟨by decide +kernel, rfl⟩
theorem fF_howMany_143 : fD M_F_howMany 143 .ireturn 1 144 := ⟨by decide +kernel, rfl⟩
theorem fF_setFraction_0 : fIL M_F_setFraction 0 2 1 := Or.inl ⟨2, by decide +kernel, rfl, rfl⟩
theorem fF_setFraction_1 : fIS M_F_setFraction 1 3 2 := Or.inl ⟨3, by decide +kernel, rfl, rfl⟩
theorem fF_setFraction_2 : fIL M_F_setFraction 2 1 3 := Or.inl ⟨1, by decide +kernel, rfl, rfl⟩
theorem fF_setFraction_3 : fIS M_F_setFraction 3 4 5 := Or.inr ⟨by decide +kernel, rfl⟩
theorem fF_setFraction_5 : fIC M_F_setFraction 5 0 6 := Or.inl ⟨0, by decide +kernel, by decide, rfl⟩
theorem fF_setFraction_6 : fIS M_F_setFraction 6 5 8 := Or.inr ⟨by decide +kernel, rfl⟩
theorem fF_setFraction_8 : fIL M_F_setFraction 8 5 10 := Or.inr ⟨by decide +kernel, rfl⟩
theorem fF_setFraction_10 : fIC M_F_setFraction 10 100 12 := Or.inr (Or.inl ⟨100, by decide +kernel, by decide, rfl⟩)
theorem fF_setFraction_12 : fB M_F_setFraction 12 (.if_icmp .ge 27) 27 15 39 := ⟨by decide +kernel, rfl, by decide⟩
theorem fF_setFraction_15 : fIL M_F_setFraction 15 4 17 := Or.inr ⟨by decide +kernel, rfl⟩
theorem fF_setFraction_17 : fB M_F_setFraction 17 (.ifCond .eq 22) 22 20 39 := ⟨by decide +kernel, rfl, by decide⟩
theorem fF_setFraction_20 : fIL M_F_setFraction 20 3 21 := Or.inl ⟨3, by decide +kernel, rfl, rfl⟩
theorem fF_setFraction_21 : fIL M_F_setFraction 21 4 23 := Or.inr ⟨by decide +kernel, rfl⟩
theorem fF_setFraction_23 : fD M_F_setFraction 23 .irem 1 24 := ⟨by decide +kernel, rfl⟩
theorem fF_setFraction_24 : fIS M_F_setFraction 24 6 26 := Or.inr ⟨by decide +kernel, rfl⟩
theorem fF_setFraction_26 : fIL M_F_setFraction 26 4 28 := Or.inr ⟨by decide +kernel, rfl⟩
theorem fF_setFraction_28 : fIS M_F_setFraction 28 3 29 := Or.inl ⟨3, by decide +kernel, rfl, rfl⟩
theorem fF_setFraction_29 : fIL M_F_setFraction 29 6 31 := Or.inr ⟨by decide +kernel, rfl⟩
theorem fF_setFraction_31 : fIS M_F_setFraction 31 4 33 := Or.inr ⟨by decide +kernel, rfl⟩
theorem fF_setFraction_33 : fD M_F_setFraction 33 (.iinc 5 1) 3 36 := ⟨by decide +kernel, rfl⟩
theorem fF_setFraction_36 : fB M_F_setFraction 36 (.goto (-28)) (-28) 39 8 := ⟨by decide +kernel, rfl, by decide⟩
theorem fF_setFraction_39 : fIL M_F_setFraction 39 3 40 := Or.inl ⟨3, by decide +kernel, rfl, rfl⟩
theorem fF_setFraction_40 : fB M_F_setFraction 40 (.ifCond .le 17) 17 43 57 := ⟨by decide +kernel, rfl, by decide⟩
theorem fF_setFraction_43 : fAL M_F_setFraction 43 0 44 := Or.inl ⟨0, by decide +kernel, rfl, rfl⟩
theorem fF_setFraction_44 : fIL M_F_setFraction 44 1 45 := Or.inl ⟨1, by decide +kernel, rfl, rfl⟩
theorem fF_setFraction_45 : fIL M_F_setFraction 45 3 46 := Or.inl ⟨3, by decide +kernel, rfl, rfl⟩
theorem fF_setFraction_46 : fD M_F_setFraction 46 .idiv 1 47 := ⟨by decide +kernel, rfl⟩
theorem fF_setFraction_47 : fD M_F_setFraction 47 (.putfield 51) 3 50 := ⟨by decide +kernel, rfl⟩
theorem fF_setFraction_50 : fAL M_F_setFraction 50 0 51 := Or.inl ⟨0, by decide +kernel, rfl, rfl⟩
theorem fF_setFraction_51 : fIL M_F_setFraction 51 2 52 := Or.inl ⟨2, by decide +kernel, rfl, rfl⟩
theorem fF_setFraction_52 : fIL M_F_setFraction 52 3 53 := Or.inl ⟨3, by decide +kernel, rfl, rfl⟩
theorem fF_setFraction_53 : fD M_F_setFraction 53 .idiv 1 54 := ⟨by decide +kernel, rfl⟩
theorem fF_setFraction_54 : fD M_F_setFraction 54 (.putfield 55) 3 57 := ⟨by decide +kernel, rfl⟩
theorem fF_setFraction_57 : fD M_F_setFraction 57 .return_ 1 58 := ⟨by decide +kernel, rfl⟩
theorem fF_bad_0 : fAL M_F_bad 0 0 1 := Or.inl ⟨0, by decide +kernel, rfl, rfl⟩
theorem fF_bad_1 : fD M_F_bad 1 .dup 1 2 := ⟨by decide +kernel, rfl⟩
theorem fF_bad_2 : fD M_F_bad 2 (.getfield 58) 3 5 := ⟨by decide +kernel, rfl⟩
theorem fF_bad_5 : fIC M_F_bad 5 1 6 := Or.inl ⟨1, by decide +kernel, by decide, rfl⟩
theorem fF_bad_6 : fD M_F_bad 6 .iadd 1 7 := ⟨by decide +kernel, rfl⟩
theorem fF_bad_7 : fD M_F_bad 7 (.putfield 58) 3 10 := ⟨by decide +kernel, rfl⟩
theorem fF_bad_10 : fIC M_F_bad 10 (-2) 12 := Or.inr (Or.inl ⟨(-2), by decide +kernel, by decide, rfl⟩)
theorem fF_bad_12 : fD M_F_bad 12 .ireturn 1 13 := ⟨by decide +kernel, rfl⟩
theorem fF_no_0 : fAL M_F_no 0 0 1 := Or.inl ⟨0, by decide +kernel, rfl, rfl⟩
theorem fF_no_1 : fD M_F_no 1 .dup 1 2 := ⟨by decide +kernel, rfl⟩
theorem fF_no_2 : fD M_F_no 2 (.getfield 61) 3 5 := ⟨by decide +kernel, rfl⟩
theorem fF_no_5 : fIC M_F_no 5 1 6 := Or.inl ⟨1, by decide +kernel, by decide, rfl⟩
theorem fF_no_6 : fD M_F_no 6 .iadd 1 7 := ⟨by decide +kernel, rfl⟩
theorem fF_no_7 : fD M_F_no 7 (.putfield 61) 3 10 := ⟨by decide +kernel, rfl⟩
theorem fF_no_10 : fIC M_F_no 10 (-3) 12 := Or.inr (Or.inl ⟨(-3), by decide +kernel, by decide, rfl⟩)
theorem fF_no_12 : fD M_F_no 12 .ireturn 1 13 := ⟨by decide +kernel, rfl⟩
theorem fF_full_0 : fAL M_F_full 0 0 1 := Or.inl ⟨0, by decide +kernel, rfl, rfl⟩
theorem fF_full_1 : fD M_F_full 1 .dup 1 2 := ⟨by decide +kernel, rfl⟩
theorem fF_full_2 : fD M_F_full 2 (.getfield 64) 3 5 := ⟨by decide +kernel, rfl⟩
theorem fF_full_5 : fIC M_F_full 5 1 6 := Or.inl ⟨1, by decide +kernel, by decide, rfl⟩
theorem fF_full_6 : fD M_F_full 6 .iadd 1 7 := ⟨by decide +kernel, rfl⟩
theorem fF_full_7 : fD M_F_full 7 (.putfield 64) 3 10 := ⟨by decide +kernel, rfl⟩
theorem fF_full_10 : fIC M_F_full 10 (-4) 12 := Or.inr (Or.inl ⟨(-4), by decide +kernel, by decide, rfl⟩)
theorem fF_full_12 : fD M_F_full 12 .ireturn 1 13 := ⟨by decide +kernel, rfl⟩
theorem fF_within_0 : fIL M_F_within 0 0 1 := Or.inl ⟨0, by decide +kernel, rfl, rfl⟩
theorem fF_within_1 : fIL M_F_within 1 1 2 := Or.inl ⟨1, by decide +kernel, rfl, rfl⟩
theorem fF_within_2 : fB M_F_within 2 (.if_icmp .lt 12) 12 5 14 := ⟨by decide +kernel, rfl, by decide⟩
theorem fF_within_5 : fIL M_F_within 5 0 6 := Or.inl ⟨0, by decide +kernel, rfl, rfl⟩
theorem fF_within_6 : fIL M_F_within 6 2 7 := Or.inl ⟨2, by decide +kernel, rfl, rfl⟩
theorem fF_within_7 : fB M_F_within 7 (.if_icmp .gt 7) 7 10 14 := ⟨by decide +kernel, rfl, by decide⟩
theorem fF_within_10 : fIC M_F_within 10 1 11 := Or.inl ⟨1, by decide +kernel, by decide, rfl⟩
theorem fF_within_11 : fB M_F_within 11 (.goto 4) 4 14 15 := ⟨by decide +kernel, rfl, by decide⟩
theorem fF_within_14 : fIC M_F_within 14 0 15 := Or.inl ⟨0, by decide +kernel, by decide, rfl⟩
theorem fF_within_15 : fD M_F_within 15 .ireturn 1 16 := ⟨by decide +kernel, rfl⟩
theorem fF_isFigure_0 : fIL M_F_isFigure 0 0 1 := Or.inl ⟨0, by decide +kernel, rfl, rfl⟩
theorem fF_isFigure_1 : fIC M_F_isFigure 1 0 2 := Or.inl ⟨0, by decide +kernel, by decide, rfl⟩
theorem fF_isFigure_2 : fIC M_F_isFigure 2 9 4 := Or.inr (Or.inl ⟨9, by decide +kernel, by decide, rfl⟩)
theorem fF_isFigure_4 : fD M_F_isFigure 4 (.invokestatic 85) 3 7 := ⟨by decide +kernel, rfl⟩
theorem fF_isFigure_7 : fD M_F_isFigure 7 .ireturn 1 8 := ⟨by decide +kernel, rfl⟩
theorem fF_isNumber_0 : fIL M_F_isNumber 0 0 1 := Or.inl ⟨0, by decide +kernel, rfl, rfl⟩
theorem fF_isNumber_1 : fIC M_F_isNumber 1 0 2 := Or.inl ⟨0, by decide +kernel, by decide, rfl⟩
theorem fF_isNumber_2 : fIC M_F_isNumber 2 99 4 := Or.inr (Or.inl ⟨99, by decide +kernel, by decide, rfl⟩)
theorem fF_isNumber_4 : fD M_F_isNumber 4 (.invokestatic 85) 3 7 := ⟨by decide +kernel, rfl⟩
theorem fF_isNumber_7 : fD M_F_isNumber 7 .ireturn 1 8 := ⟨by decide +kernel, rfl⟩
theorem fF_isSign_0 : fIL M_F_isSign 0 0 1 := Or.inl ⟨0, by decide +kernel, rfl, rfl⟩
theorem fF_isSign_1 : fIC M_F_isSign 1 0 2 := Or.inl ⟨0, by decide +kernel, by decide, rfl⟩
theorem fF_isSign_2 : fIC M_F_isSign 2 3 3 := Or.inl ⟨3, by decide +kernel, by decide, rfl⟩
theorem fF_isSign_3 : fD M_F_isSign 3 (.invokestatic 85) 3 6 := ⟨by decide +kernel, rfl⟩
theorem fF_isSign_6 : fD M_F_isSign 6 .ireturn 1 7 := ⟨by decide +kernel, rfl⟩
end
section
/-! the pure words -/
theorem sv {a b : Int32} (e : a = b) : some (Value.int a) = some (Value.int b) := by rw [e]
theorem svl {a b : Int64} (e : a = b) : some (Value.long a) = some (Value.long b) := by rw [e]
/-- what a kind wears as sign k on day D -/
def wr (K k D : Nat) : Nat := match K with
  | 1 => 2 + k
  | 2 => 4
  | 3 => if D % 7 = 6 then 0 else 2
  | 4 => if k = 0 then 0 else 3 + k
  | 5 => if D % 2 = 1 then 5 else 4
  | _ => 2
/-- what a kind rests -/
def rst (K w : Nat) : Nat := match K with
  | 2 => 6
  | 3 => 2
  | 5 => if w / 2 < 6 then w / 2 else 6
  | _ => 3
def bI (p : Prop) [Decidable p] : Int32 := if p then 1 else 0
theorem bI_t {p : Prop} [Decidable p] (h : p) : bI p = 1 := if_pos h
theorem bI_f {p : Prop} [Decidable p] (h : ¬ p) : bI p = 0 := if_neg h
theorem bI_n (p : Prop) [Decidable p] : narrow .boolean (.int (bI p)) = .int (bI p) := by unfold bI; split <;> rfl
def nF (W : Nat → Nat) : Nat → Int32 := fun j => nI (W j)
abbrev nA (n : Nat) (W : Nat → Nat) : cT := ia n (nF W)
theorem upd_nF {W : Nat → Nat} {i v : Nat} : upd (nF W) i (nI v) = nF (va_up W i v) := by
  funext j
  unfold upd nF va_up
  split <;> rfl
theorem up_s {α : Type} {f : Nat → α} {a : Nat} {c : α} : va_up f a c a = c := by simp [va_up]
theorem up_n {α : Type} {f : Nat → α} {a b : Nat} {c d : α} (n : b ≠ a) (e : f b = d) : va_up f a c b = d := by rw [va_up, if_neg n]; exact e
theorem up_swap {h : hT} {a b : Nat} {x z w : cT} (n : a ≠ b) : va_up (va_up (va_up h a x) b z) a w = va_up (va_up h a w) b z := by
  funext j
  unfold va_up
  by_cases h1 : j = a
  · subst h1; simp [n]
  · simp [h1]
theorem up_id {α : Type} {h : Nat → α} {a : Nat} {c : α} (e : h a = c) : va_up h a c = h := by
  funext j
  unfold va_up
  split
  · subst_vars; rfl
  · rfl
abbrev sO (w d : Nat) : cT := .inr (2, [.ref w, .int (nI d)])
abbrev lO (g n : Nat) : cT := .inr (6, [.ref g, .int (nI n)])
abbrev hO (q : Nat) : cT := .inr (1, [.ref (q + 1), .ref (q + 2), .ref (q + 3), .ref (q + 5), .ref (q + 8), .ref (q + 15)])
theorem dropc {α : Type} {l r : List α} {a : α} {i : Nat} (e : l.drop i = a :: r) : i < l.length ∧ l[i]? = some a ∧ l.drop (i + 1) = r := by
  have h : i < l.length := by
    rcases Nat.lt_or_ge i l.length with h | h
    · exact h
    · rw [List.drop_eq_nil_of_le h] at e; cases e
  rw [List.drop_eq_getElem_cons h] at e
  cases e
  exact ⟨h, List.getElem?_eq_getElem h, rfl⟩
theorem dropn {α : Type} {l : List α} {i : Nat} (e : l.drop i = []) : l.length ≤ i := List.drop_eq_nil_iff.mp e
/-- the array g holds the signs sg -/
def isSg (g : Nat → Int32) (sg : List Nat) : Prop := sg.length ≤ 4 ∧ ∀ j f, sg[j]? = some f → g j = nI f ∧ f < 10
/-- worn by signs, each times t -/
def wby (t : Int32) (K : Nat → Nat) (D : Nat) : Nat → List Nat → (Nat → Int32) → (Nat → Int32)
  | _, [], w => w
  | k, f :: r, w => wby t K D (k + 1) r (upd w f (w f + t * nI (wr (K f) k D)))
section KI
variable {E : eT} {n : Nat} {h : hT}
theorem c_wear {K k D : Nat} (hK : K ≤ 5) (hk : k < 2 ^ 30) (hD : D < 2 ^ 31) : fE M_I_wear E [.int (nI K), .int (nI k), .int (nI D)] n h (eV (.int (nI (wr K k D))) n h) := by
  refine fE.of (L := [some (.int (nI K)), some (.int (nI k)), some (.int (nI D))]) (by decide +kernel) (Nat.le_of_ble_eq_true rfl) rfl ?_
  refine a_il0 fI_wear_0 ?_
  match K, hK with
  | 0, _ =>
    refine a_tsO (tgt := 84) fI_wear_1 (by decide) (by decide) ?_
    refine a_ic fI_wear_84 ?_
    exact a_ri fI_wear_85 rfl (⟨rfl, rfl, rfl⟩)
  | 1, _ =>
    refine a_tsI (off := 35) (tgt := 36) fI_wear_1 (by decide) (by decide) rfl (by decide) ?_
    refine a_ic fI_wear_36 ?_
    refine a_il1 fI_wear_37 ?_
    refine a_iadd fI_wear_38 ?_
    exact a_ri fI_wear_39 rfl (⟨sv (nI_add 2 k), rfl, rfl⟩)
  | 2, _ =>
    refine a_tsI (off := 39) (tgt := 40) fI_wear_1 (by decide) (by decide) rfl (by decide) ?_
    refine a_ic fI_wear_40 ?_
    exact a_ri fI_wear_41 rfl (⟨rfl, rfl, rfl⟩)
  | 3, _ =>
    refine a_tsI (off := 41) (tgt := 42) fI_wear_1 (by decide) (by decide) rfl (by decide) ?_
    have e7 : nI D - nI D / 7 * 7 = nI (D % 7) := pk_rem (d := 7) hD (by decide) (by decide)
    refine a_il2 fI_wear_42 ?_
    refine a_ic fI_wear_43 ?_
    refine a_irem fI_wear_45 (by decide) ?_
    refine a_ic fI_wear_46 ?_
    refine a_ic_ne fI_wear_48 (fun c => ?_) (fun c => ?_)
    · have c7 : ¬ D % 7 = 6 := fun z => c (by rw [e7, z]; rfl)
      refine a_ic fI_wear_55 ?_
      exact a_ri fI_wear_56 rfl (⟨sv (by simp only [wr, if_neg c7]; rfl), rfl, rfl⟩)
    · have c7 : D % 7 = 6 := (nI_eq (b := 6) (by omega) (by decide)).mp (e7.symm.trans c)
      refine a_ic fI_wear_51 ?_
      refine a_goto fI_wear_52 ?_
      exact a_ri fI_wear_56 rfl (⟨sv (by simp only [wr, if_pos c7]; rfl), rfl, rfl⟩)
  | 4, _ =>
    refine a_tsI (off := 56) (tgt := 57) fI_wear_1 (by decide) (by decide) rfl (by decide) ?_
    refine a_il1 fI_wear_57 ?_
    refine a_if_ne fI_wear_58 (fun c => ?_) (fun c => ?_)
    · have c7 : ¬ k = 0 := fun z => c (by rw [z]; rfl)
      refine a_ic fI_wear_65 ?_
      refine a_il1 fI_wear_66 ?_
      refine a_iadd fI_wear_67 ?_
      refine a_ic fI_wear_68 ?_
      refine a_iadd fI_wear_69 ?_
      exact a_ri fI_wear_70 rfl (⟨sv (by simp only [wr, if_neg c7]; rw [show (2 : Int32) + nI k = nI (2 + k) from nI_add 2 k, show nI (2 + k) + 1 = nI (2 + k + 1) from nI_1 _]; congr 1; omega), rfl, rfl⟩)
    · have c7 : k = 0 := (nI_eq (b := 0) (by omega) (by decide)).mp c
      refine a_ic fI_wear_61 ?_
      refine a_goto fI_wear_62 ?_
      exact a_ri fI_wear_70 rfl (⟨sv (by simp only [wr, if_pos c7]; rfl), rfl, rfl⟩)
  | 5, _ =>
    refine a_tsI (off := 70) (tgt := 71) fI_wear_1 (by decide) (by decide) rfl (by decide) ?_
    have e7 : nI D - nI D / 2 * 2 = nI (D % 2) := pk_rem (d := 2) hD (by decide) (by decide)
    refine a_il2 fI_wear_71 ?_
    refine a_ic fI_wear_72 ?_
    refine a_irem fI_wear_73 (by decide) ?_
    refine a_ic fI_wear_74 ?_
    refine a_ic_ne fI_wear_75 (fun c => ?_) (fun c => ?_)
    · have c7 : ¬ D % 2 = 1 := fun z => c (by rw [e7, z]; rfl)
      refine a_ic fI_wear_82 ?_
      exact a_ri fI_wear_83 rfl (⟨sv (by simp only [wr, if_neg c7]; rfl), rfl, rfl⟩)
    · have c7 : D % 2 = 1 := (nI_eq (b := 1) (by omega) (by decide)).mp (e7.symm.trans c)
      refine a_ic fI_wear_78 ?_
      refine a_goto fI_wear_79 ?_
      exact a_ri fI_wear_83 rfl (⟨sv (by simp only [wr, if_pos c7]; rfl), rfl, rfl⟩)
theorem c_within {a b c9 : Int32} : fE M_F_within E [.int a, .int b, .int c9] n h (eV (.int (bI (b ≤ a ∧ a ≤ c9))) n h) := by
  refine fE.of (L := [some (.int a), some (.int b), some (.int c9)]) (by decide +kernel) (Nat.le_of_ble_eq_true rfl) rfl ?_
  refine a_il0 fF_within_0 ?_
  refine a_il1 fF_within_1 ?_
  refine a_ic_lt fF_within_2 (fun c => ?_) (fun c => ?_)
  · refine a_ic fF_within_14 ?_
    exact a_rz fF_within_15 rfl (by first | rfl | (split <;> rfl)) (⟨sv (by rw [bI_f (fun z => absurd z.1 (Int32.not_le.mpr c))]), rfl, rfl⟩)
  · have c1 := Int32.not_lt.mp c
    refine a_il0 fF_within_5 ?_
    refine a_il2 fF_within_6 ?_
    refine a_ic_gt fF_within_7 (fun c => ?_) (fun c => ?_)
    · refine a_ic fF_within_14 ?_
      exact a_rz fF_within_15 rfl (by first | rfl | (split <;> rfl)) (⟨sv (by rw [bI_f (fun z => absurd z.2 (Int32.not_le.mpr c))]), rfl, rfl⟩)
    · refine a_ic fF_within_10 ?_
      refine a_goto fF_within_11 ?_
      exact a_rz fF_within_15 rfl (by first | rfl | (split <;> rfl)) (⟨sv (by rw [bI_t ⟨c1, Int32.not_lt.mp c⟩]), rfl, rfl⟩)
end KI
end
