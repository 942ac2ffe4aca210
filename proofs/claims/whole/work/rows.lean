section
-- ===== PART A: goes FIRST, ahead of the names: the tables' words, and 'selects' of the private methods out of them =====
/-- a private method of a class that the tables say can be made, by its rows of tables_1 -/
def lw_okq (q : MethodName × Nat) : Prop := (q.1.cls ≠ "java/lang/invoke/MethodHandle" ∧ q.1.cls ≠ "java/lang/invoke/VarHandle") ∧ Cond.instantiable q.1.cls q.2 ∈ tables_1 ∧ Cond.privateMethod q.1 ∈ tables_1 ∧ Cond.instanceMethod q.1 ∈ tables_1
theorem lw_p0 : lw_okq (⟨"WhichHold$Reader", "startAnew", "()V"⟩, 10) := ⟨⟨by decide +kernel, by decide +kernel⟩, List.mem_of_getElem? (i := 28) (by decide +kernel), List.mem_of_getElem? (i := 486) (by decide +kernel), List.mem_of_getElem? (i := 487) (by decide +kernel)⟩
theorem lw_p1 : lw_okq (⟨"WhichHold$Reader", "nextToken", "()V"⟩, 10) := ⟨⟨by decide +kernel, by decide +kernel⟩, List.mem_of_getElem? (i := 28) (by decide +kernel), List.mem_of_getElem? (i := 491) (by decide +kernel), List.mem_of_getElem? (i := 492) (by decide +kernel)⟩
theorem lw_p2 : lw_okq (⟨"WhichHold$Reader", "endOfRun", "(II)I"⟩, 10) := ⟨⟨by decide +kernel, by decide +kernel⟩, List.mem_of_getElem? (i := 28) (by decide +kernel), List.mem_of_getElem? (i := 495) (by decide +kernel), List.mem_of_getElem? (i := 496) (by decide +kernel)⟩
theorem lw_p3 : lw_okq (⟨"WhichHold$Reader", "refuse", "(I)V"⟩, 10) := ⟨⟨by decide +kernel, by decide +kernel⟩, List.mem_of_getElem? (i := 28) (by decide +kernel), List.mem_of_getElem? (i := 502) (by decide +kernel), List.mem_of_getElem? (i := 503) (by decide +kernel)⟩
theorem lw_p4 : lw_okq (⟨"WhichHold$Reader", "lineBegun", "()I"⟩, 10) := ⟨⟨by decide +kernel, by decide +kernel⟩, List.mem_of_getElem? (i := 28) (by decide +kernel), List.mem_of_getElem? (i := 506) (by decide +kernel), List.mem_of_getElem? (i := 507) (by decide +kernel)⟩
theorem lw_p5 : lw_okq (⟨"WhichHold$Reader", "spells", "(Ljava/lang/String;)Z"⟩, 10) := ⟨⟨by decide +kernel, by decide +kernel⟩, List.mem_of_getElem? (i := 28) (by decide +kernel), List.mem_of_getElem? (i := 511) (by decide +kernel), List.mem_of_getElem? (i := 512) (by decide +kernel)⟩
theorem lw_p6 : lw_okq (⟨"WhichHold$Reader", "takeHold", "()V"⟩, 10) := ⟨⟨by decide +kernel, by decide +kernel⟩, List.mem_of_getElem? (i := 28) (by decide +kernel), List.mem_of_getElem? (i := 571) (by decide +kernel), List.mem_of_getElem? (i := 572) (by decide +kernel)⟩
theorem lw_p7 : lw_okq (⟨"WhichHold$Reader", "takeNumber", "(II)I"⟩, 10) := ⟨⟨by decide +kernel, by decide +kernel⟩, List.mem_of_getElem? (i := 28) (by decide +kernel), List.mem_of_getElem? (i := 575) (by decide +kernel), List.mem_of_getElem? (i := 576) (by decide +kernel)⟩
theorem lw_p8 : lw_okq (⟨"WhichHold$Reader", "takeSign", "()V"⟩, 10) := ⟨⟨by decide +kernel, by decide +kernel⟩, List.mem_of_getElem? (i := 28) (by decide +kernel), List.mem_of_getElem? (i := 579) (by decide +kernel), List.mem_of_getElem? (i := 580) (by decide +kernel)⟩
theorem lw_p9 : lw_okq (⟨"WhichHold$Reader", "takeDoor", "()V"⟩, 10) := ⟨⟨by decide +kernel, by decide +kernel⟩, List.mem_of_getElem? (i := 28) (by decide +kernel), List.mem_of_getElem? (i := 583) (by decide +kernel), List.mem_of_getElem? (i := 584) (by decide +kernel)⟩
theorem lw_p10 : lw_okq (⟨"WhichHold$Reader", "takeHole", "()V"⟩, 10) := ⟨⟨by decide +kernel, by decide +kernel⟩, List.mem_of_getElem? (i := 28) (by decide +kernel), List.mem_of_getElem? (i := 588) (by decide +kernel), List.mem_of_getElem? (i := 589) (by decide +kernel)⟩
theorem lw_p11 : lw_okq (⟨"WhichHold$Reader", "takePump", "()V"⟩, 10) := ⟨⟨by decide +kernel, by decide +kernel⟩, List.mem_of_getElem? (i := 28) (by decide +kernel), List.mem_of_getElem? (i := 592) (by decide +kernel), List.mem_of_getElem? (i := 593) (by decide +kernel)⟩
theorem lw_p12 : lw_okq (⟨"WhichHold$Reader", "takeRule", "(III)V"⟩, 10) := ⟨⟨by decide +kernel, by decide +kernel⟩, List.mem_of_getElem? (i := 28) (by decide +kernel), List.mem_of_getElem? (i := 596) (by decide +kernel), List.mem_of_getElem? (i := 597) (by decide +kernel)⟩
theorem lw_p13 : lw_okq (⟨"WhichHold", "forgetImages", "()V"⟩, 13) := ⟨⟨by decide +kernel, by decide +kernel⟩, List.mem_of_getElem? (i := 20) (by decide +kernel), List.mem_of_getElem? (i := 600) (by decide +kernel), List.mem_of_getElem? (i := 601) (by decide +kernel)⟩
theorem lw_p14 : lw_okq (⟨"WhichHold", "isHold", "(I)Z"⟩, 13) := ⟨⟨by decide +kernel, by decide +kernel⟩, List.mem_of_getElem? (i := 20) (by decide +kernel), List.mem_of_getElem? (i := 616) (by decide +kernel), List.mem_of_getElem? (i := 617) (by decide +kernel)⟩
theorem lw_p15 : lw_okq (⟨"WhichHold", "isDoor", "(I)Z"⟩, 13) := ⟨⟨by decide +kernel, by decide +kernel⟩, List.mem_of_getElem? (i := 20) (by decide +kernel), List.mem_of_getElem? (i := 627) (by decide +kernel), List.mem_of_getElem? (i := 628) (by decide +kernel)⟩
def lw_privs_1 : List (MethodName × Nat) := [(⟨"WhichHold$Reader", "startAnew", "()V"⟩, 10), (⟨"WhichHold$Reader", "nextToken", "()V"⟩, 10), (⟨"WhichHold$Reader", "endOfRun", "(II)I"⟩, 10), (⟨"WhichHold$Reader", "refuse", "(I)V"⟩, 10), (⟨"WhichHold$Reader", "lineBegun", "()I"⟩, 10), (⟨"WhichHold$Reader", "spells", "(Ljava/lang/String;)Z"⟩, 10), (⟨"WhichHold$Reader", "takeHold", "()V"⟩, 10), (⟨"WhichHold$Reader", "takeNumber", "(II)I"⟩, 10), (⟨"WhichHold$Reader", "takeSign", "()V"⟩, 10), (⟨"WhichHold$Reader", "takeDoor", "()V"⟩, 10), (⟨"WhichHold$Reader", "takeHole", "()V"⟩, 10), (⟨"WhichHold$Reader", "takePump", "()V"⟩, 10), (⟨"WhichHold$Reader", "takeRule", "(III)V"⟩, 10), (⟨"WhichHold", "forgetImages", "()V"⟩, 13), (⟨"WhichHold", "isHold", "(I)Z"⟩, 13), (⟨"WhichHold", "isDoor", "(I)Z"⟩, 13)]
theorem lw_r1 : ∀ q ∈ lw_privs_1, lw_okq q := List.forall_mem_cons.mpr ⟨lw_p0, List.forall_mem_cons.mpr ⟨lw_p1, List.forall_mem_cons.mpr ⟨lw_p2, List.forall_mem_cons.mpr ⟨lw_p3, List.forall_mem_cons.mpr ⟨lw_p4, List.forall_mem_cons.mpr ⟨lw_p5, List.forall_mem_cons.mpr ⟨lw_p6, List.forall_mem_cons.mpr ⟨lw_p7, List.forall_mem_cons.mpr ⟨lw_p8, List.forall_mem_cons.mpr ⟨lw_p9, List.forall_mem_cons.mpr ⟨lw_p10, List.forall_mem_cons.mpr ⟨lw_p11, List.forall_mem_cons.mpr ⟨lw_p12, List.forall_mem_cons.mpr ⟨lw_p13, List.forall_mem_cons.mpr ⟨lw_p14, List.forall_mem_cons.mpr ⟨lw_p15, fun _ h => absurd h List.not_mem_nil⟩⟩⟩⟩⟩⟩⟩⟩⟩⟩⟩⟩⟩⟩⟩⟩
theorem lw_p16 : lw_okq (⟨"WhichHold", "isHole", "(I)Z"⟩, 13) := ⟨⟨by decide +kernel, by decide +kernel⟩, List.mem_of_getElem? (i := 20) (by decide +kernel), List.mem_of_getElem? (i := 639) (by decide +kernel), List.mem_of_getElem? (i := 640) (by decide +kernel)⟩
theorem lw_p17 : lw_okq (⟨"WhichHold", "isPump", "(I)Z"⟩, 13) := ⟨⟨by decide +kernel, by decide +kernel⟩, List.mem_of_getElem? (i := 20) (by decide +kernel), List.mem_of_getElem? (i := 655) (by decide +kernel), List.mem_of_getElem? (i := 656) (by decide +kernel)⟩
theorem lw_p18 : lw_okq (⟨"WhichHold$State", "endOrders", "()V"⟩, 11) := ⟨⟨by decide +kernel, by decide +kernel⟩, List.mem_of_getElem? (i := 71) (by decide +kernel), List.mem_of_getElem? (i := 676) (by decide +kernel), List.mem_of_getElem? (i := 677) (by decide +kernel)⟩
theorem lw_p19 : lw_okq (⟨"WhichHold$State", "takePlace", "(III)V"⟩, 11) := ⟨⟨by decide +kernel, by decide +kernel⟩, List.mem_of_getElem? (i := 71) (by decide +kernel), List.mem_of_getElem? (i := 680) (by decide +kernel), List.mem_of_getElem? (i := 681) (by decide +kernel)⟩
theorem lw_p20 : lw_okq (⟨"WhichHold$State", "beginOrders", "(LWhichHold$Plan;)V"⟩, 11) := ⟨⟨by decide +kernel, by decide +kernel⟩, List.mem_of_getElem? (i := 71) (by decide +kernel), List.mem_of_getElem? (i := 684) (by decide +kernel), List.mem_of_getElem? (i := 685) (by decide +kernel)⟩
theorem lw_p21 : lw_okq (⟨"WhichHold$State", "canBegin", "(LWhichHold$Plan;II)Z"⟩, 11) := ⟨⟨by decide +kernel, by decide +kernel⟩, List.mem_of_getElem? (i := 71) (by decide +kernel), List.mem_of_getElem? (i := 688) (by decide +kernel), List.mem_of_getElem? (i := 689) (by decide +kernel)⟩
theorem lw_p22 : lw_okq (⟨"WhichHold$State", "comeThroughHoles", "(LWhichHold$Plan;)V"⟩, 11) := ⟨⟨by decide +kernel, by decide +kernel⟩, List.mem_of_getElem? (i := 71) (by decide +kernel), List.mem_of_getElem? (i := 704) (by decide +kernel), List.mem_of_getElem? (i := 705) (by decide +kernel)⟩
theorem lw_p23 : lw_okq (⟨"WhichHold$State", "comeThroughValves", "(LWhichHold$Plan;)V"⟩, 11) := ⟨⟨by decide +kernel, by decide +kernel⟩, List.mem_of_getElem? (i := 71) (by decide +kernel), List.mem_of_getElem? (i := 709) (by decide +kernel), List.mem_of_getElem? (i := 710) (by decide +kernel)⟩
theorem lw_p24 : lw_okq (⟨"WhichHold$State", "flowThroughDoor", "(LWhichHold$Plan;I)V"⟩, 11) := ⟨⟨by decide +kernel, by decide +kernel⟩, List.mem_of_getElem? (i := 71) (by decide +kernel), List.mem_of_getElem? (i := 716) (by decide +kernel), List.mem_of_getElem? (i := 717) (by decide +kernel)⟩
theorem lw_p25 : lw_okq (⟨"WhichHold$State", "pumpOut", "(LWhichHold$Plan;)V"⟩, 11) := ⟨⟨by decide +kernel, by decide +kernel⟩, List.mem_of_getElem? (i := 71) (by decide +kernel), List.mem_of_getElem? (i := 723) (by decide +kernel), List.mem_of_getElem? (i := 724) (by decide +kernel)⟩
theorem lw_p26 : lw_okq (⟨"WhichHold", "tell", "(IIII)I"⟩, 13) := ⟨⟨by decide +kernel, by decide +kernel⟩, List.mem_of_getElem? (i := 20) (by decide +kernel), List.mem_of_getElem? (i := 762) (by decide +kernel), List.mem_of_getElem? (i := 763) (by decide +kernel)⟩
theorem lw_p27 : lw_okq (⟨"WhichHold", "isOrder", "(III)Z"⟩, 13) := ⟨⟨by decide +kernel, by decide +kernel⟩, List.mem_of_getElem? (i := 20) (by decide +kernel), List.mem_of_getElem? (i := 766) (by decide +kernel), List.mem_of_getElem? (i := 767) (by decide +kernel)⟩
theorem lw_p28 : lw_okq (⟨"WhichHold$Search", "listChoices", "(LWhichHold$Plan;LWhichHold$State;)V"⟩, 10) := ⟨⟨by decide +kernel, by decide +kernel⟩, List.mem_of_getElem? (i := 190) (by decide +kernel), List.mem_of_getElem? (i := 813) (by decide +kernel), List.mem_of_getElem? (i := 814) (by decide +kernel)⟩
theorem lw_p29 : lw_okq (⟨"WhichHold$Search", "fillRow", "(II)Z"⟩, 10) := ⟨⟨by decide +kernel, by decide +kernel⟩, List.mem_of_getElem? (i := 190) (by decide +kernel), List.mem_of_getElem? (i := 817) (by decide +kernel), List.mem_of_getElem? (i := 818) (by decide +kernel)⟩
theorem lw_p30 : lw_okq (⟨"WhichHold$Search", "giveRow", "(LWhichHold$Plan;LWhichHold$State;I)V"⟩, 10) := ⟨⟨by decide +kernel, by decide +kernel⟩, List.mem_of_getElem? (i := 190) (by decide +kernel), List.mem_of_getElem? (i := 822) (by decide +kernel), List.mem_of_getElem? (i := 823) (by decide +kernel)⟩
theorem lw_p31 : lw_okq (⟨"WhichHold$Search", "keepIfBetter", "(II)V"⟩, 10) := ⟨⟨by decide +kernel, by decide +kernel⟩, List.mem_of_getElem? (i := 190) (by decide +kernel), List.mem_of_getElem? (i := 831) (by decide +kernel), List.mem_of_getElem? (i := 832) (by decide +kernel)⟩
def lw_privs_2 : List (MethodName × Nat) := [(⟨"WhichHold", "isHole", "(I)Z"⟩, 13), (⟨"WhichHold", "isPump", "(I)Z"⟩, 13), (⟨"WhichHold$State", "endOrders", "()V"⟩, 11), (⟨"WhichHold$State", "takePlace", "(III)V"⟩, 11), (⟨"WhichHold$State", "beginOrders", "(LWhichHold$Plan;)V"⟩, 11), (⟨"WhichHold$State", "canBegin", "(LWhichHold$Plan;II)Z"⟩, 11), (⟨"WhichHold$State", "comeThroughHoles", "(LWhichHold$Plan;)V"⟩, 11), (⟨"WhichHold$State", "comeThroughValves", "(LWhichHold$Plan;)V"⟩, 11), (⟨"WhichHold$State", "flowThroughDoor", "(LWhichHold$Plan;I)V"⟩, 11), (⟨"WhichHold$State", "pumpOut", "(LWhichHold$Plan;)V"⟩, 11), (⟨"WhichHold", "tell", "(IIII)I"⟩, 13), (⟨"WhichHold", "isOrder", "(III)Z"⟩, 13), (⟨"WhichHold$Search", "listChoices", "(LWhichHold$Plan;LWhichHold$State;)V"⟩, 10), (⟨"WhichHold$Search", "fillRow", "(II)Z"⟩, 10), (⟨"WhichHold$Search", "giveRow", "(LWhichHold$Plan;LWhichHold$State;I)V"⟩, 10), (⟨"WhichHold$Search", "keepIfBetter", "(II)V"⟩, 10)]
theorem lw_r2 : ∀ q ∈ lw_privs_2, lw_okq q := List.forall_mem_cons.mpr ⟨lw_p16, List.forall_mem_cons.mpr ⟨lw_p17, List.forall_mem_cons.mpr ⟨lw_p18, List.forall_mem_cons.mpr ⟨lw_p19, List.forall_mem_cons.mpr ⟨lw_p20, List.forall_mem_cons.mpr ⟨lw_p21, List.forall_mem_cons.mpr ⟨lw_p22, List.forall_mem_cons.mpr ⟨lw_p23, List.forall_mem_cons.mpr ⟨lw_p24, List.forall_mem_cons.mpr ⟨lw_p25, List.forall_mem_cons.mpr ⟨lw_p26, List.forall_mem_cons.mpr ⟨lw_p27, List.forall_mem_cons.mpr ⟨lw_p28, List.forall_mem_cons.mpr ⟨lw_p29, List.forall_mem_cons.mpr ⟨lw_p30, List.forall_mem_cons.mpr ⟨lw_p31, fun _ h => absurd h List.not_mem_nil⟩⟩⟩⟩⟩⟩⟩⟩⟩⟩⟩⟩⟩⟩⟩⟩
theorem lw_p32 : lw_okq (⟨"WhichHold", "isOpenAndIdle", "(I)Z"⟩, 13) := ⟨⟨by decide +kernel, by decide +kernel⟩, List.mem_of_getElem? (i := 20) (by decide +kernel), List.mem_of_getElem? (i := 847) (by decide +kernel), List.mem_of_getElem? (i := 848) (by decide +kernel)⟩
theorem lw_p33 : lw_okq (⟨"WhichHold", "minutesIfShut", "(III)I"⟩, 13) := ⟨⟨by decide +kernel, by decide +kernel⟩, List.mem_of_getElem? (i := 20) (by decide +kernel), List.mem_of_getElem? (i := 851) (by decide +kernel), List.mem_of_getElem? (i := 852) (by decide +kernel)⟩
theorem lw_p34 : lw_okq (⟨"WhichHold", "floatsWithFull", "(I)Z"⟩, 13) := ⟨⟨by decide +kernel, by decide +kernel⟩, List.mem_of_getElem? (i := 20) (by decide +kernel), List.mem_of_getElem? (i := 864) (by decide +kernel), List.mem_of_getElem? (i := 865) (by decide +kernel)⟩
theorem lw_p35 : lw_okq (⟨"WhichHold", "partnersOf", "(I)I"⟩, 13) := ⟨⟨by decide +kernel, by decide +kernel⟩, List.mem_of_getElem? (i := 20) (by decide +kernel), List.mem_of_getElem? (i := 873) (by decide +kernel), List.mem_of_getElem? (i := 874) (by decide +kernel)⟩
theorem lw_p36 : lw_okq (⟨"WhichHold", "mostUprightSet", "()I"⟩, 13) := ⟨⟨by decide +kernel, by decide +kernel⟩, List.mem_of_getElem? (i := 20) (by decide +kernel), List.mem_of_getElem? (i := 891) (by decide +kernel), List.mem_of_getElem? (i := 892) (by decide +kernel)⟩
theorem lw_p37 : lw_okq (⟨"WhichHold", "openDoors", "()I"⟩, 13) := ⟨⟨by decide +kernel, by decide +kernel⟩, List.mem_of_getElem? (i := 20) (by decide +kernel), List.mem_of_getElem? (i := 899) (by decide +kernel), List.mem_of_getElem? (i := 900) (by decide +kernel)⟩
theorem lw_p38 : lw_okq (⟨"WhichHold", "reachedFrom", "(II)I"⟩, 13) := ⟨⟨by decide +kernel, by decide +kernel⟩, List.mem_of_getElem? (i := 20) (by decide +kernel), List.mem_of_getElem? (i := 903) (by decide +kernel), List.mem_of_getElem? (i := 904) (by decide +kernel)⟩
theorem lw_p39 : lw_okq (⟨"WhichHold", "holdsWithHoles", "()I"⟩, 13) := ⟨⟨by decide +kernel, by decide +kernel⟩, List.mem_of_getElem? (i := 20) (by decide +kernel), List.mem_of_getElem? (i := 911) (by decide +kernel), List.mem_of_getElem? (i := 912) (by decide +kernel)⟩
theorem lw_p40 : lw_okq (⟨"WhichHold", "fewestDoorsAround", "(II)I"⟩, 13) := ⟨⟨by decide +kernel, by decide +kernel⟩, List.mem_of_getElem? (i := 20) (by decide +kernel), List.mem_of_getElem? (i := 915) (by decide +kernel), List.mem_of_getElem? (i := 916) (by decide +kernel)⟩
theorem lw_p41 : lw_okq (⟨"WhichHold$Soundings", "fits", "(II)Z"⟩, 2) := ⟨⟨by decide +kernel, by decide +kernel⟩, List.mem_of_getElem? (i := 231) (by decide +kernel), List.mem_of_getElem? (i := 943) (by decide +kernel), List.mem_of_getElem? (i := 944) (by decide +kernel)⟩
theorem lw_p42 : lw_okq (⟨"WhichHold", "tellFrom", "(LWhichHold$Sheet;I)I"⟩, 13) := ⟨⟨by decide +kernel, by decide +kernel⟩, List.mem_of_getElem? (i := 20) (by decide +kernel), List.mem_of_getElem? (i := 974) (by decide +kernel), List.mem_of_getElem? (i := 975) (by decide +kernel)⟩
theorem lw_p43 : lw_okq (⟨"WhichHoldModel", "firstDraft", "()V"⟩, 42) := ⟨⟨by decide +kernel, by decide +kernel⟩, List.mem_of_getElem? (i := 986) (by decide +kernel), List.mem_of_getElem? (i := 992) (by decide +kernel), List.mem_of_getElem? (i := 993) (by decide +kernel)⟩
theorem lw_p44 : lw_okq (⟨"WhichHoldModel", "keepDraft", "()V"⟩, 42) := ⟨⟨by decide +kernel, by decide +kernel⟩, List.mem_of_getElem? (i := 986) (by decide +kernel), List.mem_of_getElem? (i := 996) (by decide +kernel), List.mem_of_getElem? (i := 997) (by decide +kernel)⟩
theorem lw_p45 : lw_okq (⟨"WhichHoldModel", "sees", "(I)V"⟩, 42) := ⟨⟨by decide +kernel, by decide +kernel⟩, List.mem_of_getElem? (i := 986) (by decide +kernel), List.mem_of_getElem? (i := 1000) (by decide +kernel), List.mem_of_getElem? (i := 1001) (by decide +kernel)⟩
theorem lw_p46 : lw_okq (⟨"WhichHoldModel", "whySinks", "(I)I"⟩, 42) := ⟨⟨by decide +kernel, by decide +kernel⟩, List.mem_of_getElem? (i := 986) (by decide +kernel), List.mem_of_getElem? (i := 1004) (by decide +kernel), List.mem_of_getElem? (i := 1005) (by decide +kernel)⟩
theorem lw_p47 : lw_okq (⟨"WhichHoldModel", "allOf", "(I)I"⟩, 42) := ⟨⟨by decide +kernel, by decide +kernel⟩, List.mem_of_getElem? (i := 986) (by decide +kernel), List.mem_of_getElem? (i := 1008) (by decide +kernel), List.mem_of_getElem? (i := 1009) (by decide +kernel)⟩
def lw_privs_3 : List (MethodName × Nat) := [(⟨"WhichHold", "isOpenAndIdle", "(I)Z"⟩, 13), (⟨"WhichHold", "minutesIfShut", "(III)I"⟩, 13), (⟨"WhichHold", "floatsWithFull", "(I)Z"⟩, 13), (⟨"WhichHold", "partnersOf", "(I)I"⟩, 13), (⟨"WhichHold", "mostUprightSet", "()I"⟩, 13), (⟨"WhichHold", "openDoors", "()I"⟩, 13), (⟨"WhichHold", "reachedFrom", "(II)I"⟩, 13), (⟨"WhichHold", "holdsWithHoles", "()I"⟩, 13), (⟨"WhichHold", "fewestDoorsAround", "(II)I"⟩, 13), (⟨"WhichHold$Soundings", "fits", "(II)Z"⟩, 2), (⟨"WhichHold", "tellFrom", "(LWhichHold$Sheet;I)I"⟩, 13), (⟨"WhichHoldModel", "firstDraft", "()V"⟩, 42), (⟨"WhichHoldModel", "keepDraft", "()V"⟩, 42), (⟨"WhichHoldModel", "sees", "(I)V"⟩, 42), (⟨"WhichHoldModel", "whySinks", "(I)I"⟩, 42), (⟨"WhichHoldModel", "allOf", "(I)I"⟩, 42)]
theorem lw_r3 : ∀ q ∈ lw_privs_3, lw_okq q := List.forall_mem_cons.mpr ⟨lw_p32, List.forall_mem_cons.mpr ⟨lw_p33, List.forall_mem_cons.mpr ⟨lw_p34, List.forall_mem_cons.mpr ⟨lw_p35, List.forall_mem_cons.mpr ⟨lw_p36, List.forall_mem_cons.mpr ⟨lw_p37, List.forall_mem_cons.mpr ⟨lw_p38, List.forall_mem_cons.mpr ⟨lw_p39, List.forall_mem_cons.mpr ⟨lw_p40, List.forall_mem_cons.mpr ⟨lw_p41, List.forall_mem_cons.mpr ⟨lw_p42, List.forall_mem_cons.mpr ⟨lw_p43, List.forall_mem_cons.mpr ⟨lw_p44, List.forall_mem_cons.mpr ⟨lw_p45, List.forall_mem_cons.mpr ⟨lw_p46, List.forall_mem_cons.mpr ⟨lw_p47, fun _ h => absurd h List.not_mem_nil⟩⟩⟩⟩⟩⟩⟩⟩⟩⟩⟩⟩⟩⟩⟩⟩
theorem lw_p48 : lw_okq (⟨"WhichHoldModel", "listOf", "(I)I"⟩, 42) := ⟨⟨by decide +kernel, by decide +kernel⟩, List.mem_of_getElem? (i := 986) (by decide +kernel), List.mem_of_getElem? (i := 1012) (by decide +kernel), List.mem_of_getElem? (i := 1013) (by decide +kernel)⟩
theorem lw_p49 : lw_okq (⟨"WhichHoldModel", "trimOf", "(I)I"⟩, 42) := ⟨⟨by decide +kernel, by decide +kernel⟩, List.mem_of_getElem? (i := 986) (by decide +kernel), List.mem_of_getElem? (i := 1019) (by decide +kernel), List.mem_of_getElem? (i := 1020) (by decide +kernel)⟩
theorem lw_p50 : lw_okq (⟨"WhichHoldModel", "next", "()V"⟩, 42) := ⟨⟨by decide +kernel, by decide +kernel⟩, List.mem_of_getElem? (i := 986) (by decide +kernel), List.mem_of_getElem? (i := 1166) (by decide +kernel), List.mem_of_getElem? (i := 1167) (by decide +kernel)⟩
theorem lw_p51 : lw_okq (⟨"WhichHoldModel", "look", "(I)I"⟩, 42) := ⟨⟨by decide +kernel, by decide +kernel⟩, List.mem_of_getElem? (i := 986) (by decide +kernel), List.mem_of_getElem? (i := 1170) (by decide +kernel), List.mem_of_getElem? (i := 1171) (by decide +kernel)⟩
theorem lw_p52 : lw_okq (⟨"WhichHoldModel", "needs", "(ZI)V"⟩, 42) := ⟨⟨by decide +kernel, by decide +kernel⟩, List.mem_of_getElem? (i := 986) (by decide +kernel), List.mem_of_getElem? (i := 1178) (by decide +kernel), List.mem_of_getElem? (i := 1179) (by decide +kernel)⟩
theorem lw_p53 : lw_okq (⟨"WhichHoldModel", "readLine", "()V"⟩, 42) := ⟨⟨by decide +kernel, by decide +kernel⟩, List.mem_of_getElem? (i := 986) (by decide +kernel), List.mem_of_getElem? (i := 1182) (by decide +kernel), List.mem_of_getElem? (i := 1183) (by decide +kernel)⟩
theorem lw_p54 : lw_okq (⟨"WhichHoldModel", "nameNow", "()I"⟩, 42) := ⟨⟨by decide +kernel, by decide +kernel⟩, List.mem_of_getElem? (i := 986) (by decide +kernel), List.mem_of_getElem? (i := 1186) (by decide +kernel), List.mem_of_getElem? (i := 1187) (by decide +kernel)⟩
theorem lw_p55 : lw_okq (⟨"WhichHoldModel", "is", "(IIIII)Z"⟩, 42) := ⟨⟨by decide +kernel, by decide +kernel⟩, List.mem_of_getElem? (i := 986) (by decide +kernel), List.mem_of_getElem? (i := 1190) (by decide +kernel), List.mem_of_getElem? (i := 1191) (by decide +kernel)⟩
theorem lw_p56 : lw_okq (⟨"WhichHoldModel", "aHold", "()V"⟩, 42) := ⟨⟨by decide +kernel, by decide +kernel⟩, List.mem_of_getElem? (i := 986) (by decide +kernel), List.mem_of_getElem? (i := 1197) (by decide +kernel), List.mem_of_getElem? (i := 1198) (by decide +kernel)⟩
theorem lw_p57 : lw_okq (⟨"WhichHoldModel", "readNumber", "(II)I"⟩, 42) := ⟨⟨by decide +kernel, by decide +kernel⟩, List.mem_of_getElem? (i := 986) (by decide +kernel), List.mem_of_getElem? (i := 1201) (by decide +kernel), List.mem_of_getElem? (i := 1202) (by decide +kernel)⟩
theorem lw_p58 : lw_okq (⟨"WhichHoldModel", "isNumber", "(II)V"⟩, 42) := ⟨⟨by decide +kernel, by decide +kernel⟩, List.mem_of_getElem? (i := 986) (by decide +kernel), List.mem_of_getElem? (i := 1205) (by decide +kernel), List.mem_of_getElem? (i := 1206) (by decide +kernel)⟩
theorem lw_p59 : lw_okq (⟨"WhichHoldModel", "aDoor", "()V"⟩, 42) := ⟨⟨by decide +kernel, by decide +kernel⟩, List.mem_of_getElem? (i := 986) (by decide +kernel), List.mem_of_getElem? (i := 1209) (by decide +kernel), List.mem_of_getElem? (i := 1210) (by decide +kernel)⟩
theorem lw_p60 : lw_okq (⟨"WhichHoldModel", "readHold", "()I"⟩, 42) := ⟨⟨by decide +kernel, by decide +kernel⟩, List.mem_of_getElem? (i := 986) (by decide +kernel), List.mem_of_getElem? (i := 1213) (by decide +kernel), List.mem_of_getElem? (i := 1214) (by decide +kernel)⟩
theorem lw_p61 : lw_okq (⟨"WhichHoldModel", "aHole", "()V"⟩, 42) := ⟨⟨by decide +kernel, by decide +kernel⟩, List.mem_of_getElem? (i := 986) (by decide +kernel), List.mem_of_getElem? (i := 1220) (by decide +kernel), List.mem_of_getElem? (i := 1221) (by decide +kernel)⟩
theorem lw_p62 : lw_okq (⟨"WhichHoldModel", "aPump", "()V"⟩, 42) := ⟨⟨by decide +kernel, by decide +kernel⟩, List.mem_of_getElem? (i := 986) (by decide +kernel), List.mem_of_getElem? (i := 1224) (by decide +kernel), List.mem_of_getElem? (i := 1225) (by decide +kernel)⟩
theorem lw_p63 : lw_okq (⟨"WhichHoldModel", "isHold", "(I)Z"⟩, 42) := ⟨⟨by decide +kernel, by decide +kernel⟩, List.mem_of_getElem? (i := 986) (by decide +kernel), List.mem_of_getElem? (i := 1236) (by decide +kernel), List.mem_of_getElem? (i := 1237) (by decide +kernel)⟩
def lw_privs_4 : List (MethodName × Nat) := [(⟨"WhichHoldModel", "listOf", "(I)I"⟩, 42), (⟨"WhichHoldModel", "trimOf", "(I)I"⟩, 42), (⟨"WhichHoldModel", "next", "()V"⟩, 42), (⟨"WhichHoldModel", "look", "(I)I"⟩, 42), (⟨"WhichHoldModel", "needs", "(ZI)V"⟩, 42), (⟨"WhichHoldModel", "readLine", "()V"⟩, 42), (⟨"WhichHoldModel", "nameNow", "()I"⟩, 42), (⟨"WhichHoldModel", "is", "(IIIII)Z"⟩, 42), (⟨"WhichHoldModel", "aHold", "()V"⟩, 42), (⟨"WhichHoldModel", "readNumber", "(II)I"⟩, 42), (⟨"WhichHoldModel", "isNumber", "(II)V"⟩, 42), (⟨"WhichHoldModel", "aDoor", "()V"⟩, 42), (⟨"WhichHoldModel", "readHold", "()I"⟩, 42), (⟨"WhichHoldModel", "aHole", "()V"⟩, 42), (⟨"WhichHoldModel", "aPump", "()V"⟩, 42), (⟨"WhichHoldModel", "isHold", "(I)Z"⟩, 42)]
theorem lw_r4 : ∀ q ∈ lw_privs_4, lw_okq q := List.forall_mem_cons.mpr ⟨lw_p48, List.forall_mem_cons.mpr ⟨lw_p49, List.forall_mem_cons.mpr ⟨lw_p50, List.forall_mem_cons.mpr ⟨lw_p51, List.forall_mem_cons.mpr ⟨lw_p52, List.forall_mem_cons.mpr ⟨lw_p53, List.forall_mem_cons.mpr ⟨lw_p54, List.forall_mem_cons.mpr ⟨lw_p55, List.forall_mem_cons.mpr ⟨lw_p56, List.forall_mem_cons.mpr ⟨lw_p57, List.forall_mem_cons.mpr ⟨lw_p58, List.forall_mem_cons.mpr ⟨lw_p59, List.forall_mem_cons.mpr ⟨lw_p60, List.forall_mem_cons.mpr ⟨lw_p61, List.forall_mem_cons.mpr ⟨lw_p62, List.forall_mem_cons.mpr ⟨lw_p63, fun _ h => absurd h List.not_mem_nil⟩⟩⟩⟩⟩⟩⟩⟩⟩⟩⟩⟩⟩⟩⟩⟩
theorem lw_p64 : lw_okq (⟨"WhichHoldModel", "heightOf", "(II)I"⟩, 42) := ⟨⟨by decide +kernel, by decide +kernel⟩, List.mem_of_getElem? (i := 986) (by decide +kernel), List.mem_of_getElem? (i := 1241) (by decide +kernel), List.mem_of_getElem? (i := 1242) (by decide +kernel)⟩
theorem lw_p65 : lw_okq (⟨"WhichHoldModel", "isDoor", "(I)Z"⟩, 42) := ⟨⟨by decide +kernel, by decide +kernel⟩, List.mem_of_getElem? (i := 986) (by decide +kernel), List.mem_of_getElem? (i := 1249) (by decide +kernel), List.mem_of_getElem? (i := 1250) (by decide +kernel)⟩
theorem lw_p66 : lw_okq (⟨"WhichHoldModel", "comesIn", "(II)I"⟩, 42) := ⟨⟨by decide +kernel, by decide +kernel⟩, List.mem_of_getElem? (i := 986) (by decide +kernel), List.mem_of_getElem? (i := 1258) (by decide +kernel), List.mem_of_getElem? (i := 1259) (by decide +kernel)⟩
theorem lw_p67 : lw_okq (⟨"WhichHoldModel", "room", "(II)I"⟩, 42) := ⟨⟨by decide +kernel, by decide +kernel⟩, List.mem_of_getElem? (i := 986) (by decide +kernel), List.mem_of_getElem? (i := 1262) (by decide +kernel), List.mem_of_getElem? (i := 1263) (by decide +kernel)⟩
theorem lw_p68 : lw_okq (⟨"WhichHoldModel", "aMinute", "(I)V"⟩, 42) := ⟨⟨by decide +kernel, by decide +kernel⟩, List.mem_of_getElem? (i := 986) (by decide +kernel), List.mem_of_getElem? (i := 1283) (by decide +kernel), List.mem_of_getElem? (i := 1284) (by decide +kernel)⟩
theorem lw_p69 : lw_okq (⟨"WhichHoldModel", "ordersGo", "(I)V"⟩, 42) := ⟨⟨by decide +kernel, by decide +kernel⟩, List.mem_of_getElem? (i := 986) (by decide +kernel), List.mem_of_getElem? (i := 1287) (by decide +kernel), List.mem_of_getElem? (i := 1288) (by decide +kernel)⟩
theorem lw_p70 : lw_okq (⟨"WhichHoldModel", "ends", "(II)V"⟩, 42) := ⟨⟨by decide +kernel, by decide +kernel⟩, List.mem_of_getElem? (i := 986) (by decide +kernel), List.mem_of_getElem? (i := 1291) (by decide +kernel), List.mem_of_getElem? (i := 1292) (by decide +kernel)⟩
theorem lw_p71 : lw_okq (⟨"WhichHoldModel", "canBegin", "(II)Z"⟩, 42) := ⟨⟨by decide +kernel, by decide +kernel⟩, List.mem_of_getElem? (i := 986) (by decide +kernel), List.mem_of_getElem? (i := 1295) (by decide +kernel), List.mem_of_getElem? (i := 1296) (by decide +kernel)⟩
theorem lw_p72 : lw_okq (⟨"WhichHoldModel", "begins", "(II)V"⟩, 42) := ⟨⟨by decide +kernel, by decide +kernel⟩, List.mem_of_getElem? (i := 986) (by decide +kernel), List.mem_of_getElem? (i := 1299) (by decide +kernel), List.mem_of_getElem? (i := 1300) (by decide +kernel)⟩
theorem lw_p73 : lw_okq (⟨"WhichHoldModel", "takes", "(II)I"⟩, 42) := ⟨⟨by decide +kernel, by decide +kernel⟩, List.mem_of_getElem? (i := 986) (by decide +kernel), List.mem_of_getElem? (i := 1303) (by decide +kernel), List.mem_of_getElem? (i := 1304) (by decide +kernel)⟩
theorem lw_p74 : lw_okq (⟨"WhichHoldModel", "waterGoes", "(I)V"⟩, 42) := ⟨⟨by decide +kernel, by decide +kernel⟩, List.mem_of_getElem? (i := 986) (by decide +kernel), List.mem_of_getElem? (i := 1307) (by decide +kernel), List.mem_of_getElem? (i := 1308) (by decide +kernel)⟩
theorem lw_p75 : lw_okq (⟨"WhichHoldModel", "aTon", "(II)V"⟩, 42) := ⟨⟨by decide +kernel, by decide +kernel⟩, List.mem_of_getElem? (i := 986) (by decide +kernel), List.mem_of_getElem? (i := 1311) (by decide +kernel), List.mem_of_getElem? (i := 1312) (by decide +kernel)⟩
theorem lw_p76 : lw_okq (⟨"WhichHoldModel", "copies", "(II)V"⟩, 42) := ⟨⟨by decide +kernel, by decide +kernel⟩, List.mem_of_getElem? (i := 986) (by decide +kernel), List.mem_of_getElem? (i := 1323) (by decide +kernel), List.mem_of_getElem? (i := 1324) (by decide +kernel)⟩
theorem lw_p77 : lw_okq (⟨"WhichHoldModel", "isOrder", "(JIII)Z"⟩, 42) := ⟨⟨by decide +kernel, by decide +kernel⟩, List.mem_of_getElem? (i := 986) (by decide +kernel), List.mem_of_getElem? (i := 1335) (by decide +kernel), List.mem_of_getElem? (i := 1336) (by decide +kernel)⟩
theorem lw_p78 : lw_okq (⟨"WhichHoldModel", "tells", "(IIIII)V"⟩, 42) := ⟨⟨by decide +kernel, by decide +kernel⟩, List.mem_of_getElem? (i := 986) (by decide +kernel), List.mem_of_getElem? (i := 1340) (by decide +kernel), List.mem_of_getElem? (i := 1341) (by decide +kernel)⟩
theorem lw_p79 : lw_okq (⟨"WhichHoldModel", "runs", "(I)V"⟩, 42) := ⟨⟨by decide +kernel, by decide +kernel⟩, List.mem_of_getElem? (i := 986) (by decide +kernel), List.mem_of_getElem? (i := 1356) (by decide +kernel), List.mem_of_getElem? (i := 1357) (by decide +kernel)⟩
def lw_privs_5 : List (MethodName × Nat) := [(⟨"WhichHoldModel", "heightOf", "(II)I"⟩, 42), (⟨"WhichHoldModel", "isDoor", "(I)Z"⟩, 42), (⟨"WhichHoldModel", "comesIn", "(II)I"⟩, 42), (⟨"WhichHoldModel", "room", "(II)I"⟩, 42), (⟨"WhichHoldModel", "aMinute", "(I)V"⟩, 42), (⟨"WhichHoldModel", "ordersGo", "(I)V"⟩, 42), (⟨"WhichHoldModel", "ends", "(II)V"⟩, 42), (⟨"WhichHoldModel", "canBegin", "(II)Z"⟩, 42), (⟨"WhichHoldModel", "begins", "(II)V"⟩, 42), (⟨"WhichHoldModel", "takes", "(II)I"⟩, 42), (⟨"WhichHoldModel", "waterGoes", "(I)V"⟩, 42), (⟨"WhichHoldModel", "aTon", "(II)V"⟩, 42), (⟨"WhichHoldModel", "copies", "(II)V"⟩, 42), (⟨"WhichHoldModel", "isOrder", "(JIII)Z"⟩, 42), (⟨"WhichHoldModel", "tells", "(IIIII)V"⟩, 42), (⟨"WhichHoldModel", "runs", "(I)V"⟩, 42)]
theorem lw_r5 : ∀ q ∈ lw_privs_5, lw_okq q := List.forall_mem_cons.mpr ⟨lw_p64, List.forall_mem_cons.mpr ⟨lw_p65, List.forall_mem_cons.mpr ⟨lw_p66, List.forall_mem_cons.mpr ⟨lw_p67, List.forall_mem_cons.mpr ⟨lw_p68, List.forall_mem_cons.mpr ⟨lw_p69, List.forall_mem_cons.mpr ⟨lw_p70, List.forall_mem_cons.mpr ⟨lw_p71, List.forall_mem_cons.mpr ⟨lw_p72, List.forall_mem_cons.mpr ⟨lw_p73, List.forall_mem_cons.mpr ⟨lw_p74, List.forall_mem_cons.mpr ⟨lw_p75, List.forall_mem_cons.mpr ⟨lw_p76, List.forall_mem_cons.mpr ⟨lw_p77, List.forall_mem_cons.mpr ⟨lw_p78, List.forall_mem_cons.mpr ⟨lw_p79, fun _ h => absurd h List.not_mem_nil⟩⟩⟩⟩⟩⟩⟩⟩⟩⟩⟩⟩⟩⟩⟩⟩
theorem lw_p80 : lw_okq (⟨"WhichHoldModel", "untilSunk", "()I"⟩, 42) := ⟨⟨by decide +kernel, by decide +kernel⟩, List.mem_of_getElem? (i := 986) (by decide +kernel), List.mem_of_getElem? (i := 1360) (by decide +kernel), List.mem_of_getElem? (i := 1361) (by decide +kernel)⟩
theorem lw_p81 : lw_okq (⟨"WhichHoldModel", "freeFor", "(I)I"⟩, 42) := ⟨⟨by decide +kernel, by decide +kernel⟩, List.mem_of_getElem? (i := 986) (by decide +kernel), List.mem_of_getElem? (i := 1372) (by decide +kernel), List.mem_of_getElem? (i := 1373) (by decide +kernel)⟩
theorem lw_p82 : lw_okq (⟨"WhichHoldModel", "frees", "()V"⟩, 42) := ⟨⟨by decide +kernel, by decide +kernel⟩, List.mem_of_getElem? (i := 986) (by decide +kernel), List.mem_of_getElem? (i := 1376) (by decide +kernel), List.mem_of_getElem? (i := 1377) (by decide +kernel)⟩
theorem lw_p83 : lw_okq (⟨"WhichHoldModel", "findChoices", "()V"⟩, 42) := ⟨⟨by decide +kernel, by decide +kernel⟩, List.mem_of_getElem? (i := 986) (by decide +kernel), List.mem_of_getElem? (i := 1386) (by decide +kernel), List.mem_of_getElem? (i := 1387) (by decide +kernel)⟩
theorem lw_p84 : lw_okq (⟨"WhichHoldModel", "findBest", "(II)V"⟩, 42) := ⟨⟨by decide +kernel, by decide +kernel⟩, List.mem_of_getElem? (i := 986) (by decide +kernel), List.mem_of_getElem? (i := 1390) (by decide +kernel), List.mem_of_getElem? (i := 1391) (by decide +kernel)⟩
theorem lw_p85 : lw_okq (⟨"WhichHoldModel", "isUnlike", "(I)Z"⟩, 42) := ⟨⟨by decide +kernel, by decide +kernel⟩, List.mem_of_getElem? (i := 986) (by decide +kernel), List.mem_of_getElem? (i := 1394) (by decide +kernel), List.mem_of_getElem? (i := 1395) (by decide +kernel)⟩
theorem lw_p86 : lw_okq (⟨"WhichHoldModel", "tries", "(II)V"⟩, 42) := ⟨⟨by decide +kernel, by decide +kernel⟩, List.mem_of_getElem? (i := 986) (by decide +kernel), List.mem_of_getElem? (i := 1398) (by decide +kernel), List.mem_of_getElem? (i := 1399) (by decide +kernel)⟩
theorem lw_p87 : lw_okq (⟨"WhichHoldModel", "canShut", "(I)Z"⟩, 42) := ⟨⟨by decide +kernel, by decide +kernel⟩, List.mem_of_getElem? (i := 986) (by decide +kernel), List.mem_of_getElem? (i := 1410) (by decide +kernel), List.mem_of_getElem? (i := 1411) (by decide +kernel)⟩
theorem lw_p88 : lw_okq (⟨"WhichHoldModel", "untilWith", "(III)I"⟩, 42) := ⟨⟨by decide +kernel, by decide +kernel⟩, List.mem_of_getElem? (i := 986) (by decide +kernel), List.mem_of_getElem? (i := 1414) (by decide +kernel), List.mem_of_getElem? (i := 1415) (by decide +kernel)⟩
theorem lw_p89 : lw_okq (⟨"WhichHoldModel", "areHolds", "(I)Z"⟩, 42) := ⟨⟨by decide +kernel, by decide +kernel⟩, List.mem_of_getElem? (i := 986) (by decide +kernel), List.mem_of_getElem? (i := 1426) (by decide +kernel), List.mem_of_getElem? (i := 1427) (by decide +kernel)⟩
theorem lw_p90 : lw_okq (⟨"WhichHoldModel", "floatsWith", "(I)Z"⟩, 42) := ⟨⟨by decide +kernel, by decide +kernel⟩, List.mem_of_getElem? (i := 986) (by decide +kernel), List.mem_of_getElem? (i := 1430) (by decide +kernel), List.mem_of_getElem? (i := 1431) (by decide +kernel)⟩
theorem lw_p91 : lw_okq (⟨"WhichHoldModel", "areDoors", "(I)Z"⟩, 42) := ⟨⟨by decide +kernel, by decide +kernel⟩, List.mem_of_getElem? (i := 986) (by decide +kernel), List.mem_of_getElem? (i := 1454) (by decide +kernel), List.mem_of_getElem? (i := 1455) (by decide +kernel)⟩
theorem lw_p92 : lw_okq (⟨"WhichHoldModel", "openDoors", "()I"⟩, 42) := ⟨⟨by decide +kernel, by decide +kernel⟩, List.mem_of_getElem? (i := 986) (by decide +kernel), List.mem_of_getElem? (i := 1458) (by decide +kernel), List.mem_of_getElem? (i := 1459) (by decide +kernel)⟩
theorem lw_p93 : lw_okq (⟨"WhichHoldModel", "reach", "(II)I"⟩, 42) := ⟨⟨by decide +kernel, by decide +kernel⟩, List.mem_of_getElem? (i := 986) (by decide +kernel), List.mem_of_getElem? (i := 1462) (by decide +kernel), List.mem_of_getElem? (i := 1463) (by decide +kernel)⟩
theorem lw_p94 : lw_okq (⟨"WhichHoldModel", "holed", "()I"⟩, 42) := ⟨⟨by decide +kernel, by decide +kernel⟩, List.mem_of_getElem? (i := 986) (by decide +kernel), List.mem_of_getElem? (i := 1470) (by decide +kernel), List.mem_of_getElem? (i := 1471) (by decide +kernel)⟩
theorem lw_p95 : lw_okq (⟨"WhichHoldModel", "fits", "(II)Z"⟩, 42) := ⟨⟨by decide +kernel, by decide +kernel⟩, List.mem_of_getElem? (i := 986) (by decide +kernel), List.mem_of_getElem? (i := 1487) (by decide +kernel), List.mem_of_getElem? (i := 1488) (by decide +kernel)⟩
def lw_privs_6 : List (MethodName × Nat) := [(⟨"WhichHoldModel", "untilSunk", "()I"⟩, 42), (⟨"WhichHoldModel", "freeFor", "(I)I"⟩, 42), (⟨"WhichHoldModel", "frees", "()V"⟩, 42), (⟨"WhichHoldModel", "findChoices", "()V"⟩, 42), (⟨"WhichHoldModel", "findBest", "(II)V"⟩, 42), (⟨"WhichHoldModel", "isUnlike", "(I)Z"⟩, 42), (⟨"WhichHoldModel", "tries", "(II)V"⟩, 42), (⟨"WhichHoldModel", "canShut", "(I)Z"⟩, 42), (⟨"WhichHoldModel", "untilWith", "(III)I"⟩, 42), (⟨"WhichHoldModel", "areHolds", "(I)Z"⟩, 42), (⟨"WhichHoldModel", "floatsWith", "(I)Z"⟩, 42), (⟨"WhichHoldModel", "areDoors", "(I)Z"⟩, 42), (⟨"WhichHoldModel", "openDoors", "()I"⟩, 42), (⟨"WhichHoldModel", "reach", "(II)I"⟩, 42), (⟨"WhichHoldModel", "holed", "()I"⟩, 42), (⟨"WhichHoldModel", "fits", "(II)Z"⟩, 42)]
theorem lw_r6 : ∀ q ∈ lw_privs_6, lw_okq q := List.forall_mem_cons.mpr ⟨lw_p80, List.forall_mem_cons.mpr ⟨lw_p81, List.forall_mem_cons.mpr ⟨lw_p82, List.forall_mem_cons.mpr ⟨lw_p83, List.forall_mem_cons.mpr ⟨lw_p84, List.forall_mem_cons.mpr ⟨lw_p85, List.forall_mem_cons.mpr ⟨lw_p86, List.forall_mem_cons.mpr ⟨lw_p87, List.forall_mem_cons.mpr ⟨lw_p88, List.forall_mem_cons.mpr ⟨lw_p89, List.forall_mem_cons.mpr ⟨lw_p90, List.forall_mem_cons.mpr ⟨lw_p91, List.forall_mem_cons.mpr ⟨lw_p92, List.forall_mem_cons.mpr ⟨lw_p93, List.forall_mem_cons.mpr ⟨lw_p94, List.forall_mem_cons.mpr ⟨lw_p95, fun _ h => absurd h List.not_mem_nil⟩⟩⟩⟩⟩⟩⟩⟩⟩⟩⟩⟩⟩⟩⟩⟩
def lw_privs : List (MethodName × Nat) := lw_privs_1 ++ (lw_privs_2 ++ (lw_privs_3 ++ (lw_privs_4 ++ (lw_privs_5 ++ (lw_privs_6)))))
def lw_tbl : List Cond := k2_sels lw_privs ++ tables_1
theorem lw_privs_ok : ∀ q ∈ lw_privs, lw_okq q := by
  show ∀ q ∈ lw_privs_1 ++ (lw_privs_2 ++ (lw_privs_3 ++ (lw_privs_4 ++ (lw_privs_5 ++ (lw_privs_6))))), lw_okq q
  exact List.forall_mem_append.mpr ⟨lw_r1, List.forall_mem_append.mpr ⟨lw_r2, List.forall_mem_append.mpr ⟨lw_r3, List.forall_mem_append.mpr ⟨lw_r4, List.forall_mem_append.mpr ⟨lw_r5, lw_r6⟩⟩⟩⟩⟩
-- ===== end of PART A; then your names; then what follows =====
end
section
theorem goodIn_r {big : List Cond} (ws : List Cond) (ps : List Nat) (hp : ws = ps.filterMap (fun i => big[i]?)) (h : ws.all goodWord = true) : GoodIn big ws := by
  intro w hw
  have h1 := List.all_eq_true.mp h w hw
  rw [hp] at hw
  obtain ⟨i, -, hi⟩ := List.mem_filterMap.mp hw
  have hm : w ∈ big := by first | exact List.mem_of_getElem? hi | exact List.getElem?_mem hi
  exact ⟨hm, good_of_word h1⟩
theorem goodIn_app {big a b : List Cond} (ha : GoodIn big a) (hb : GoodIn big b) : GoodIn big (a ++ b) := fun w h => (List.mem_append.mp h).elim (ha w) (hb w)
theorem goodIn_ca {big a b : List Cond} {c : Cond} (ha : GoodIn big (c :: a)) (hb : GoodIn big b) : GoodIn big (c :: (a ++ b)) := fun w h => (List.mem_cons.mp h).elim (fun e => ha w (List.mem_cons.mpr (Or.inl e))) (fun h => (List.mem_append.mp h).elim (fun h => ha w (List.mem_cons.mpr (Or.inr h))) (hb w))
theorem goodIn_sub {big ws : List Cond} (hm : ∀ w ∈ ws, w ∈ big) (h : ws.all goodWord = true) : GoodIn big ws := fun w hw => ⟨hm w hw, good_of_word (List.all_eq_true.mp h w hw)⟩
def RX0 : String := "WhichHold$Orders"
def TX0 : u_T := fun k => match k with
  | 0 => ("WhichHold$Orders", "size", "I", false)
  | 1 => ("WhichHold$Orders", "minute", "[I", true)
  | 2 => ("WhichHold$Orders", "kind", "[I", true)
  | 3 => ("WhichHold$Orders", "what", "[I", true)
  | 4 => ("WhichHold$Orders", "where", "[I", true)
  | 5 => ("WhichHold$Orders", "how", "[I", true)
  | _ => ("WhichHold$Orders", "ends", "[I", true)
def tyX0 : Nat → FieldType := fun k => match k with
  | 0 => .int
  | 1 => .array .int
  | 2 => .array .int
  | 3 => .array .int
  | 4 => .array .int
  | 5 => .array .int
  | _ => .array .int
abbrev wsX00 : List Cond := u_ws RX0 TX0 7
theorem nmX0 : ∀ a, a < 7 → ∀ b, b < 7 → a ≠ b → (TX0 a).2.1 ≠ (TX0 b).2.1 := by decide +kernel
theorem tyX0_ok : ∀ k, k < 7 → parseFieldDescriptor (TX0 k).2.2.1 = some (tyX0 k) := by decide +kernel
abbrev cX0_init : ByteArray := prog_2_method_1_code
def yX0_init : MethodName := ⟨RX0, "<init>", "()V"⟩
abbrev cX0_append : ByteArray := prog_2_method_2_code
def yX0_append : MethodName := ⟨RX0, "append", "(IIII)I"⟩
abbrev cX0_copyFrom : ByteArray := prog_2_method_3_code
def yX0_copyFrom : MethodName := ⟨RX0, "copyFrom", "(LWhichHold$Orders;)V"⟩
abbrev cX0_tally : ByteArray := prog_2_method_4_code
def yX0_tally : MethodName := ⟨RX0, "tally", "(I)I"⟩
abbrev cX0_isOnDoor : ByteArray := prog_2_method_5_code
def yX0_isOnDoor : MethodName := ⟨RX0, "isOnDoor", "(I)Z"⟩
abbrev cX0_isOnHole : ByteArray := prog_2_method_6_code
def yX0_isOnHole : MethodName := ⟨RX0, "isOnHole", "(I)Z"⟩
abbrev cX0_failThoseToCome : ByteArray := prog_2_method_7_code
def yX0_failThoseToCome : MethodName := ⟨RX0, "failThoseToCome", "()I"⟩
def RX1 : String := "WhichHold$Plan"
def TX1 : u_T := fun k => match k with
  | 0 => ("WhichHold$Plan", "holds", "I", false)
  | 1 => ("WhichHold$Plan", "doors", "I", false)
  | 2 => ("WhichHold$Plan", "holes", "I", false)
  | 3 => ("WhichHold$Plan", "pumps", "I", false)
  | 4 => ("WhichHold$Plan", "tons", "[I", true)
  | 5 => ("WhichHold$Plan", "side", "[I", true)
  | 6 => ("WhichHold$Plan", "arm", "[I", true)
  | 7 => ("WhichHold$Plan", "firstWater", "[I", true)
  | 8 => ("WhichHold$Plan", "doorFrom", "[I", true)
  | 9 => ("WhichHold$Plan", "doorTo", "[I", true)
  | 10 => ("WhichHold$Plan", "sill", "[I", true)
  | 11 => ("WhichHold$Plan", "doorRate", "[I", true)
  | 12 => ("WhichHold$Plan", "doorTime", "[I", true)
  | 13 => ("WhichHold$Plan", "firstOpen", "[I", true)
  | 14 => ("WhichHold$Plan", "holeAt", "[I", true)
  | 15 => ("WhichHold$Plan", "holeRate", "[I", true)
  | 16 => ("WhichHold$Plan", "holeTime", "[I", true)
  | 17 => ("WhichHold$Plan", "pumpRate", "[I", true)
  | 18 => ("WhichHold$Plan", "firstAt", "[I", true)
  | _ => ("WhichHold$Plan", "rules", "[I", true)
def tyX1 : Nat → FieldType := fun k => match k with
  | 0 => .int
  | 1 => .int
  | 2 => .int
  | 3 => .int
  | 4 => .array .int
  | 5 => .array .int
  | 6 => .array .int
  | 7 => .array .int
  | 8 => .array .int
  | 9 => .array .int
  | 10 => .array .int
  | 11 => .array .int
  | 12 => .array .int
  | 13 => .array .int
  | 14 => .array .int
  | 15 => .array .int
  | 16 => .array .int
  | 17 => .array .int
  | 18 => .array .int
  | _ => .array .int
abbrev wsX10 : List Cond := u_ws RX1 TX1 20
theorem nmX1 : ∀ a, a < 20 → ∀ b, b < 20 → a ≠ b → (TX1 a).2.1 ≠ (TX1 b).2.1 := by decide +kernel
theorem tyX1_ok : ∀ k, k < 20 → parseFieldDescriptor (TX1 k).2.2.1 = some (tyX1 k) := by decide +kernel
abbrev cX1_init : ByteArray := prog_3_method_1_code
def yX1_init : MethodName := ⟨RX1, "<init>", "()V"⟩
abbrev cX1_clear : ByteArray := prog_3_method_2_code
def yX1_clear : MethodName := ⟨RX1, "clear", "()V"⟩
def RX2 : String := "WhichHold$Reader"
def TX2 : u_T := fun k => match k with
  | 0 => ("WhichHold$Reader", "tape", "[B", true)
  | 1 => ("WhichHold$Reader", "length", "I", false)
  | 2 => ("WhichHold$Reader", "lines", "I", false)
  | 3 => ("WhichHold$Reader", "found", "I", false)
  | 4 => ("WhichHold$Reader", "foundAt", "I", false)
  | 5 => ("WhichHold$Reader", "told", "[Z", true)
  | 6 => ("WhichHold$Reader", "target", "LWhichHold$Plan;", false)
  | 7 => ("WhichHold$Reader", "place", "I", false)
  | 8 => ("WhichHold$Reader", "behind", "I", false)
  | _ => ("WhichHold$Reader", "kind", "I", false)
def tyX2 : Nat → FieldType := fun k => match k with
  | 0 => .array .byte
  | 1 => .int
  | 2 => .int
  | 3 => .int
  | 4 => .int
  | 5 => .array .boolean
  | 6 => .object "WhichHold$Plan"
  | 7 => .int
  | 8 => .int
  | _ => .int
abbrev wsX20 : List Cond := u_ws RX2 TX2 10
theorem nmX2 : ∀ a, a < 10 → ∀ b, b < 10 → a ≠ b → (TX2 a).2.1 ≠ (TX2 b).2.1 := by decide +kernel
theorem tyX2_ok : ∀ k, k < 10 → parseFieldDescriptor (TX2 k).2.2.1 = some (tyX2 k) := by decide +kernel
abbrev cX2_init : ByteArray := prog_4_method_1_code
def yX2_init : MethodName := ⟨RX2, "<init>", "()V"⟩
abbrev cX2_append : ByteArray := prog_4_method_2_code
def yX2_append : MethodName := ⟨RX2, "append", "(J)I"⟩
abbrev cX2_cut : ByteArray := prog_4_method_3_code
def yX2_cut : MethodName := ⟨RX2, "cut", "(I)I"⟩
abbrev cX2_parse : ByteArray := prog_4_method_4_code
def yX2_parse : MethodName := ⟨RX2, "parse", "(LWhichHold$Plan;)V"⟩
abbrev cX2_startAnew : ByteArray := prog_4_method_5_code
def yX2_startAnew : MethodName := ⟨RX2, "startAnew", "()V"⟩
abbrev cX2_refuse : ByteArray := prog_4_method_6_code
def yX2_refuse : MethodName := ⟨RX2, "refuse", "(I)V"⟩
abbrev cX2_nextToken : ByteArray := prog_4_method_7_code
def yX2_nextToken : MethodName := ⟨RX2, "nextToken", "()V"⟩
abbrev cX2_endOfRun : ByteArray := prog_4_method_8_code
def yX2_endOfRun : MethodName := ⟨RX2, "endOfRun", "(II)I"⟩
abbrev cX2_kindOf : ByteArray := prog_4_method_9_code
def yX2_kindOf : MethodName := ⟨RX2, "kindOf", "(I)I"⟩
abbrev cX2_lineBegun : ByteArray := prog_4_method_10_code
def yX2_lineBegun : MethodName := ⟨RX2, "lineBegun", "()I"⟩
abbrev cX2_spells : ByteArray := prog_4_method_11_code
def yX2_spells : MethodName := ⟨RX2, "spells", "(Ljava/lang/String;)Z"⟩
abbrev cX2_takeNumber : ByteArray := prog_4_method_12_code
def yX2_takeNumber : MethodName := ⟨RX2, "takeNumber", "(II)I"⟩
abbrev cX2_takeSign : ByteArray := prog_4_method_13_code
def yX2_takeSign : MethodName := ⟨RX2, "takeSign", "()V"⟩
abbrev cX2_takeHold : ByteArray := prog_4_method_14_code
def yX2_takeHold : MethodName := ⟨RX2, "takeHold", "()V"⟩
abbrev cX2_takeDoor : ByteArray := prog_4_method_15_code
def yX2_takeDoor : MethodName := ⟨RX2, "takeDoor", "()V"⟩
abbrev cX2_takeHole : ByteArray := prog_4_method_16_code
def yX2_takeHole : MethodName := ⟨RX2, "takeHole", "()V"⟩
abbrev cX2_takePump : ByteArray := prog_4_method_17_code
def yX2_takePump : MethodName := ⟨RX2, "takePump", "()V"⟩
abbrev cX2_takeRule : ByteArray := prog_4_method_18_code
def yX2_takeRule : MethodName := ⟨RX2, "takeRule", "(III)V"⟩
def RX3 : String := "WhichHold$Scale"
def TX3 : u_T := fun k => match k with
  | 0 => ("WhichHold$Scale", "total", "I", false)
  | 1 => ("WhichHold$Scale", "list", "I", false)
  | _ => ("WhichHold$Scale", "trim", "I", false)
def tyX3 : Nat → FieldType := fun k => match k with
  | 0 => .int
  | 1 => .int
  | _ => .int
abbrev wsX30 : List Cond := u_ws RX3 TX3 3
theorem nmX3 : ∀ a, a < 3 → ∀ b, b < 3 → a ≠ b → (TX3 a).2.1 ≠ (TX3 b).2.1 := by decide +kernel
theorem tyX3_ok : ∀ k, k < 3 → parseFieldDescriptor (TX3 k).2.2.1 = some (tyX3 k) := by decide +kernel
abbrev cX3_init : ByteArray := prog_5_method_1_code
def yX3_init : MethodName := ⟨RX3, "<init>", "()V"⟩
abbrev cX3_weigh : ByteArray := prog_5_method_2_code
def yX3_weigh : MethodName := ⟨RX3, "weigh", "(LWhichHold$Plan;[II)V"⟩
abbrev cX3_whySinks : ByteArray := prog_5_method_3_code
def yX3_whySinks : MethodName := ⟨RX3, "whySinks", "(LWhichHold$Plan;)I"⟩
def RX4 : String := "WhichHold$Search"
def TX4 : u_T := fun k => match k with
  | 0 => ("WhichHold$Search", "bestMinutes", "I", false)
  | 1 => ("WhichHold$Search", "bestWater", "I", false)
  | 2 => ("WhichHold$Search", "codes", "[I", true)
  | 3 => ("WhichHold$Search", "row", "[I", true)
  | 4 => ("WhichHold$Search", "bestRow", "[I", true)
  | 5 => ("WhichHold$Search", "crewFreeAt", "[I", true)
  | 6 => ("WhichHold$Search", "choices", "I", false)
  | 7 => ("WhichHold$Search", "knownLength", "I", false)
  | 8 => ("WhichHold$Search", "knownMinutes", "I", false)
  | _ => ("WhichHold$Search", "any", "Z", false)
def tyX4 : Nat → FieldType := fun k => match k with
  | 0 => .int
  | 1 => .int
  | 2 => .array .int
  | 3 => .array .int
  | 4 => .array .int
  | 5 => .array .int
  | 6 => .int
  | 7 => .int
  | 8 => .int
  | _ => .boolean
abbrev wsX40 : List Cond := u_ws RX4 TX4 10
theorem nmX4 : ∀ a, a < 10 → ∀ b, b < 10 → a ≠ b → (TX4 a).2.1 ≠ (TX4 b).2.1 := by decide +kernel
theorem tyX4_ok : ∀ k, k < 10 → parseFieldDescriptor (TX4 k).2.2.1 = some (tyX4 k) := by decide +kernel
abbrev cX4_init : ByteArray := prog_6_method_1_code
def yX4_init : MethodName := ⟨RX4, "<init>", "()V"⟩
abbrev cX4_forget : ByteArray := prog_6_method_2_code
def yX4_forget : MethodName := ⟨RX4, "forget", "()V"⟩
abbrev cX4_bestCode : ByteArray := prog_6_method_3_code
def yX4_bestCode : MethodName := ⟨RX4, "bestCode", "(I)I"⟩
abbrev cX4_findBest : ByteArray := prog_6_method_4_code
def yX4_findBest : MethodName := ⟨RX4, "findBest", "(LWhichHold$Plan;LWhichHold$State;LWhichHold$State;II)Z"⟩
abbrev cX4_listChoices : ByteArray := prog_6_method_5_code
def yX4_listChoices : MethodName := ⟨RX4, "listChoices", "(LWhichHold$Plan;LWhichHold$State;)V"⟩
abbrev cX4_fillRow : ByteArray := prog_6_method_6_code
def yX4_fillRow : MethodName := ⟨RX4, "fillRow", "(II)Z"⟩
abbrev cX4_giveRow : ByteArray := prog_6_method_7_code
def yX4_giveRow : MethodName := ⟨RX4, "giveRow", "(LWhichHold$Plan;LWhichHold$State;I)V"⟩
abbrev cX4_keepIfBetter : ByteArray := prog_6_method_8_code
def yX4_keepIfBetter : MethodName := ⟨RX4, "keepIfBetter", "(II)V"⟩
def RX5 : String := "WhichHold$Sheet"
def TX5 : u_T := fun k => match k with
  | 0 => ("WhichHold$Sheet", "lane", "I", false)
  | 1 => ("WhichHold$Sheet", "size", "I", false)
  | _ => ("WhichHold$Sheet", "cells", "[I", true)
def tyX5 : Nat → FieldType := fun k => match k with
  | 0 => .int
  | 1 => .int
  | _ => .array .int
abbrev wsX50 : List Cond := u_ws RX5 TX5 3
theorem nmX5 : ∀ a, a < 3 → ∀ b, b < 3 → a ≠ b → (TX5 a).2.1 ≠ (TX5 b).2.1 := by decide +kernel
theorem tyX5_ok : ∀ k, k < 3 → parseFieldDescriptor (TX5 k).2.2.1 = some (tyX5 k) := by decide +kernel
abbrev cX5_init : ByteArray := prog_7_method_1_code
def yX5_init : MethodName := ⟨RX5, "<init>", "()V"⟩
abbrev cX5_renew : ByteArray := prog_7_method_2_code
def yX5_renew : MethodName := ⟨RX5, "renew", "(II)V"⟩
abbrev cX5_tearAt : ByteArray := prog_7_method_3_code
def yX5_tearAt : MethodName := ⟨RX5, "tearAt", "(III)I"⟩
abbrev cX5_store : ByteArray := prog_7_method_4_code
def yX5_store : MethodName := ⟨RX5, "store", "(II)V"⟩
def RX6 : String := "WhichHold$Soundings"
def TX6 : u_T := fun k => match k with
  | 0 => ("WhichHold$Soundings", "size", "I", false)
  | _ => ("WhichHold$Soundings", "water", "[I", true)
def tyX6 : Nat → FieldType := fun k => match k with
  | 0 => .int
  | _ => .array .int
abbrev wsX60 : List Cond := u_ws RX6 TX6 2
theorem nmX6 : ∀ a, a < 2 → ∀ b, b < 2 → a ≠ b → (TX6 a).2.1 ≠ (TX6 b).2.1 := by decide +kernel
theorem tyX6_ok : ∀ k, k < 2 → parseFieldDescriptor (TX6 k).2.2.1 = some (tyX6 k) := by decide +kernel
abbrev cX6_init : ByteArray := prog_8_method_1_code
def yX6_init : MethodName := ⟨RX6, "<init>", "()V"⟩
abbrev cX6_append : ByteArray := prog_8_method_2_code
def yX6_append : MethodName := ⟨RX6, "append", "(I)I"⟩
abbrev cX6_clear : ByteArray := prog_8_method_3_code
def yX6_clear : MethodName := ⟨RX6, "clear", "()I"⟩
abbrev cX6_ratesThatFit : ByteArray := prog_8_method_4_code
def yX6_ratesThatFit : MethodName := ⟨RX6, "ratesThatFit", "(I)I"⟩
abbrev cX6_fits : ByteArray := prog_8_method_5_code
def yX6_fits : MethodName := ⟨RX6, "fits", "(II)Z"⟩
def RX7 : String := "WhichHold$State"
def TX7 : u_T := fun k => match k with
  | 0 => ("WhichHold$State", "minute", "I", false)
  | 1 => ("WhichHold$State", "why", "I", false)
  | 2 => ("WhichHold$State", "seen", "I", false)
  | 3 => ("WhichHold$State", "greatestList", "I", false)
  | 4 => ("WhichHold$State", "water", "[I", true)
  | 5 => ("WhichHold$State", "valve", "[I", true)
  | 6 => ("WhichHold$State", "open", "[I", true)
  | 7 => ("WhichHold$State", "sail", "[I", true)
  | 8 => ("WhichHold$State", "pumpAt", "[I", true)
  | 9 => ("WhichHold$State", "orders", "LWhichHold$Orders;", true)
  | _ => ("WhichHold$State", "scale", "LWhichHold$Scale;", true)
def tyX7 : Nat → FieldType := fun k => match k with
  | 0 => .int
  | 1 => .int
  | 2 => .int
  | 3 => .int
  | 4 => .array .int
  | 5 => .array .int
  | 6 => .array .int
  | 7 => .array .int
  | 8 => .array .int
  | 9 => .object "WhichHold$Orders"
  | _ => .object "WhichHold$Scale"
abbrev wsX70 : List Cond := u_ws RX7 TX7 11
theorem nmX7 : ∀ a, a < 11 → ∀ b, b < 11 → a ≠ b → (TX7 a).2.1 ≠ (TX7 b).2.1 := by decide +kernel
theorem tyX7_ok : ∀ k, k < 11 → parseFieldDescriptor (TX7 k).2.2.1 = some (tyX7 k) := by decide +kernel
abbrev cX7_init : ByteArray := prog_9_method_1_code
def yX7_init : MethodName := ⟨RX7, "<init>", "()V"⟩
abbrev cX7_startFrom : ByteArray := prog_9_method_2_code
def yX7_startFrom : MethodName := ⟨RX7, "startFrom", "(LWhichHold$Plan;)V"⟩
abbrev cX7_copyFrom : ByteArray := prog_9_method_3_code
def yX7_copyFrom : MethodName := ⟨RX7, "copyFrom", "(LWhichHold$State;)V"⟩
abbrev cX7_copyWithoutOrders : ByteArray := prog_9_method_4_code
def yX7_copyWithoutOrders : MethodName := ⟨RX7, "copyWithoutOrders", "(LWhichHold$State;)V"⟩
abbrev cX7_waterInAll : ByteArray := prog_9_method_5_code
def yX7_waterInAll : MethodName := ⟨RX7, "waterInAll", "(LWhichHold$Plan;)I"⟩
abbrev cX7_tonsThrough : ByteArray := prog_9_method_6_code
def yX7_tonsThrough : MethodName := ⟨RX7, "tonsThrough", "(LWhichHold$Plan;I)I"⟩
abbrev cX7_seeWhetherSinks : ByteArray := prog_9_method_7_code
def yX7_seeWhetherSinks : MethodName := ⟨RX7, "seeWhetherSinks", "(LWhichHold$Plan;)V"⟩
abbrev cX7_minutesAfloat : ByteArray := prog_9_method_8_code
def yX7_minutesAfloat : MethodName := ⟨RX7, "minutesAfloat", "(LWhichHold$Plan;I)I"⟩
abbrev cX7_passMinute : ByteArray := prog_9_method_9_code
def yX7_passMinute : MethodName := ⟨RX7, "passMinute", "(LWhichHold$Plan;)V"⟩
abbrev cX7_endOrders : ByteArray := prog_9_method_10_code
def yX7_endOrders : MethodName := ⟨RX7, "endOrders", "()V"⟩
abbrev cX7_takePlace : ByteArray := prog_9_method_11_code
def yX7_takePlace : MethodName := ⟨RX7, "takePlace", "(III)V"⟩
abbrev cX7_beginOrders : ByteArray := prog_9_method_12_code
def yX7_beginOrders : MethodName := ⟨RX7, "beginOrders", "(LWhichHold$Plan;)V"⟩
abbrev cX7_canBegin : ByteArray := prog_9_method_13_code
def yX7_canBegin : MethodName := ⟨RX7, "canBegin", "(LWhichHold$Plan;II)Z"⟩
abbrev cX7_comeThroughHoles : ByteArray := prog_9_method_14_code
def yX7_comeThroughHoles : MethodName := ⟨RX7, "comeThroughHoles", "(LWhichHold$Plan;)V"⟩
abbrev cX7_comeThroughValves : ByteArray := prog_9_method_15_code
def yX7_comeThroughValves : MethodName := ⟨RX7, "comeThroughValves", "(LWhichHold$Plan;)V"⟩
abbrev cX7_flowThroughDoor : ByteArray := prog_9_method_16_code
def yX7_flowThroughDoor : MethodName := ⟨RX7, "flowThroughDoor", "(LWhichHold$Plan;I)V"⟩
abbrev cX7_pumpOut : ByteArray := prog_9_method_17_code
def yX7_pumpOut : MethodName := ⟨RX7, "pumpOut", "(LWhichHold$Plan;)V"⟩
def RX8 : String := "WhichHold"
def TX8 : u_T := fun k => match k with
  | 0 => ("WhichHold", "reader", "LWhichHold$Reader;", true)
  | 1 => ("WhichHold", "present", "LWhichHold$State;", true)
  | 2 => ("WhichHold", "trial", "LWhichHold$State;", true)
  | 3 => ("WhichHold", "images", "[LWhichHold$State;", true)
  | 4 => ("WhichHold", "kept", "[Z", true)
  | 5 => ("WhichHold", "search", "LWhichHold$Search;", true)
  | 6 => ("WhichHold", "scale", "LWhichHold$Scale;", true)
  | 7 => ("WhichHold", "soundings", "LWhichHold$Soundings;", true)
  | 8 => ("WhichHold", "sheets", "[LWhichHold$Sheet;", true)
  | 9 => ("WhichHold", "plan", "LWhichHold$Plan;", false)
  | 10 => ("WhichHold", "draft", "LWhichHold$Plan;", false)
  | 11 => ("WhichHold", "latestFault", "I", false)
  | _ => ("WhichHold", "latestTear", "I", false)
def tyX8 : Nat → FieldType := fun k => match k with
  | 0 => .object "WhichHold$Reader"
  | 1 => .object "WhichHold$State"
  | 2 => .object "WhichHold$State"
  | 3 => .array (.object "WhichHold$State")
  | 4 => .array .boolean
  | 5 => .object "WhichHold$Search"
  | 6 => .object "WhichHold$Scale"
  | 7 => .object "WhichHold$Soundings"
  | 8 => .array (.object "WhichHold$Sheet")
  | 9 => .object "WhichHold$Plan"
  | 10 => .object "WhichHold$Plan"
  | 11 => .int
  | _ => .int
abbrev wsX80 : List Cond := u_ws RX8 TX8 13
theorem nmX8 : ∀ a, a < 13 → ∀ b, b < 13 → a ≠ b → (TX8 a).2.1 ≠ (TX8 b).2.1 := by decide +kernel
theorem tyX8_ok : ∀ k, k < 13 → parseFieldDescriptor (TX8 k).2.2.1 = some (tyX8 k) := by decide +kernel
abbrev cX8_init : ByteArray := prog_1_method_1_code
def yX8_init : MethodName := ⟨RX8, "<init>", "()V"⟩
abbrev cX8_feed : ByteArray := prog_1_method_2_code
def yX8_feed : MethodName := ⟨RX8, "feed", "(J)I"⟩
abbrev cX8_end : ByteArray := prog_1_method_3_code
def yX8_end : MethodName := ⟨RX8, "end", "(I)I"⟩
abbrev cX8_text : ByteArray := prog_1_method_4_code
def yX8_text : MethodName := ⟨RX8, "text", "()I"⟩
abbrev cX8_fault : ByteArray := prog_1_method_5_code
def yX8_fault : MethodName := ⟨RX8, "fault", "()I"⟩
abbrev cX8_hold : ByteArray := prog_1_method_6_code
def yX8_hold : MethodName := ⟨RX8, "hold", "(II)I"⟩
abbrev cX8_door : ByteArray := prog_1_method_7_code
def yX8_door : MethodName := ⟨RX8, "door", "(II)I"⟩
abbrev cX8_hole : ByteArray := prog_1_method_8_code
def yX8_hole : MethodName := ⟨RX8, "hole", "(II)I"⟩
abbrev cX8_pump : ByteArray := prog_1_method_9_code
def yX8_pump : MethodName := ⟨RX8, "pump", "(II)I"⟩
abbrev cX8_rule : ByteArray := prog_1_method_10_code
def yX8_rule : MethodName := ⟨RX8, "rule", "(I)I"⟩
abbrev cX8_put : ByteArray := prog_1_method_11_code
def yX8_put : MethodName := ⟨RX8, "put", "(II)I"⟩
abbrev cX8_go : ByteArray := prog_1_method_12_code
def yX8_go : MethodName := ⟨RX8, "go", "(I)I"⟩
abbrev cX8_now : ByteArray := prog_1_method_13_code
def yX8_now : MethodName := ⟨RX8, "now", "(I)I"⟩
abbrev cX8_keep : ByteArray := prog_1_method_14_code
def yX8_keep : MethodName := ⟨RX8, "keep", "(I)I"⟩
abbrev cX8_back : ByteArray := prog_1_method_15_code
def yX8_back : MethodName := ⟨RX8, "back", "(I)I"⟩
abbrev cX8_order : ByteArray := prog_1_method_16_code
def yX8_order : MethodName := ⟨RX8, "order", "(IIII)I"⟩
abbrev cX8_given : ByteArray := prog_1_method_17_code
def yX8_given : MethodName := ⟨RX8, "given", "(II)I"⟩
abbrev cX8_recall : ByteArray := prog_1_method_18_code
def yX8_recall : MethodName := ⟨RX8, "recall", "()I"⟩
abbrev cX8_run : ByteArray := prog_1_method_19_code
def yX8_run : MethodName := ⟨RX8, "run", "(II)I"⟩
abbrev cX8_water : ByteArray := prog_1_method_20_code
def yX8_water : MethodName := ⟨RX8, "water", "(II)I"⟩
abbrev cX8_free : ByteArray := prog_1_method_21_code
def yX8_free : MethodName := ⟨RX8, "free", "(I)I"⟩
abbrev cX8_best : ByteArray := prog_1_method_22_code
def yX8_best : MethodName := ⟨RX8, "best", "(III)I"⟩
abbrev cX8_latest : ByteArray := prog_1_method_23_code
def yX8_latest : MethodName := ⟨RX8, "latest", "(II)I"⟩
abbrev cX8_helps : ByteArray := prog_1_method_24_code
def yX8_helps : MethodName := ⟨RX8, "helps", "(I)I"⟩
abbrev cX8_together : ByteArray := prog_1_method_25_code
def yX8_together : MethodName := ⟨RX8, "together", "(I)I"⟩
abbrev cX8_beside : ByteArray := prog_1_method_26_code
def yX8_beside : MethodName := ⟨RX8, "beside", "(II)I"⟩
abbrev cX8_most : ByteArray := prog_1_method_27_code
def yX8_most : MethodName := ⟨RX8, "most", "(I)I"⟩
abbrev cX8_upright : ByteArray := prog_1_method_28_code
def yX8_upright : MethodName := ⟨RX8, "upright", "(I)I"⟩
abbrev cX8_men : ByteArray := prog_1_method_29_code
def yX8_men : MethodName := ⟨RX8, "men", "(I)I"⟩
abbrev cX8_dry : ByteArray := prog_1_method_30_code
def yX8_dry : MethodName := ⟨RX8, "dry", "(II)I"⟩
abbrev cX8_sound : ByteArray := prog_1_method_31_code
def yX8_sound : MethodName := ⟨RX8, "sound", "(I)I"⟩
abbrev cX8_wipe : ByteArray := prog_1_method_32_code
def yX8_wipe : MethodName := ⟨RX8, "wipe", "()I"⟩
abbrev cX8_rates : ByteArray := prog_1_method_33_code
def yX8_rates : MethodName := ⟨RX8, "rates", "(I)I"⟩
abbrev cX8_sheet : ByteArray := prog_1_method_34_code
def yX8_sheet : MethodName := ⟨RX8, "sheet", "(III)I"⟩
abbrev cX8_lay : ByteArray := prog_1_method_35_code
def yX8_lay : MethodName := ⟨RX8, "lay", "(III)I"⟩
abbrev cX8_read : ByteArray := prog_1_method_36_code
def yX8_read : MethodName := ⟨RX8, "read", "(IIII)I"⟩
abbrev cX8_torn : ByteArray := prog_1_method_37_code
def yX8_torn : MethodName := ⟨RX8, "torn", "()I"⟩
abbrev cX8_count : ByteArray := prog_1_method_38_code
def yX8_count : MethodName := ⟨RX8, "count", "(I)I"⟩
abbrev cX8_forgetImages : ByteArray := prog_1_method_39_code
def yX8_forgetImages : MethodName := ⟨RX8, "forgetImages", "()V"⟩
abbrev cX8_isHold : ByteArray := prog_1_method_40_code
def yX8_isHold : MethodName := ⟨RX8, "isHold", "(I)Z"⟩
abbrev cX8_isDoor : ByteArray := prog_1_method_41_code
def yX8_isDoor : MethodName := ⟨RX8, "isDoor", "(I)Z"⟩
abbrev cX8_isHole : ByteArray := prog_1_method_42_code
def yX8_isHole : MethodName := ⟨RX8, "isHole", "(I)Z"⟩
abbrev cX8_isPump : ByteArray := prog_1_method_43_code
def yX8_isPump : MethodName := ⟨RX8, "isPump", "(I)Z"⟩
abbrev cX8_tell : ByteArray := prog_1_method_44_code
def yX8_tell : MethodName := ⟨RX8, "tell", "(IIII)I"⟩
abbrev cX8_isOrder : ByteArray := prog_1_method_45_code
def yX8_isOrder : MethodName := ⟨RX8, "isOrder", "(III)Z"⟩
abbrev cX8_tellFrom : ByteArray := prog_1_method_46_code
def yX8_tellFrom : MethodName := ⟨RX8, "tellFrom", "(LWhichHold$Sheet;I)I"⟩
abbrev cX8_isOpenAndIdle : ByteArray := prog_1_method_47_code
def yX8_isOpenAndIdle : MethodName := ⟨RX8, "isOpenAndIdle", "(I)Z"⟩
abbrev cX8_minutesIfShut : ByteArray := prog_1_method_48_code
def yX8_minutesIfShut : MethodName := ⟨RX8, "minutesIfShut", "(III)I"⟩
abbrev cX8_isLater : ByteArray := prog_1_method_49_code
def yX8_isLater : MethodName := ⟨RX8, "isLater", "(II)Z"⟩
abbrev cX8_floatsWithFull : ByteArray := prog_1_method_50_code
def yX8_floatsWithFull : MethodName := ⟨RX8, "floatsWithFull", "(I)Z"⟩
abbrev cX8_partnersOf : ByteArray := prog_1_method_51_code
def yX8_partnersOf : MethodName := ⟨RX8, "partnersOf", "(I)I"⟩
abbrev cX8_mostUprightSet : ByteArray := prog_1_method_52_code
def yX8_mostUprightSet : MethodName := ⟨RX8, "mostUprightSet", "()I"⟩
abbrev cX8_openDoors : ByteArray := prog_1_method_53_code
def yX8_openDoors : MethodName := ⟨RX8, "openDoors", "()I"⟩
abbrev cX8_holdsWithHoles : ByteArray := prog_1_method_54_code
def yX8_holdsWithHoles : MethodName := ⟨RX8, "holdsWithHoles", "()I"⟩
abbrev cX8_reachedFrom : ByteArray := prog_1_method_55_code
def yX8_reachedFrom : MethodName := ⟨RX8, "reachedFrom", "(II)I"⟩
abbrev cX8_fewestDoorsAround : ByteArray := prog_1_method_56_code
def yX8_fewestDoorsAround : MethodName := ⟨RX8, "fewestDoorsAround", "(II)I"⟩
abbrev cX8_heightIn : ByteArray := prog_1_method_57_code
def yX8_heightIn : MethodName := ⟨RX8, "heightIn", "(II)I"⟩
abbrev cX8_tonsIn : ByteArray := prog_1_method_58_code
def yX8_tonsIn : MethodName := ⟨RX8, "tonsIn", "(III)I"⟩
abbrev cX8_minutesFor : ByteArray := prog_1_method_59_code
def yX8_minutesFor : MethodName := ⟨RX8, "minutesFor", "(LWhichHold$Plan;II)I"⟩
def RX9 : String := "WhichHoldModel"
def TX9 : u_T := fun k => match k with
  | 0 => ("WhichHoldModel", "st", "[I", true)
  | 1 => ("WhichHoldModel", "isKept", "[Z", true)
  | 2 => ("WhichHoldModel", "holds", "I", false)
  | 3 => ("WhichHoldModel", "hold", "[I", true)
  | 4 => ("WhichHoldModel", "doors", "I", false)
  | 5 => ("WhichHoldModel", "door", "[I", true)
  | 6 => ("WhichHoldModel", "holes", "I", false)
  | 7 => ("WhichHoldModel", "hole", "[I", true)
  | 8 => ("WhichHoldModel", "pumps", "I", false)
  | 9 => ("WhichHoldModel", "pump", "[I", true)
  | 10 => ("WhichHoldModel", "rule", "[I", true)
  | 11 => ("WhichHoldModel", "dHolds", "I", false)
  | 12 => ("WhichHoldModel", "dHold", "[I", true)
  | 13 => ("WhichHoldModel", "dDoors", "I", false)
  | 14 => ("WhichHoldModel", "dDoor", "[I", true)
  | 15 => ("WhichHoldModel", "dHoles", "I", false)
  | 16 => ("WhichHoldModel", "dHole", "[I", true)
  | 17 => ("WhichHoldModel", "dPumps", "I", false)
  | 18 => ("WhichHoldModel", "dPump", "[I", true)
  | 19 => ("WhichHoldModel", "dRule", "[I", true)
  | 20 => ("WhichHoldModel", "isTold", "[Z", true)
  | 21 => ("WhichHoldModel", "tape", "[I", true)
  | 22 => ("WhichHoldModel", "taped", "I", false)
  | 23 => ("WhichHoldModel", "pos", "I", false)
  | 24 => ("WhichHoldModel", "from", "I", false)
  | 25 => ("WhichHoldModel", "sort", "I", false)
  | 26 => ("WhichHoldModel", "value", "I", false)
  | 27 => ("WhichHoldModel", "fault", "I", false)
  | 28 => ("WhichHoldModel", "wrongAt", "I", false)
  | 29 => ("WhichHoldModel", "mostList", "I", false)
  | 30 => ("WhichHoldModel", "choices", "I", false)
  | 31 => ("WhichHoldModel", "choice", "[I", true)
  | 32 => ("WhichHoldModel", "row", "[I", true)
  | 33 => ("WhichHoldModel", "bestRow", "[I", true)
  | 34 => ("WhichHoldModel", "bestUntil", "I", false)
  | 35 => ("WhichHoldModel", "bestWater", "I", false)
  | 36 => ("WhichHoldModel", "sounded", "I", false)
  | 37 => ("WhichHoldModel", "sounds", "[I", true)
  | 38 => ("WhichHoldModel", "lanes", "[I", true)
  | 39 => ("WhichHoldModel", "sizes", "[I", true)
  | 40 => ("WhichHoldModel", "cells", "[I", true)
  | _ => ("WhichHoldModel", "torn", "I", false)
def tyX9 : Nat → FieldType := fun k => match k with
  | 0 => .array .int
  | 1 => .array .boolean
  | 2 => .int
  | 3 => .array .int
  | 4 => .int
  | 5 => .array .int
  | 6 => .int
  | 7 => .array .int
  | 8 => .int
  | 9 => .array .int
  | 10 => .array .int
  | 11 => .int
  | 12 => .array .int
  | 13 => .int
  | 14 => .array .int
  | 15 => .int
  | 16 => .array .int
  | 17 => .int
  | 18 => .array .int
  | 19 => .array .int
  | 20 => .array .boolean
  | 21 => .array .int
  | 22 => .int
  | 23 => .int
  | 24 => .int
  | 25 => .int
  | 26 => .int
  | 27 => .int
  | 28 => .int
  | 29 => .int
  | 30 => .int
  | 31 => .array .int
  | 32 => .array .int
  | 33 => .array .int
  | 34 => .int
  | 35 => .int
  | 36 => .int
  | 37 => .array .int
  | 38 => .array .int
  | 39 => .array .int
  | 40 => .array .int
  | _ => .int
abbrev wsX90 : List Cond := u_ws RX9 TX9 42
theorem nmX9 : ∀ a, a < 42 → ∀ b, b < 42 → a ≠ b → (TX9 a).2.1 ≠ (TX9 b).2.1 := by decide +kernel
theorem tyX9_ok : ∀ k, k < 42 → parseFieldDescriptor (TX9 k).2.2.1 = some (tyX9 k) := by decide +kernel
abbrev cX9_init : ByteArray := prog_11_method_1_code
def yX9_init : MethodName := ⟨RX9, "<init>", "()V"⟩
abbrev cX9_in : ByteArray := prog_11_method_3_code
def yX9_in : MethodName := ⟨RX9, "in", "(JJJ)Z"⟩
abbrev cX9_flag : ByteArray := prog_11_method_4_code
def yX9_flag : MethodName := ⟨RX9, "flag", "(Z)I"⟩
abbrev cX9_countOf : ByteArray := prog_11_method_5_code
def yX9_countOf : MethodName := ⟨RX9, "countOf", "(I)I"⟩
abbrev cX9_size : ByteArray := prog_11_method_6_code
def yX9_size : MethodName := ⟨RX9, "size", "(I)I"⟩
abbrev cX9_firstDraft : ByteArray := prog_11_method_7_code
def yX9_firstDraft : MethodName := ⟨RX9, "firstDraft", "()V"⟩
abbrev cX9_keepDraft : ByteArray := prog_11_method_8_code
def yX9_keepDraft : MethodName := ⟨RX9, "keepDraft", "()V"⟩
abbrev cX9_feed : ByteArray := prog_11_method_9_code
def yX9_feed : MethodName := ⟨RX9, "feed", "(J)I"⟩
abbrev cX9_end : ByteArray := prog_11_method_10_code
def yX9_end : MethodName := ⟨RX9, "end", "(I)I"⟩
abbrev cX9_needs : ByteArray := prog_11_method_11_code
def yX9_needs : MethodName := ⟨RX9, "needs", "(ZI)V"⟩
abbrev cX9_look : ByteArray := prog_11_method_12_code
def yX9_look : MethodName := ⟨RX9, "look", "(I)I"⟩
abbrev cX9_is : ByteArray := prog_11_method_13_code
def yX9_is : MethodName := ⟨RX9, "is", "(IIIII)Z"⟩
abbrev cX9_nameNow : ByteArray := prog_11_method_14_code
def yX9_nameNow : MethodName := ⟨RX9, "nameNow", "()I"⟩
abbrev cX9_next : ByteArray := prog_11_method_15_code
def yX9_next : MethodName := ⟨RX9, "next", "()V"⟩
abbrev cX9_isNumber : ByteArray := prog_11_method_16_code
def yX9_isNumber : MethodName := ⟨RX9, "isNumber", "(II)V"⟩
abbrev cX9_readNumber : ByteArray := prog_11_method_17_code
def yX9_readNumber : MethodName := ⟨RX9, "readNumber", "(II)I"⟩
abbrev cX9_readHold : ByteArray := prog_11_method_18_code
def yX9_readHold : MethodName := ⟨RX9, "readHold", "()I"⟩
abbrev cX9_aHold : ByteArray := prog_11_method_19_code
def yX9_aHold : MethodName := ⟨RX9, "aHold", "()V"⟩
abbrev cX9_aDoor : ByteArray := prog_11_method_20_code
def yX9_aDoor : MethodName := ⟨RX9, "aDoor", "()V"⟩
abbrev cX9_aHole : ByteArray := prog_11_method_21_code
def yX9_aHole : MethodName := ⟨RX9, "aHole", "()V"⟩
abbrev cX9_aPump : ByteArray := prog_11_method_22_code
def yX9_aPump : MethodName := ⟨RX9, "aPump", "()V"⟩
abbrev cX9_readLine : ByteArray := prog_11_method_23_code
def yX9_readLine : MethodName := ⟨RX9, "readLine", "()V"⟩
abbrev cX9_text : ByteArray := prog_11_method_24_code
def yX9_text : MethodName := ⟨RX9, "text", "()I"⟩
abbrev cX9_fault : ByteArray := prog_11_method_25_code
def yX9_fault : MethodName := ⟨RX9, "fault", "()I"⟩
abbrev cX9_isHold : ByteArray := prog_11_method_26_code
def yX9_isHold : MethodName := ⟨RX9, "isHold", "(I)Z"⟩
abbrev cX9_heightOf : ByteArray := prog_11_method_27_code
def yX9_heightOf : MethodName := ⟨RX9, "heightOf", "(II)I"⟩
abbrev cX9_room : ByteArray := prog_11_method_28_code
def yX9_room : MethodName := ⟨RX9, "room", "(II)I"⟩
abbrev cX9_allOf : ByteArray := prog_11_method_29_code
def yX9_allOf : MethodName := ⟨RX9, "allOf", "(I)I"⟩
abbrev cX9_listOf : ByteArray := prog_11_method_30_code
def yX9_listOf : MethodName := ⟨RX9, "listOf", "(I)I"⟩
abbrev cX9_trimOf : ByteArray := prog_11_method_31_code
def yX9_trimOf : MethodName := ⟨RX9, "trimOf", "(I)I"⟩
abbrev cX9_whySinks : ByteArray := prog_11_method_32_code
def yX9_whySinks : MethodName := ⟨RX9, "whySinks", "(I)I"⟩
abbrev cX9_sees : ByteArray := prog_11_method_33_code
def yX9_sees : MethodName := ⟨RX9, "sees", "(I)V"⟩
abbrev cX9_comesIn : ByteArray := prog_11_method_34_code
def yX9_comesIn : MethodName := ⟨RX9, "comesIn", "(II)I"⟩
abbrev cX9_hold : ByteArray := prog_11_method_35_code
def yX9_hold : MethodName := ⟨RX9, "hold", "(II)I"⟩
abbrev cX9_isDoor : ByteArray := prog_11_method_36_code
def yX9_isDoor : MethodName := ⟨RX9, "isDoor", "(I)Z"⟩
abbrev cX9_door : ByteArray := prog_11_method_37_code
def yX9_door : MethodName := ⟨RX9, "door", "(II)I"⟩
abbrev cX9_hole : ByteArray := prog_11_method_38_code
def yX9_hole : MethodName := ⟨RX9, "hole", "(II)I"⟩
abbrev cX9_pump : ByteArray := prog_11_method_39_code
def yX9_pump : MethodName := ⟨RX9, "pump", "(II)I"⟩
abbrev cX9_rule : ByteArray := prog_11_method_40_code
def yX9_rule : MethodName := ⟨RX9, "rule", "(I)I"⟩
abbrev cX9_put : ByteArray := prog_11_method_41_code
def yX9_put : MethodName := ⟨RX9, "put", "(II)I"⟩
abbrev cX9_takes : ByteArray := prog_11_method_42_code
def yX9_takes : MethodName := ⟨RX9, "takes", "(II)I"⟩
abbrev cX9_ends : ByteArray := prog_11_method_43_code
def yX9_ends : MethodName := ⟨RX9, "ends", "(II)V"⟩
abbrev cX9_canBegin : ByteArray := prog_11_method_44_code
def yX9_canBegin : MethodName := ⟨RX9, "canBegin", "(II)Z"⟩
abbrev cX9_begins : ByteArray := prog_11_method_45_code
def yX9_begins : MethodName := ⟨RX9, "begins", "(II)V"⟩
abbrev cX9_ordersGo : ByteArray := prog_11_method_46_code
def yX9_ordersGo : MethodName := ⟨RX9, "ordersGo", "(I)V"⟩
abbrev cX9_waterGoes : ByteArray := prog_11_method_47_code
def yX9_waterGoes : MethodName := ⟨RX9, "waterGoes", "(I)V"⟩
abbrev cX9_aTon : ByteArray := prog_11_method_48_code
def yX9_aTon : MethodName := ⟨RX9, "aTon", "(II)V"⟩
abbrev cX9_aMinute : ByteArray := prog_11_method_49_code
def yX9_aMinute : MethodName := ⟨RX9, "aMinute", "(I)V"⟩
abbrev cX9_go : ByteArray := prog_11_method_50_code
def yX9_go : MethodName := ⟨RX9, "go", "(I)I"⟩
abbrev cX9_now : ByteArray := prog_11_method_51_code
def yX9_now : MethodName := ⟨RX9, "now", "(I)I"⟩
abbrev cX9_copies : ByteArray := prog_11_method_52_code
def yX9_copies : MethodName := ⟨RX9, "copies", "(II)V"⟩
abbrev cX9_keep : ByteArray := prog_11_method_53_code
def yX9_keep : MethodName := ⟨RX9, "keep", "(I)I"⟩
abbrev cX9_back : ByteArray := prog_11_method_54_code
def yX9_back : MethodName := ⟨RX9, "back", "(I)I"⟩
abbrev cX9_isOrder : ByteArray := prog_11_method_55_code
def yX9_isOrder : MethodName := ⟨RX9, "isOrder", "(JIII)Z"⟩
abbrev cX9_tells : ByteArray := prog_11_method_56_code
def yX9_tells : MethodName := ⟨RX9, "tells", "(IIIII)V"⟩
abbrev cX9_order : ByteArray := prog_11_method_57_code
def yX9_order : MethodName := ⟨RX9, "order", "(IIII)I"⟩
abbrev cX9_given : ByteArray := prog_11_method_58_code
def yX9_given : MethodName := ⟨RX9, "given", "(II)I"⟩
abbrev cX9_recall : ByteArray := prog_11_method_59_code
def yX9_recall : MethodName := ⟨RX9, "recall", "()I"⟩
abbrev cX9_runs : ByteArray := prog_11_method_60_code
def yX9_runs : MethodName := ⟨RX9, "runs", "(I)V"⟩
abbrev cX9_untilSunk : ByteArray := prog_11_method_61_code
def yX9_untilSunk : MethodName := ⟨RX9, "untilSunk", "()I"⟩
abbrev cX9_run : ByteArray := prog_11_method_62_code
def yX9_run : MethodName := ⟨RX9, "run", "(II)I"⟩
abbrev cX9_water : ByteArray := prog_11_method_63_code
def yX9_water : MethodName := ⟨RX9, "water", "(II)I"⟩
abbrev cX9_frees : ByteArray := prog_11_method_64_code
def yX9_frees : MethodName := ⟨RX9, "frees", "()V"⟩
abbrev cX9_freeFor : ByteArray := prog_11_method_65_code
def yX9_freeFor : MethodName := ⟨RX9, "freeFor", "(I)I"⟩
abbrev cX9_free : ByteArray := prog_11_method_66_code
def yX9_free : MethodName := ⟨RX9, "free", "(I)I"⟩
abbrev cX9_findChoices : ByteArray := prog_11_method_67_code
def yX9_findChoices : MethodName := ⟨RX9, "findChoices", "()V"⟩
abbrev cX9_tries : ByteArray := prog_11_method_68_code
def yX9_tries : MethodName := ⟨RX9, "tries", "(II)V"⟩
abbrev cX9_isUnlike : ByteArray := prog_11_method_69_code
def yX9_isUnlike : MethodName := ⟨RX9, "isUnlike", "(I)Z"⟩
abbrev cX9_longer : ByteArray := prog_11_method_70_code
def yX9_longer : MethodName := ⟨RX9, "longer", "(I)I"⟩
abbrev cX9_findBest : ByteArray := prog_11_method_71_code
def yX9_findBest : MethodName := ⟨RX9, "findBest", "(II)V"⟩
abbrev cX9_best : ByteArray := prog_11_method_72_code
def yX9_best : MethodName := ⟨RX9, "best", "(III)I"⟩
abbrev cX9_untilWith : ByteArray := prog_11_method_73_code
def yX9_untilWith : MethodName := ⟨RX9, "untilWith", "(III)I"⟩
abbrev cX9_canShut : ByteArray := prog_11_method_74_code
def yX9_canShut : MethodName := ⟨RX9, "canShut", "(I)Z"⟩
abbrev cX9_latest : ByteArray := prog_11_method_75_code
def yX9_latest : MethodName := ⟨RX9, "latest", "(II)I"⟩
abbrev cX9_helps : ByteArray := prog_11_method_76_code
def yX9_helps : MethodName := ⟨RX9, "helps", "(I)I"⟩
abbrev cX9_areHolds : ByteArray := prog_11_method_77_code
def yX9_areHolds : MethodName := ⟨RX9, "areHolds", "(I)Z"⟩
abbrev cX9_floatsWith : ByteArray := prog_11_method_78_code
def yX9_floatsWith : MethodName := ⟨RX9, "floatsWith", "(I)Z"⟩
abbrev cX9_together : ByteArray := prog_11_method_79_code
def yX9_together : MethodName := ⟨RX9, "together", "(I)I"⟩
abbrev cX9_beside : ByteArray := prog_11_method_80_code
def yX9_beside : MethodName := ⟨RX9, "beside", "(II)I"⟩
abbrev cX9_most : ByteArray := prog_11_method_81_code
def yX9_most : MethodName := ⟨RX9, "most", "(I)I"⟩
abbrev cX9_upright : ByteArray := prog_11_method_82_code
def yX9_upright : MethodName := ⟨RX9, "upright", "(I)I"⟩
abbrev cX9_openDoors : ByteArray := prog_11_method_83_code
def yX9_openDoors : MethodName := ⟨RX9, "openDoors", "()I"⟩
abbrev cX9_reach : ByteArray := prog_11_method_84_code
def yX9_reach : MethodName := ⟨RX9, "reach", "(II)I"⟩
abbrev cX9_areDoors : ByteArray := prog_11_method_85_code
def yX9_areDoors : MethodName := ⟨RX9, "areDoors", "(I)Z"⟩
abbrev cX9_men : ByteArray := prog_11_method_86_code
def yX9_men : MethodName := ⟨RX9, "men", "(I)I"⟩
abbrev cX9_holed : ByteArray := prog_11_method_87_code
def yX9_holed : MethodName := ⟨RX9, "holed", "()I"⟩
abbrev cX9_dry : ByteArray := prog_11_method_88_code
def yX9_dry : MethodName := ⟨RX9, "dry", "(II)I"⟩
abbrev cX9_sound : ByteArray := prog_11_method_89_code
def yX9_sound : MethodName := ⟨RX9, "sound", "(I)I"⟩
abbrev cX9_wipe : ByteArray := prog_11_method_90_code
def yX9_wipe : MethodName := ⟨RX9, "wipe", "()I"⟩
abbrev cX9_fits : ByteArray := prog_11_method_91_code
def yX9_fits : MethodName := ⟨RX9, "fits", "(II)Z"⟩
abbrev cX9_rates : ByteArray := prog_11_method_92_code
def yX9_rates : MethodName := ⟨RX9, "rates", "(I)I"⟩
abbrev cX9_isSheet : ByteArray := prog_11_method_93_code
def yX9_isSheet : MethodName := ⟨RX9, "isSheet", "(II)Z"⟩
abbrev cX9_sheet : ByteArray := prog_11_method_94_code
def yX9_sheet : MethodName := ⟨RX9, "sheet", "(III)I"⟩
abbrev cX9_lay : ByteArray := prog_11_method_95_code
def yX9_lay : MethodName := ⟨RX9, "lay", "(III)I"⟩
abbrev cX9_read : ByteArray := prog_11_method_96_code
def yX9_read : MethodName := ⟨RX9, "read", "(IIII)I"⟩
abbrev cX9_torn : ByteArray := prog_11_method_97_code
def yX9_torn : MethodName := ⟨RX9, "torn", "()I"⟩
abbrev cX9_count : ByteArray := prog_11_method_98_code
def yX9_count : MethodName := ⟨RX9, "count", "(I)I"⟩
def RJx145de : String := "java/io/Serializable"
def TJx145de : u_T := fun k => match k with
  | _ => ("", "", "", false)
def tyJx145de : Nat → FieldType := fun k => match k with
  | _ => .int
abbrev wsJx145de0 : List Cond := u_ws RJx145de TJx145de 0
theorem nmJx145de : ∀ a, a < 0 → ∀ b, b < 0 → a ≠ b → (TJx145de a).2.1 ≠ (TJx145de b).2.1 := by decide +kernel
theorem tyJx145de_ok : ∀ k, k < 0 → parseFieldDescriptor (TJx145de k).2.2.1 = some (tyJx145de k) := by decide +kernel
def RJx9f9b0 : String := "java/lang/CharSequence"
def TJx9f9b0 : u_T := fun k => match k with
  | _ => ("", "", "", false)
def tyJx9f9b0 : Nat → FieldType := fun k => match k with
  | _ => .int
abbrev wsJx9f9b00 : List Cond := u_ws RJx9f9b0 TJx9f9b0 0
theorem nmJx9f9b0 : ∀ a, a < 0 → ∀ b, b < 0 → a ≠ b → (TJx9f9b0 a).2.1 ≠ (TJx9f9b0 b).2.1 := by decide +kernel
theorem tyJx9f9b0_ok : ∀ k, k < 0 → parseFieldDescriptor (TJx9f9b0 k).2.2.1 = some (tyJx9f9b0 k) := by decide +kernel
def RJxb160c : String := "java/lang/Comparable"
def TJxb160c : u_T := fun k => match k with
  | _ => ("", "", "", false)
def tyJxb160c : Nat → FieldType := fun k => match k with
  | _ => .int
abbrev wsJxb160c0 : List Cond := u_ws RJxb160c TJxb160c 0
theorem nmJxb160c : ∀ a, a < 0 → ∀ b, b < 0 → a ≠ b → (TJxb160c a).2.1 ≠ (TJxb160c b).2.1 := by decide +kernel
theorem tyJxb160c_ok : ∀ k, k < 0 → parseFieldDescriptor (TJxb160c k).2.2.1 = some (tyJxb160c k) := by decide +kernel
def RJ6 : String := "java/lang/Integer"
def TJ6 : u_T := fun k => match k with
  | _ => ("", "", "", false)
def tyJ6 : Nat → FieldType := fun k => match k with
  | _ => .int
abbrev wsJ60 : List Cond := u_ws RJ6 TJ6 0
theorem nmJ6 : ∀ a, a < 0 → ∀ b, b < 0 → a ≠ b → (TJ6 a).2.1 ≠ (TJ6 b).2.1 := by decide +kernel
theorem tyJ6_ok : ∀ k, k < 0 → parseFieldDescriptor (TJ6 k).2.2.1 = some (tyJ6 k) := by decide +kernel
abbrev cJ6_bitCount_0f7a4 : ByteArray := prog_12_method_49_code
def yJ6_bitCount_0f7a4 : MethodName := ⟨RJ6, "bitCount", "(I)I"⟩
def RJ9 : String := "java/lang/Math"
def TJ9 : u_T := fun k => match k with
  | _ => ("", "", "", false)
def tyJ9 : Nat → FieldType := fun k => match k with
  | _ => .int
abbrev wsJ90 : List Cond := u_ws RJ9 TJ9 0
theorem nmJ9 : ∀ a, a < 0 → ∀ b, b < 0 → a ≠ b → (TJ9 a).2.1 ≠ (TJ9 b).2.1 := by decide +kernel
theorem tyJ9_ok : ∀ k, k < 0 → parseFieldDescriptor (TJ9 k).2.2.1 = some (tyJ9 k) := by decide +kernel
abbrev cJ9_abs_0f7a4 : ByteArray := prog_13_method_59_code
def yJ9_abs_0f7a4 : MethodName := ⟨RJ9, "abs", "(I)I"⟩
abbrev cJ9_max_7cf53 : ByteArray := prog_13_method_65_code
def yJ9_max_7cf53 : MethodName := ⟨RJ9, "max", "(II)I"⟩
abbrev cJ9_min_7cf53 : ByteArray := prog_13_method_69_code
def yJ9_min_7cf53 : MethodName := ⟨RJ9, "min", "(II)I"⟩
def RJ0 : String := "java/lang/String"
def TJ0 : u_T := fun k => match k with
  | _ => ("", "", "", false)
def tyJ0 : Nat → FieldType := fun k => match k with
  | _ => .int
abbrev wsJ00 : List Cond := u_ws RJ0 TJ0 0
theorem nmJ0 : ∀ a, a < 0 → ∀ b, b < 0 → a ≠ b → (TJ0 a).2.1 ≠ (TJ0 b).2.1 := by decide +kernel
theorem tyJ0_ok : ∀ k, k < 0 → parseFieldDescriptor (TJ0 k).2.2.1 = some (tyJ0 k) := by decide +kernel
abbrev cJ0_length_8abf5 : ByteArray := prog_14_method_54_code
def yJ0_length_8abf5 : MethodName := ⟨RJ0, "length", "()I"⟩
abbrev cJ0_charAt_5068e : ByteArray := prog_14_method_56_code
def yJ0_charAt_5068e : MethodName := ⟨RJ0, "charAt", "(I)C"⟩
abbrev cJ0_coder_7d493 : ByteArray := prog_14_method_152_code
def yJ0_coder_7d493 : MethodName := ⟨RJ0, "coder", "()B"⟩
abbrev cJ0_isLatin1_aae02 : ByteArray := prog_14_method_154_code
def yJ0_isLatin1_aae02 : MethodName := ⟨RJ0, "isLatin1", "()Z"⟩
abbrev cJ0_checkIndex_df160 : ByteArray := prog_14_method_155_code
def yJ0_checkIndex_df160 : MethodName := ⟨RJ0, "checkIndex", "(II)V"⟩
def RJ1 : String := "java/lang/StringLatin1"
def TJ1 : u_T := fun k => match k with
  | _ => ("", "", "", false)
def tyJ1 : Nat → FieldType := fun k => match k with
  | _ => .int
abbrev wsJ10 : List Cond := u_ws RJ1 TJ1 0
theorem nmJ1 : ∀ a, a < 0 → ∀ b, b < 0 → a ≠ b → (TJ1 a).2.1 ≠ (TJ1 b).2.1 := by decide +kernel
theorem tyJ1_ok : ∀ k, k < 0 → parseFieldDescriptor (TJ1 k).2.2.1 = some (tyJ1 k) := by decide +kernel
abbrev cJ1_charAt_3b067 : ByteArray := prog_15_method_2_code
def yJ1_charAt_3b067 : MethodName := ⟨RJ1, "charAt", "([BI)C"⟩
def RJ2 : String := "java/lang/StringUTF16"
def TJ2 : u_T := fun k => match k with
  | _ => ("", "", "", false)
def tyJ2 : Nat → FieldType := fun k => match k with
  | _ => .int
abbrev wsJ20 : List Cond := u_ws RJ2 TJ2 0
theorem nmJ2 : ∀ a, a < 0 → ∀ b, b < 0 → a ≠ b → (TJ2 a).2.1 ≠ (TJ2 b).2.1 := by decide +kernel
theorem tyJ2_ok : ∀ k, k < 0 → parseFieldDescriptor (TJ2 k).2.2.1 = some (tyJ2 k) := by decide +kernel
abbrev cJ2_getChar_3b067 : ByteArray := prog_16_method_5_code
def yJ2_getChar_3b067 : MethodName := ⟨RJ2, "getChar", "([BI)C"⟩
abbrev cJ2_length_9d52b : ByteArray := prog_16_method_6_code
def yJ2_length_9d52b : MethodName := ⟨RJ2, "length", "([B)I"⟩
abbrev cJ2_charAt_3b067 : ByteArray := prog_16_method_83_code
def yJ2_charAt_3b067 : MethodName := ⟨RJ2, "charAt", "([BI)C"⟩
abbrev cJ2_checkIndex_2214a : ByteArray := prog_16_method_91_code
def yJ2_checkIndex_2214a : MethodName := ⟨RJ2, "checkIndex", "(I[B)V"⟩
def RJ10 : String := "java/lang/System"
def TJ10 : u_T := fun k => match k with
  | _ => ("", "", "", false)
def tyJ10 : Nat → FieldType := fun k => match k with
  | _ => .int
abbrev wsJ100 : List Cond := u_ws RJ10 TJ10 0
theorem nmJ10 : ∀ a, a < 0 → ∀ b, b < 0 → a ≠ b → (TJ10 a).2.1 ≠ (TJ10 b).2.1 := by decide +kernel
theorem tyJ10_ok : ∀ k, k < 0 → parseFieldDescriptor (TJ10 k).2.2.1 = some (tyJ10 k) := by decide +kernel
def RJxfd54e : String := "java/lang/constant/Constable"
def TJxfd54e : u_T := fun k => match k with
  | _ => ("", "", "", false)
def tyJxfd54e : Nat → FieldType := fun k => match k with
  | _ => .int
abbrev wsJxfd54e0 : List Cond := u_ws RJxfd54e TJxfd54e 0
theorem nmJxfd54e : ∀ a, a < 0 → ∀ b, b < 0 → a ≠ b → (TJxfd54e a).2.1 ≠ (TJxfd54e b).2.1 := by decide +kernel
theorem tyJxfd54e_ok : ∀ k, k < 0 → parseFieldDescriptor (TJxfd54e k).2.2.1 = some (tyJxfd54e k) := by decide +kernel
def RJx3cf43 : String := "java/lang/constant/ConstantDesc"
def TJx3cf43 : u_T := fun k => match k with
  | _ => ("", "", "", false)
def tyJx3cf43 : Nat → FieldType := fun k => match k with
  | _ => .int
abbrev wsJx3cf430 : List Cond := u_ws RJx3cf43 TJx3cf43 0
theorem nmJx3cf43 : ∀ a, a < 0 → ∀ b, b < 0 → a ≠ b → (TJx3cf43 a).2.1 ≠ (TJx3cf43 b).2.1 := by decide +kernel
theorem tyJx3cf43_ok : ∀ k, k < 0 → parseFieldDescriptor (TJx3cf43 k).2.2.1 = some (tyJx3cf43 k) := by decide +kernel
def RJ7 : String := "java/util/Arrays"
def TJ7 : u_T := fun k => match k with
  | _ => ("", "", "", false)
def tyJ7 : Nat → FieldType := fun k => match k with
  | _ => .int
abbrev wsJ70 : List Cond := u_ws RJ7 TJ7 0
theorem nmJ7 : ∀ a, a < 0 → ∀ b, b < 0 → a ≠ b → (TJ7 a).2.1 ≠ (TJ7 b).2.1 := by decide +kernel
theorem tyJ7_ok : ∀ k, k < 0 → parseFieldDescriptor (TJ7 k).2.2.1 = some (tyJ7 k) := by decide +kernel
abbrev cJ7_fill_53178 : ByteArray := prog_18_method_103_code
def yJ7_fill_53178 : MethodName := ⟨RJ7, "fill", "([II)V"⟩
def RJ3 : String := "jdk/internal/util/Preconditions"
def TJ3 : u_T := fun k => match k with
  | _ => ("", "", "", false)
def tyJ3 : Nat → FieldType := fun k => match k with
  | _ => .int
abbrev wsJ30 : List Cond := u_ws RJ3 TJ3 0
theorem nmJ3 : ∀ a, a < 0 → ∀ b, b < 0 → a ≠ b → (TJ3 a).2.1 ≠ (TJ3 b).2.1 := by decide +kernel
theorem tyJ3_ok : ∀ k, k < 0 → parseFieldDescriptor (TJ3 k).2.2.1 = some (tyJ3 k) := by decide +kernel
abbrev cJ3_checkIndex_8e157 : ByteArray := prog_19_method_11_code
def yJ3_checkIndex_8e157 : MethodName := ⟨RJ3, "checkIndex", "(IILjava/util/function/BiFunction;)I"⟩
def RL : String := "WhichHoldLaw"
abbrev cL_law : ByteArray := code
def yL_law : MethodName := ⟨RL, "law", "([I)Z"⟩
end
section
abbrev Mm : Type := Nat → Nat → Int32
abbrev Rr : Type := Nat → Nat → Option Nat
abbrev Res : Type := Option Value × Mm × Rr
abbrev classes : List vw_C := [(RX0, TX0, 7), (RX1, TX1, 20), (RX2, TX2, 10), (RX3, TX3, 3), (RX4, TX4, 10), (RX5, TX5, 3), (RX6, TX6, 2), (RX7, TX7, 11), (RX8, TX8, 13), (RX9, TX9, 42)]
def tyT (c : Nat) : Nat → FieldType := match c with
  | 0 => tyX0
  | 1 => tyX1
  | 2 => tyX2
  | 3 => tyX3
  | 4 => tyX4
  | 5 => tyX5
  | 6 => tyX6
  | 7 => tyX7
  | 8 => tyX8
  | _ => tyX9
def LAYL : List (Nat × Nat) := [(8, 13), (2, 10), (21, 400), (22, 5), (7, 11), (20, 8), (20, 8), (20, 10), (20, 4), (20, 3), (0, 7), (20, 12), (20, 12), (20, 12), (20, 12), (20, 12), (20, 12), (3, 3), (7, 11), (20, 8), (20, 8), (20, 10), (20, 4), (20, 3), (0, 7), (20, 12), (20, 12), (20, 12), (20, 12), (20, 12), (20, 12), (3, 3), (23, 2), (22, 2), (4, 10), (20, 14), (20, 3), (20, 3), (20, 3), (3, 3), (6, 2), (20, 8), (24, 4), (1, 20), (20, 8), (20, 8), (20, 8), (20, 8), (20, 10), (20, 10), (20, 10), (20, 10), (20, 10), (20, 10), (20, 4), (20, 4), (20, 4), (20, 3), (20, 3), (20, 5), (1, 20), (20, 8), (20, 8), (20, 8), (20, 8), (20, 10), (20, 10), (20, 10), (20, 10), (20, 10), (20, 10), (20, 4), (20, 4), (20, 4), (20, 3), (20, 3), (20, 5), (7, 11), (20, 8), (20, 8), (20, 10), (20, 4), (20, 3), (0, 7), (20, 12), (20, 12), (20, 12), (20, 12), (20, 12), (20, 12), (3, 3), (7, 11), (20, 8), (20, 8), (20, 10), (20, 4), (20, 3), (0, 7), (20, 12), (20, 12), (20, 12), (20, 12), (20, 12), (20, 12), (3, 3), (5, 3), (20, 40), (5, 3), (20, 40), (5, 3), (20, 40), (5, 3), (20, 40), (9, 42), (20, 512), (22, 2), (20, 32), (20, 60), (20, 12), (20, 6), (20, 5), (20, 32), (20, 60), (20, 12), (20, 6), (20, 5), (22, 5), (20, 400), (20, 14), (20, 3), (20, 3), (20, 8), (20, 4), (20, 4), (20, 160)]
def LAY (k : Nat) : Nat × Nat := LAYL.getD k (20, 0)
def isRL : List (List Bool) := [[false, true, true, true, true, true, true], [false, false, false, false, true, true, true, true, true, true, true, true, true, true, true, true, true, true, true, true], [true, false, false, false, false, true, true, false, false, false], [false, false, false], [false, false, true, true, true, true, false, false, false, false], [false, false, true], [false, true], [false, false, false, false, true, true, true, true, true, true, true], [true, true, true, true, true, true, true, true, true, true, true, false, false], [true, true, false, true, false, true, false, true, false, true, true, false, true, false, true, false, true, false, true, true, true, true, false, false, false, false, false, false, false, false, false, true, true, true, false, false, false, true, true, true, true, false]]
def isR (c j : Nat) : Bool := (isRL.getD c []).getD j false
def nsl (n : Nat) : Nat := ((LAYL.take n).map (fun q => q.2)).sum
def TBg : List Cond := lw_tbl.filter goodWord
theorem TBg_in {w : Cond} (h : w ∈ lw_tbl) (hg : goodWord w = true) : w ∈ TBg := List.mem_filter.mpr ⟨h, hg⟩
theorem TBg_good : GoodIn TBg TBg := fun w h => ⟨h, good_of_word (List.mem_filter.mp h).2⟩
theorem TBg_code {y : MethodName} {cc : ByteArray} {nL : Nat} {ret : Option FieldType} (h : Cond.code y cc nL ret ∈ TBg) : GoodIn TBg (Cond.code y cc nL ret :: TBg) := fun w hw => (List.mem_cons.mp hw).elim (fun e => by rw [e]; exact TBg_good _ h) (fun h => TBg_good w h)
def up2 (m : Mm) (a i : Nat) (v : Int32) : Mm := fun b => if b = a then upd (m a) i v else m b
def upR (r : Rr) (a i : Nat) (v : Option Nat) : Rr := fun b => if b = a then va_up (r a) i v else r b
def upA (m : Mm) (a : Nat) (f : Nat → Int32) : Mm := fun b => if b = a then f else m b
/-- an abstract value as it lies on the machine: cells from base on, the text constants at their own places -/
def rv (base : Nat) (sa : Nat → Nat) : Value → Value
  | .ref a => .ref (base + a)
  | .float j => .ref (sa j.toNat)
  | v => v
theorem rv_cat (base : Nat) (sa : Nat → Nat) (v : Value) : (rv base sa v).category = v.category := by cases v <;> rfl
def lvR (base : Nat) (sa : Nat → Nat) (lv : List (Nat × Value)) : List (Nat × Value) := lv.map (fun q => (q.1, rv base sa q.2))
def fval (base c j : Nat) (x : Int32) (y : Option Nat) : Value := if isR c j = true then va_rf (y.map (base + ·)) else .int x
def cellOf (base : Nat) (cid : Nat → ClassId) (k : Nat) (m : Mm) (r : Rr) : va_E :=
  if (LAY k).1 < 20 then .inr ((LAY k).1, (List.range (LAY k).2).map (fun j => fval base (LAY k).1 j (m k j) (r k j)))
  else if (LAY k).1 < 23 then .inl (cid (LAY k).1, (LAY k).2, .inl (m k))
  else .inl (cid (LAY k).1, (LAY k).2, .inr (.inr (.inr (.inr (fun i => (r k i).map (base + ·))))))
def wsof (base : Nat) (cid : Nat → ClassId) (n : Nat) (m : Mm) (r : Rr) : va_W := (List.range n).map (fun k => (base + k, cellOf base cid k m r))
theorem wsof_at {base n k : Nat} {cid : Nat → ClassId} {m : Mm} {r : Rr} (h : k < n) : (wsof base cid n m r)[k]? = some (base + k, cellOf base cid k m r) := by
  simp [wsof, h]
theorem wsof_len {base n : Nat} {cid : Nat → ClassId} {m : Mm} {r : Rr} : (wsof base cid n m r).length = n := by simp [wsof]
theorem wsof_get {base n k : Nat} {cid : Nat → ClassId} {m : Mm} {r : Rr} {q : Nat × va_E} (h : (wsof base cid n m r)[k]? = some q) : k < n ∧ q = (base + k, cellOf base cid k m r) := by
  have h1 : k < n := by have := (List.getElem?_eq_some_iff.mp h).1; rwa [wsof_len] at this
  rw [wsof_at h1] at h
  exact ⟨h1, (Option.some.inj h).symm⟩
theorem wsof_D {base n : Nat} {cid : Nat → ClassId} {m : Mm} {r : Rr} : va_D (fun q => base ≤ q) (wsof base cid n m r) := by
  refine ⟨fun i j x y hi hj hxy => ?_, fun k q hk => ?_⟩
  · obtain ⟨-, rfl⟩ := wsof_get hi
    obtain ⟨-, rfl⟩ := wsof_get hj
    simp only at hxy
    omega
  · obtain ⟨-, rfl⟩ := wsof_get hk
    exact Nat.le_add_right _ _
theorem wsof_set {base n k : Nat} {cid : Nat → ClassId} {m m' : Mm} {r r' : Rr} (hm : ∀ i, i ≠ k → m' i = m i) (hr : ∀ i, i ≠ k → r' i = r i) : (wsof base cid n m r).set k (base + k, cellOf base cid k m' r') = wsof base cid n m' r' := by
  apply List.ext_getElem?
  intro i
  by_cases hi : i < n
  · by_cases hk : i = k
    · subst hk
      rw [List.getElem?_set_self (by rw [wsof_len]; exact hi), wsof_at hi]
    · rw [List.getElem?_set_ne (Ne.symm hk), wsof_at hi, wsof_at hi]
      simp only [cellOf, hm i hk, hr i hk]
  · rw [List.getElem?_eq_none (by rw [List.length_set, wsof_len]; omega), List.getElem?_eq_none (by rw [wsof_len]; omega)]
theorem wsof_push {base n : Nat} {cid : Nat → ClassId} {m : Mm} {r : Rr} : wsof base cid n m r ++ [(base + n, cellOf base cid n m r)] = wsof base cid (n + 1) m r := by
  simp [wsof, List.range_succ]
theorem cell_obj {base k ci N : Nat} {cid : Nat → ClassId} {m : Mm} {r : Rr} (h : LAY k = (ci, N)) (hc : ci < 20) : cellOf base cid k m r = .inr (ci, (List.range N).map (fun j => fval base ci j (m k j) (r k j))) := by
  simp [cellOf, h, hc]
theorem cell_arr {base k t N : Nat} {cid : Nat → ClassId} {m : Mm} {r : Rr} (h : LAY k = (t, N)) (h1 : ¬ t < 20) (h2 : t < 23) : cellOf base cid k m r = .inl (cid t, N, .inl (m k)) := by
  simp [cellOf, h, h1, h2]
theorem cell_arq {base k t N : Nat} {cid : Nat → ClassId} {m : Mm} {r : Rr} (h : LAY k = (t, N)) (h1 : ¬ t < 20) (h2 : ¬ t < 23) : cellOf base cid k m r = .inl (cid t, N, .inr (.inr (.inr (.inr (fun i => (r k i).map (base + ·)))))) := by
  simp [cellOf, h, h1, h2]
theorem map_range_set {α : Type} (f : Nat → α) (N j : Nat) (v : α) : ((List.range N).map f).set j v = (List.range N).map (fun i => if i = j then v else f i) := by
  apply List.ext_getElem?
  intro i
  by_cases hi : i < N
  · by_cases hj : i = j
    · subst hj
      rw [List.getElem?_set_self (by simpa using hi)]
      simp [hi]
    · rw [List.getElem?_set_ne (Ne.symm hj)]
      simp [hi, hj]
  · rw [List.getElem?_eq_none (by simp; omega), List.getElem?_eq_none (by simp; omega)]
theorem up2_self (m : Mm) (a i : Nat) (v : Int32) : up2 m a i v a = upd (m a) i v := if_pos rfl
theorem up2_ne {m : Mm} {a b i : Nat} {v : Int32} (h : b ≠ a) : up2 m a i v b = m b := if_neg h
theorem upR_self (r : Rr) (a i : Nat) (v : Option Nat) : upR r a i v a = va_up (r a) i v := if_pos rfl
theorem upR_ne {r : Rr} {a b i : Nat} {v : Option Nat} (h : b ≠ a) : upR r a i v b = r b := if_neg h
theorem upA_self (m : Mm) (a : Nat) (f : Nat → Int32) : upA m a f a = f := if_pos rfl
theorem upA_ne {m : Mm} {a b : Nat} {f : Nat → Int32} (h : b ≠ a) : upA m a f b = m b := if_neg h
theorem cell_putI {base k ci N j : Nat} {cid : Nat → ClassId} {m : Mm} {r : Rr} {v : Int32} (h : LAY k = (ci, N)) (hc : ci < 20) (hR : isR ci j = false) : (.inr (ci, ((List.range N).map (fun j => fval base ci j (m k j) (r k j))).set j (.int v)) : va_E) = cellOf base cid k (up2 m k j v) r := by
  rw [cell_obj h hc, map_range_set, up2_self]
  congr 2
  apply List.map_congr_left
  intro i _
  by_cases hi : i = j
  · subst hi
    simp [fval, hR, upd]
  · simp [hi, fval, upd]
theorem cell_putR {base k ci N j b : Nat} {cid : Nat → ClassId} {m : Mm} {r : Rr} (h : LAY k = (ci, N)) (hc : ci < 20) (hR : isR ci j = true) : (.inr (ci, ((List.range N).map (fun j => fval base ci j (m k j) (r k j))).set j (.ref (base + b))) : va_E) = cellOf base cid k m (upR r k j (some b)) := by
  rw [cell_obj h hc, map_range_set, upR_self]
  congr 2
  apply List.map_congr_left
  intro i _
  by_cases hi : i = j
  · subst hi
    simp [fval, hR, va_up, va_rf]
  · simp [hi, fval, va_up]

def nS : Nat := 10
def lenS : List Nat := [4, 4, 4, 4, 5, 5, 5, 5, 4, 4]
def bytS : List (List Int32) := [[104, 111, 108, 100], [100, 111, 111, 114], [104, 111, 108, 101], [112, 117, 109, 112], [99, 114, 101, 119, 115], [115, 105, 110, 107, 115], [108, 105, 115, 116, 115], [116, 114, 105, 109, 115], [115, 97, 102, 101], [115, 104, 117, 116]]
def txS : List String := ["hold", "door", "hole", "pump", "crews", "sinks", "lists", "trims", "safe", "shut"]
def idS : List Nat := [91, 97, 99, 101, 103, 105, 107, 109, 111, 158]
def tysOf (cid : Nat → ClassId) : List (ClassId × FieldType) := [(cid 20, .int), (cid 21, .byte), (cid 22, .boolean), (cid 23, .object RX7), (cid 24, .object RX5)]
end
section
def isNest : Cond → Bool
  | .methodLinkNest _ _ _ _ => true
  | _ => false
def NWl : List Cond := lw_tbl.filter isNest
abbrev AB (base : Nat) : Nat → Prop := fun q => base ≤ q
def SX (base : Nat) (sa sv : Nat → Nat) (U : State) : Prop :=
  vk_S nS lenS bytS sa sv (AB base) U U.heap ∧ (∀ i, i < nS → vk_R RX2 (idS.getD i 0) (txS.getD i "") (sa i) U) ∧ va_Z "java/lang/String" "COMPACT_STRINGS" "Z" (.int 1) (AB base) U U.heap ∧ va_Zq "jdk/internal/util/Preconditions" "SIOOBE_FORMATTER" "Ljava/util/function/BiFunction;" (AB base) U U.heap
def StU (D : va_G) (base : Nat) (cid : Nat → ClassId) (sa sv : Nat → Nat) (U : State) : Prop := va_K D classes (tysOf cid) U ∧ (∀ w ∈ NWl, va_Nw w U) ∧ SX base sa sv U
theorem StU.to {D : va_G} {base : Nat} {cid : Nat → ClassId} {sa sv : Nat → Nat} {s U : State} (h : StU D base cid sa sv s) (hW : s.WarmedH U.vm) (hq : ∀ a : Nat, a < s.heap.size → ¬ AB base a → U.heap[a]? = s.heap[a]?) : StU D base cid sa sv U := by
  obtain ⟨h1, h2, h3, h4, h5, h6⟩ := h
  refine ⟨va_K.moved hW.alike h1, fun w hw => ?_, ((h3.moved hW.alike).kept hq), fun i hi => (h4 i hi).warm hW, (h5.moved hW.alike).kept hq, (h6.moved hW.alike).kept hq⟩
  have hn := (List.mem_filter.mp hw).2
  have h0 := h2 w hw
  clear hw
  cases w <;> first | exact va_Nw.warmM hW h0 | cases hn
def MC (own : String) (cc : ByteArray) (nL : Nat) (ret : Option FieldType) (nm : String) (fr lo n0 nf : Nat) (p : Program) (R : Room) (s : State) (mi : MethodId) (args : Array Value) (meth : Method) (c : Code) (D : va_G) (base : Nat) (cid : Nat → ClassId) (sa sv : Nat → Nat) : Prop :=
  p.tables.exec = Jvm.exec ∧ c.code = cc ∧ meth.sig.returnType = ret ∧ c.maxLocals = nL ∧ s.vm.findClass own = some mi.cls ∧ (∀ w ∈ TBg, w.before args s = true) ∧ meth.locks = false ∧ StU D base cid sa sv s ∧ s.heap.size = base + n0 ∧ fr ≤ R.frames ∧ lo ≤ R.locals ∧ nf - n0 ≤ R.cells ∧ nsl nf - nsl n0 ≤ R.slots ∧ meth.name = nm
def QR (base : Nat) (sa : Nat → Nat) (cid : Nat → ClassId) (D : va_G) (nf : Nat) (x : Res) : Array Value → State → Outcome → State → Prop := fun _ st oc t =>
  oc = .returned (x.1.map (rv base sa)) ∧ va_P D classes (wsof base cid nf x.2.1 x.2.2) t.heap ∧ va_F (AB base) st t
/-- from the frame at pc, over the abstract cells n m r: if the value o, and k behind it, come to a result, the machine comes to it -/
def J (own : String) (cc : ByteArray) (nL : Nat) (ret : Option FieldType) (nm : String) (fr lo n0 nf : Nat) (pc : Nat) (lv : List (Nat × Value)) (st : List Value) (n : Nat) (m : Mm) (r : Rr) {σ : Type} (o : Option σ) (k : σ → Option Res) : Prop :=
  ∀ (p : Program) (l : Launch) (e : Env) (R : Room) (s : State) (mi : MethodId) (args : Array Value) (below : List Frame) (meth : Method) (c : Code) (D : va_G) (base : Nat) (cid : Nat → ClassId) (sa sv : Nat → Nat) (H : Heap) (locs : List Loc) (ls : Array Slot) (x : Res),
    MC own cc nL ret nm fr lo n0 nf p R s mi args meth c D base cid sa sv → va_P D classes (wsof base cid n m r) H → va_S (AB base) s.heap H locs → lv_has ls nL (lvR base sa lv) → n0 ≤ n → n ≤ nf → o.bind k = some x →
    W p l e R s mi args below meth c H locs (n - n0) (nsl n - nsl n0) (MQ below (QR base sa cid D nf x) args s (nf - n0) (nsl nf - nsl n0) (AB base)) (F0 mi pc ls (st.map (rv base sa)))
def Ct (y : MethodName) (cc : ByteArray) (nL : Nat) (ret : Option FieldType) (fr lo : Nat) (av : List Value) (n n' : Nat) (m : Mm) (r : Rr) (o : Option Res) : Prop :=
  ∀ (l : Launch) (D : va_G) (base : Nat) (cid : Nat → ClassId) (sa sv : Nat → Nat) (x : Res), o = some x →
    Met l y (Cond.code y cc nL ret :: TBg) { frames := fr, cells := n' - n, slots := nsl n' - nsl n, locals := lo } (va_Pc (av.map (rv base sa)) (fun U => U.heap.size = base + n ∧ va_P D classes (wsof base cid n m r) U.heap ∧ StU D base cid sa sv U)) (QR base sa cid D n' x) (n' - n) (nsl n' - nsl n) (AB base)
theorem lvargs_R (base : Nat) (sa : Nat → Nat) : ∀ (av : List Value) (i : Nat), lv_args i (av.map (rv base sa)) = lvR base sa (lv_args i av)
  | [], _ => rfl
  | v :: vs, i => by
    simp only [List.map_cons, lv_args, lvR, rv_cat]
    rw [lvargs_R base sa vs]
    rfl
theorem lgsl_len (base : Nat) (sa : Nat → Nat) : ∀ (av : List Value), (lg_sl (av.map (rv base sa))).length = (lg_sl av).length
  | [] => rfl
  | v :: vs => by
    have ih := lgsl_len base sa vs
    simp only [lg_sl] at ih ⊢
    simp only [List.map_cons, List.flatMap_cons, List.length_append, ih, rv_cat]
    by_cases h : v.category = 2 <;> simp [h]
theorem Ct.of {y : MethodName} {cc : ByteArray} {nL : Nat} {ret : Option FieldType} {fr lo : Nat} {av : List Value} {n n' : Nat} {m : Mm} {r : Rr} {o : Option Res} (hy : plainName y.cls = true) (hn : n ≤ n') (hav : (lg_sl av).length ≤ nL)
    (h : J y.cls cc nL ret y.name fr lo n n' 0 (lv_args 0 av) [] n m r o some) : Ct y cc nL ret fr lo av n n' m r o := by
  intro l D base cid sa sv x hx
  refine Met.ofW (cc := cc) (maxL := nL) (ret := ret) hy rfl ?_
  intro p e s mi args below meth c s₁ B hml hv
  obtain ⟨rfl, hsz, hP, hSt⟩ := hv
  have hts := atoms_spec (ws := Cond.code y cc nL ret :: TBg) B.pre
  have hown : s.vm.findClass y.cls = some mi.cls := findClass_of_methodNamed B.named
  have hl := lv_entry (av.map (rv base sa)) (n := nL) (by rw [lgsl_len]; exact hav)
  rw [lg_entry_eq]
  generalize (lg_sl (av.map (rv base sa)) ++ List.replicate (nL - (lg_sl (av.map (rv base sa))).length) Slot.unset).toArray = ls at hl ⊢
  rw [lvargs_R] at hl
  have key := h p l e { frames := fr, cells := n' - n, slots := nsl n' - nsl n, locals := lo } s mi ((av.map (rv base sa)).toArray) below meth c D base cid sa sv s.heap [] ls x ⟨B.exec, B.bytes, B.returns, hml, hown, fun w hw => hts w (List.mem_cons_of_mem _ hw), B.notSynchronized, hSt, hsz, Nat.le_refl _, Nat.le_refl _, Nat.le_refl _, Nat.le_refl _, (name_of_methodNamed B.named B.method).1⟩ hP va_S.rf hl (Nat.le_refl _) hn (by rw [hx]; rfl)
  rw [Nat.sub_self, Nat.sub_self] at key
  exact key
def letv {α β : Type} (a : α) (f : α → β) : β := f a
def ald (m : Mm) (a N : Nat) (i : Int32) : Option Int32 := if i < 0 ∨ N ≤ i.toNatClampNeg then none else some (m a i.toNatClampNeg)
def ast (m : Mm) (a N : Nat) (i v : Int32) : Option Mm := if i < 0 ∨ N ≤ i.toNatClampNeg then none else some (up2 m a i.toNatClampNeg v)
def aldR (r : Rr) (a N : Nat) (i : Int32) : Option Nat := if i < 0 ∨ N ≤ i.toNatClampNeg then none else r a i.toNatClampNeg
def odiv (x y : Int32) : Option Int32 := if y = 0 then none else some (x / y)
def orem (x y : Int32) : Option Int32 := if y = 0 then none else some (x - x / y * y)
def iter {σ ρ : Type} : Nat → (σ → Option (σ ⊕ ρ)) → σ → Option ρ
  | 0, _, _ => none
  | F + 1, b, s => (b s).bind (Sum.elim (iter F b) some)

section JR
variable {own : String} {cc : ByteArray} {nL : Nat} {ret : Option FieldType} {nm : String} {fr lo n0 nf : Nat} {pc : Nat} {lv : List (Nat × Value)} {st : List Value} {n : Nat} {m : Mm} {r : Rr} {σ : Type} {o : Option σ} {k : σ → Option Res}
theorem J_none {σ : Type} {k : σ → Option Res} : J own cc nL ret nm fr lo n0 nf pc lv st n m r (none : Option σ) k := by
  intro p l e R s mi args below meth c D base cid sa sv H locs ls x C hP hS hl hn hf hx
  cases hx
theorem lvR_at {base : Nat} {sa : Nat → Nat} {lv : List (Nat × Value)} {j i : Nat} {v : Value} (h : lv[j]? = some (i, v)) : (lvR base sa lv)[j]? = some (i, rv base sa v) := by
  simp [lvR, h]
theorem lvR_st {base : Nat} {sa : Nat → Nat} {lv lv' : List (Nat × Value)} {i : Nat} {v : Value} (h : (i, v) :: lv.filter (fun q => !(q.1 == i) && !(q.1 + 1 == i && q.2.category == 2)) = lv') : (i, rv base sa v) :: (lvR base sa lv).filter (fun q => !(q.1 == i) && !(q.1 + 1 == i && q.2.category == 2)) = lvR base sa lv' := by
  subst h
  simp only [lvR, List.map_cons, List.filter_map]
  congr 2
  apply List.filter_congr
  intro q _
  simp [rv_cat]
theorem lvR_stL {base : Nat} {sa : Nat → Nat} {lv lv' : List (Nat × Value)} {i : Nat} {v : Value} (h : (i, v) :: lv.filter (fun q => !(q.1 == i) && (!(q.1 == i + 1) && !(q.1 + 1 == i && q.2.category == 2))) = lv') : (i, rv base sa v) :: (lvR base sa lv).filter (fun q => !(q.1 == i) && (!(q.1 == i + 1) && !(q.1 + 1 == i && q.2.category == 2))) = lvR base sa lv' := by
  subst h
  simp only [lvR, List.map_cons, List.filter_map]
  congr 2
  apply List.filter_congr
  intro q _
  simp [rv_cat]

theorem J_iconst {z : Int} (v : Int32) (hd : decode cc pc = .ok (.iconst z, 1)) (hv : Int32.ofInt z = v) (h : J own cc nL ret nm fr lo n0 nf (pc + 1) (lv) (.int v :: st) (n) (m) (r) (o) (k)) : J own cc nL ret nm fr lo n0 nf (pc) (lv) (st) (n) (m) (r) (o) (k) := by
  intro p l e R s mi args below meth c D base cid sa sv H locs ls x C hP hS hl hn hf hx
  exact lv_iconst C.1 C.2.1 hd hv (h p l e R s mi args below meth c D base cid sa sv H locs ls x C hP hS hl hn hf hx)
theorem J_bipush {z : Int} (v : Int32) (hd : decode cc pc = .ok (.bipush z, 2)) (hv : (Int8.ofInt z).toInt32 = v) (h : J own cc nL ret nm fr lo n0 nf (pc + 2) (lv) (.int v :: st) (n) (m) (r) (o) (k)) : J own cc nL ret nm fr lo n0 nf (pc) (lv) (st) (n) (m) (r) (o) (k) := by
  intro p l e R s mi args below meth c D base cid sa sv H locs ls x C hP hS hl hn hf hx
  exact lv_bipush C.1 C.2.1 hd hv (h p l e R s mi args below meth c D base cid sa sv H locs ls x C hP hS hl hn hf hx)
theorem J_sipush {z : Int} (v : Int32) (hd : decode cc pc = .ok (.sipush z, 3)) (hv : (Int16.ofInt z).toInt32 = v) (h : J own cc nL ret nm fr lo n0 nf (pc + 3) (lv) (.int v :: st) (n) (m) (r) (o) (k)) : J own cc nL ret nm fr lo n0 nf (pc) (lv) (st) (n) (m) (r) (o) (k) := by
  intro p l e R s mi args below meth c D base cid sa sv H locs ls x C hP hS hl hn hf hx
  exact lv_sipush C.1 C.2.1 hd hv (h p l e R s mi args below meth c D base cid sa sv H locs ls x C hP hS hl hn hf hx)
theorem J_lconst {z : Fin 2} (v : Int64) (hd : decode cc pc = .ok (.lconst z, 1)) (hv : Int64.ofNat (z : Nat) = v) (h : J own cc nL ret nm fr lo n0 nf (pc + 1) (lv) (.long v :: st) (n) (m) (r) (o) (k)) : J own cc nL ret nm fr lo n0 nf (pc) (lv) (st) (n) (m) (r) (o) (k) := by
  intro p l e R s mi args below meth c D base cid sa sv H locs ls x C hP hS hl hn hf hx
  exact lv_lconst C.1 C.2.1 hd hv (h p l e R s mi args below meth c D base cid sa sv H locs ls x C hP hS hl hn hf hx)
theorem J_ldcw {ix : Nat} (v : Int32) (hd : decode cc pc = .ok (.ldc_w ix, 3)) (hw : Cond.constant own ix v ∈ TBg) (h : J own cc nL ret nm fr lo n0 nf (pc + 3) (lv) (.int v :: st) (n) (m) (r) (o) (k)) : J own cc nL ret nm fr lo n0 nf (pc) (lv) (st) (n) (m) (r) (o) (k) := by
  intro p l e R s mi args below meth c D base cid sa sv H locs ls x C hP hS hl hn hf hx
  exact lv_ldcw C.1 C.2.1 C.2.2.2.2.1 (C.2.2.2.2.2.1 _ hw) hd (h p l e R s mi args below meth c D base cid sa sv H locs ls x C hP hS hl hn hf hx)
theorem J_ldc {ix : Nat} (v : Int32) (hd : decode cc pc = .ok (.ldc ix, 2)) (hw : Cond.constant own ix v ∈ TBg) (h : J own cc nL ret nm fr lo n0 nf (pc + 2) (lv) (.int v :: st) (n) (m) (r) (o) (k)) : J own cc nL ret nm fr lo n0 nf (pc) (lv) (st) (n) (m) (r) (o) (k) := by
  intro p l e R s mi args below meth c D base cid sa sv H locs ls x C hP hS hl hn hf hx
  exact lv_ldc C.1 C.2.1 C.2.2.2.2.1 (C.2.2.2.2.2.1 _ hw) hd (h p l e R s mi args below meth c D base cid sa sv H locs ls x C hP hS hl hn hf hx)
theorem J_ldc2 {ix : Nat} (v : Int64) (hd : decode cc pc = .ok (.ldc2_w ix, 3)) (hw : Cond.constantLong own ix v ∈ TBg) (h : J own cc nL ret nm fr lo n0 nf (pc + 3) (lv) (.long v :: st) (n) (m) (r) (o) (k)) : J own cc nL ret nm fr lo n0 nf (pc) (lv) (st) (n) (m) (r) (o) (k) := by
  intro p l e R s mi args below meth c D base cid sa sv H locs ls x C hP hS hl hn hf hx
  exact lv_ldc2 C.1 C.2.1 C.2.2.2.2.1 (C.2.2.2.2.2.1 _ hw) hd (h p l e R s mi args below meth c D base cid sa sv H locs ls x C hP hS hl hn hf hx)
theorem J_ldcS {ix : Nat} (j : Nat) (hj : j < nS) (hown : own = RX2) (hix : idS.getD j 0 = ix) (hd : decode cc pc = .ok (.ldc ix, 2)) (h : J own cc nL ret nm fr lo n0 nf (pc + 2) (lv) (.float (UInt32.ofNat j) :: st) (n) (m) (r) (o) (k)) : J own cc nL ret nm fr lo n0 nf (pc) (lv) (st) (n) (m) (r) (o) (k) := by
  intro p l e R s mi args below meth c D base cid sa sv H locs ls x C hP hS hl hn hf hx
  subst hown
  subst hix
  have ej : (UInt32.ofNat j).toNat = j := by
    have : j < 10 := hj
    simp [UInt32.toNat_ofNat']
    omega
  have h1 := h p l e R s mi args below meth c D base cid sa sv H locs ls x C hP hS hl hn hf hx
  simp only [List.map_cons, rv, ej] at h1
  exact va_ldcS C.1 C.2.1 C.2.2.2.2.1 (C.2.2.2.2.2.2.2.1.2.2.2.1 j hj) hd h1
theorem J_iload_n {z : Fin 4} (i j : Nat) (v : Int32) (hd : decode cc pc = .ok (.iload_n z, 1)) (hi : (z : Nat) = i) (hj : lv[j]? = some (i, .int v)) (h : J own cc nL ret nm fr lo n0 nf (pc + 1) (lv) (.int v :: st) (n) (m) (r) (o) (k)) : J own cc nL ret nm fr lo n0 nf (pc) (lv) (st) (n) (m) (r) (o) (k) := by
  intro p l e R s mi args below meth c D base cid sa sv H locs ls x C hP hS hl hn hf hx
  exact lv_iload_n C.1 C.2.1 hd hi (lv_at hl j (lvR_at hj)) (h p l e R s mi args below meth c D base cid sa sv H locs ls x C hP hS hl hn hf hx)
theorem J_iload (i j : Nat) (v : Int32) (hd : decode cc pc = .ok (.iload i, 2)) (hj : lv[j]? = some (i, .int v)) (h : J own cc nL ret nm fr lo n0 nf (pc + 2) (lv) (.int v :: st) (n) (m) (r) (o) (k)) : J own cc nL ret nm fr lo n0 nf (pc) (lv) (st) (n) (m) (r) (o) (k) := by
  intro p l e R s mi args below meth c D base cid sa sv H locs ls x C hP hS hl hn hf hx
  exact lv_iload C.1 C.2.1 hd (lv_at hl j (lvR_at hj)) (h p l e R s mi args below meth c D base cid sa sv H locs ls x C hP hS hl hn hf hx)
theorem J_lload_n {z : Fin 4} (i j : Nat) (v : Int64) (hd : decode cc pc = .ok (.lload_n z, 1)) (hi : (z : Nat) = i) (hj : lv[j]? = some (i, .long v)) (h : J own cc nL ret nm fr lo n0 nf (pc + 1) (lv) (.long v :: st) (n) (m) (r) (o) (k)) : J own cc nL ret nm fr lo n0 nf (pc) (lv) (st) (n) (m) (r) (o) (k) := by
  intro p l e R s mi args below meth c D base cid sa sv H locs ls x C hP hS hl hn hf hx
  exact lv_lload_n C.1 C.2.1 hd hi (lv_at hl j (lvR_at hj)) (h p l e R s mi args below meth c D base cid sa sv H locs ls x C hP hS hl hn hf hx)
theorem J_lload (i j : Nat) (v : Int64) (hd : decode cc pc = .ok (.lload i, 2)) (hj : lv[j]? = some (i, .long v)) (h : J own cc nL ret nm fr lo n0 nf (pc + 2) (lv) (.long v :: st) (n) (m) (r) (o) (k)) : J own cc nL ret nm fr lo n0 nf (pc) (lv) (st) (n) (m) (r) (o) (k) := by
  intro p l e R s mi args below meth c D base cid sa sv H locs ls x C hP hS hl hn hf hx
  exact lv_lload C.1 C.2.1 hd (lv_at hl j (lvR_at hj)) (h p l e R s mi args below meth c D base cid sa sv H locs ls x C hP hS hl hn hf hx)
theorem J_aload_n {z : Fin 4} (i j : Nat) (v : Nat) (hd : decode cc pc = .ok (.aload_n z, 1)) (hi : (z : Nat) = i) (hj : lv[j]? = some (i, .ref v)) (h : J own cc nL ret nm fr lo n0 nf (pc + 1) (lv) (.ref v :: st) (n) (m) (r) (o) (k)) : J own cc nL ret nm fr lo n0 nf (pc) (lv) (st) (n) (m) (r) (o) (k) := by
  intro p l e R s mi args below meth c D base cid sa sv H locs ls x C hP hS hl hn hf hx
  exact lv_aload_n C.1 C.2.1 hd hi (lv_at hl j (lvR_at hj)) (h p l e R s mi args below meth c D base cid sa sv H locs ls x C hP hS hl hn hf hx)
theorem J_aload (i j : Nat) (v : Nat) (hd : decode cc pc = .ok (.aload i, 2)) (hj : lv[j]? = some (i, .ref v)) (h : J own cc nL ret nm fr lo n0 nf (pc + 2) (lv) (.ref v :: st) (n) (m) (r) (o) (k)) : J own cc nL ret nm fr lo n0 nf (pc) (lv) (st) (n) (m) (r) (o) (k) := by
  intro p l e R s mi args below meth c D base cid sa sv H locs ls x C hP hS hl hn hf hx
  exact lv_aload C.1 C.2.1 hd (lv_at hl j (lvR_at hj)) (h p l e R s mi args below meth c D base cid sa sv H locs ls x C hP hS hl hn hf hx)
theorem J_sload_n {z : Fin 4} (i j : Nat) (v : UInt32) (hd : decode cc pc = .ok (.aload_n z, 1)) (hi : (z : Nat) = i) (hj : lv[j]? = some (i, .float v)) (h : J own cc nL ret nm fr lo n0 nf (pc + 1) (lv) (.float v :: st) (n) (m) (r) (o) (k)) : J own cc nL ret nm fr lo n0 nf (pc) (lv) (st) (n) (m) (r) (o) (k) := by
  intro p l e R s mi args below meth c D base cid sa sv H locs ls x C hP hS hl hn hf hx
  exact lv_aload_n C.1 C.2.1 hd hi (lv_at hl j (lvR_at hj)) (h p l e R s mi args below meth c D base cid sa sv H locs ls x C hP hS hl hn hf hx)
theorem J_istore_n {z : Fin 4} (i : Nat) (lw : List (Nat × Value)) {v : Int32} (hd : decode cc pc = .ok (.istore_n z, 1)) (hi : (z : Nat) = i) (hn1 : i < nL) (hv : (i, Value.int v) :: lv.filter (fun q => !(q.1 == i) && !(q.1 + 1 == i && q.2.category == 2)) = lw) (h : J own cc nL ret nm fr lo n0 nf (pc + 1) (lw) (st) (n) (m) (r) (o) (k)) : J own cc nL ret nm fr lo n0 nf (pc) (lv) (.int v :: st) (n) (m) (r) (o) (k) := by
  intro p l e R s mi args below meth c D base cid sa sv H locs ls x C hP hS hl hn hf hx
  exact lv_istore_n C.1 C.2.1 hd hi hl hn1 (lvR_st hv) (fun ls1 hl1 => h p l e R s mi args below meth c D base cid sa sv H locs ls1 x C hP hS hl1 hn hf hx)
theorem J_istore (i : Nat) (lw : List (Nat × Value)) {v : Int32} (hd : decode cc pc = .ok (.istore i, 2)) (hn1 : i < nL) (hv : (i, Value.int v) :: lv.filter (fun q => !(q.1 == i) && !(q.1 + 1 == i && q.2.category == 2)) = lw) (h : J own cc nL ret nm fr lo n0 nf (pc + 2) (lw) (st) (n) (m) (r) (o) (k)) : J own cc nL ret nm fr lo n0 nf (pc) (lv) (.int v :: st) (n) (m) (r) (o) (k) := by
  intro p l e R s mi args below meth c D base cid sa sv H locs ls x C hP hS hl hn hf hx
  exact lv_istore C.1 C.2.1 hd hl hn1 (lvR_st hv) (fun ls1 hl1 => h p l e R s mi args below meth c D base cid sa sv H locs ls1 x C hP hS hl1 hn hf hx)
theorem J_astore_n {z : Fin 4} (i : Nat) (lw : List (Nat × Value)) {v : Nat} (hd : decode cc pc = .ok (.astore_n z, 1)) (hi : (z : Nat) = i) (hn1 : i < nL) (hv : (i, Value.ref v) :: lv.filter (fun q => !(q.1 == i) && !(q.1 + 1 == i && q.2.category == 2)) = lw) (h : J own cc nL ret nm fr lo n0 nf (pc + 1) (lw) (st) (n) (m) (r) (o) (k)) : J own cc nL ret nm fr lo n0 nf (pc) (lv) (.ref v :: st) (n) (m) (r) (o) (k) := by
  intro p l e R s mi args below meth c D base cid sa sv H locs ls x C hP hS hl hn hf hx
  exact lv_astore_n C.1 C.2.1 hd hi hl hn1 (lvR_st hv) (fun ls1 hl1 => h p l e R s mi args below meth c D base cid sa sv H locs ls1 x C hP hS hl1 hn hf hx)
theorem J_astore (i : Nat) (lw : List (Nat × Value)) {v : Nat} (hd : decode cc pc = .ok (.astore i, 2)) (hn1 : i < nL) (hv : (i, Value.ref v) :: lv.filter (fun q => !(q.1 == i) && !(q.1 + 1 == i && q.2.category == 2)) = lw) (h : J own cc nL ret nm fr lo n0 nf (pc + 2) (lw) (st) (n) (m) (r) (o) (k)) : J own cc nL ret nm fr lo n0 nf (pc) (lv) (.ref v :: st) (n) (m) (r) (o) (k) := by
  intro p l e R s mi args below meth c D base cid sa sv H locs ls x C hP hS hl hn hf hx
  exact lv_astore C.1 C.2.1 hd hl hn1 (lvR_st hv) (fun ls1 hl1 => h p l e R s mi args below meth c D base cid sa sv H locs ls1 x C hP hS hl1 hn hf hx)
theorem J_lstore (i : Nat) (lw : List (Nat × Value)) {v : Int64} (hd : decode cc pc = .ok (.lstore i, 2)) (hn1 : i + 1 < nL) (hv : (i, Value.long v) :: lv.filter (fun q => !(q.1 == i) && (!(q.1 == i + 1) && !(q.1 + 1 == i && q.2.category == 2))) = lw) (h : J own cc nL ret nm fr lo n0 nf (pc + 2) (lw) (st) (n) (m) (r) (o) (k)) : J own cc nL ret nm fr lo n0 nf (pc) (lv) (.long v :: st) (n) (m) (r) (o) (k) := by
  intro p l e R s mi args below meth c D base cid sa sv H locs ls x C hP hS hl hn hf hx
  exact lv_lstore C.1 C.2.1 hd hl hn1 (lvR_stL hv) (fun ls1 hl1 => h p l e R s mi args below meth c D base cid sa sv H locs ls1 x C hP hS hl1 hn hf hx)
theorem J_iinc {z : Int} (i j : Nat) (lw : List (Nat × Value)) (v w : Int32) (hd : decode cc pc = .ok (.iinc i z, 3)) (hj : lv[j]? = some (i, .int v)) (hw : v + Int32.ofInt z = w) (hn1 : i < nL) (hv : (i, Value.int w) :: lv.filter (fun q => !(q.1 == i) && !(q.1 + 1 == i && q.2.category == 2)) = lw) (h : J own cc nL ret nm fr lo n0 nf (pc + 3) (lw) (st) (n) (m) (r) (o) (k)) : J own cc nL ret nm fr lo n0 nf (pc) (lv) (st) (n) (m) (r) (o) (k) := by
  intro p l e R s mi args below meth c D base cid sa sv H locs ls x C hP hS hl hn hf hx
  exact lv_iinc C.1 C.2.1 hd hl (lvR_at hj) hw hn1 (lvR_st hv) (fun ls1 hl1 => h p l e R s mi args below meth c D base cid sa sv H locs ls1 x C hP hS hl1 hn hf hx)
theorem J_iadd {x1 y1 : Int32} (hd : decode cc pc = .ok (.iadd, 1)) (h : J own cc nL ret nm fr lo n0 nf (pc + 1) (lv) (.int (x1 + y1) :: st) (n) (m) (r) (o) (k)) : J own cc nL ret nm fr lo n0 nf (pc) (lv) (.int y1 :: .int x1 :: st) (n) (m) (r) (o) (k) := by
  intro p l e R s mi args below meth c D base cid sa sv H locs ls x C hP hS hl hn hf hx
  exact lv_iadd C.1 C.2.1 hd (h p l e R s mi args below meth c D base cid sa sv H locs ls x C hP hS hl hn hf hx)
theorem J_isub {x1 y1 : Int32} (hd : decode cc pc = .ok (.isub, 1)) (h : J own cc nL ret nm fr lo n0 nf (pc + 1) (lv) (.int (x1 - y1) :: st) (n) (m) (r) (o) (k)) : J own cc nL ret nm fr lo n0 nf (pc) (lv) (.int y1 :: .int x1 :: st) (n) (m) (r) (o) (k) := by
  intro p l e R s mi args below meth c D base cid sa sv H locs ls x C hP hS hl hn hf hx
  exact lv_isub C.1 C.2.1 hd (h p l e R s mi args below meth c D base cid sa sv H locs ls x C hP hS hl hn hf hx)
theorem J_imul {x1 y1 : Int32} (hd : decode cc pc = .ok (.imul, 1)) (h : J own cc nL ret nm fr lo n0 nf (pc + 1) (lv) (.int (x1 * y1) :: st) (n) (m) (r) (o) (k)) : J own cc nL ret nm fr lo n0 nf (pc) (lv) (.int y1 :: .int x1 :: st) (n) (m) (r) (o) (k) := by
  intro p l e R s mi args below meth c D base cid sa sv H locs ls x C hP hS hl hn hf hx
  exact lv_imul C.1 C.2.1 hd (h p l e R s mi args below meth c D base cid sa sv H locs ls x C hP hS hl hn hf hx)
theorem J_iand {x1 y1 : Int32} (hd : decode cc pc = .ok (.iand, 1)) (h : J own cc nL ret nm fr lo n0 nf (pc + 1) (lv) (.int (x1 &&& y1) :: st) (n) (m) (r) (o) (k)) : J own cc nL ret nm fr lo n0 nf (pc) (lv) (.int y1 :: .int x1 :: st) (n) (m) (r) (o) (k) := by
  intro p l e R s mi args below meth c D base cid sa sv H locs ls x C hP hS hl hn hf hx
  exact lv_iand C.1 C.2.1 hd (h p l e R s mi args below meth c D base cid sa sv H locs ls x C hP hS hl hn hf hx)
theorem J_ior {x1 y1 : Int32} (hd : decode cc pc = .ok (.ior, 1)) (h : J own cc nL ret nm fr lo n0 nf (pc + 1) (lv) (.int (x1 ||| y1) :: st) (n) (m) (r) (o) (k)) : J own cc nL ret nm fr lo n0 nf (pc) (lv) (.int y1 :: .int x1 :: st) (n) (m) (r) (o) (k) := by
  intro p l e R s mi args below meth c D base cid sa sv H locs ls x C hP hS hl hn hf hx
  exact lv_ior C.1 C.2.1 hd (h p l e R s mi args below meth c D base cid sa sv H locs ls x C hP hS hl hn hf hx)
theorem J_ixor {x1 y1 : Int32} (hd : decode cc pc = .ok (.ixor, 1)) (h : J own cc nL ret nm fr lo n0 nf (pc + 1) (lv) (.int (x1 ^^^ y1) :: st) (n) (m) (r) (o) (k)) : J own cc nL ret nm fr lo n0 nf (pc) (lv) (.int y1 :: .int x1 :: st) (n) (m) (r) (o) (k) := by
  intro p l e R s mi args below meth c D base cid sa sv H locs ls x C hP hS hl hn hf hx
  exact lv_ixor C.1 C.2.1 hd (h p l e R s mi args below meth c D base cid sa sv H locs ls x C hP hS hl hn hf hx)
theorem J_ishl {x1 y1 : Int32} (hd : decode cc pc = .ok (.ishl, 1)) (h : J own cc nL ret nm fr lo n0 nf (pc + 1) (lv) (.int (x1 <<< (y1 &&& 31)) :: st) (n) (m) (r) (o) (k)) : J own cc nL ret nm fr lo n0 nf (pc) (lv) (.int y1 :: .int x1 :: st) (n) (m) (r) (o) (k) := by
  intro p l e R s mi args below meth c D base cid sa sv H locs ls x C hP hS hl hn hf hx
  exact lv_ishl C.1 C.2.1 hd (h p l e R s mi args below meth c D base cid sa sv H locs ls x C hP hS hl hn hf hx)
theorem J_ishr {x1 y1 : Int32} (hd : decode cc pc = .ok (.ishr, 1)) (h : J own cc nL ret nm fr lo n0 nf (pc + 1) (lv) (.int (x1 >>> (y1 &&& 31)) :: st) (n) (m) (r) (o) (k)) : J own cc nL ret nm fr lo n0 nf (pc) (lv) (.int y1 :: .int x1 :: st) (n) (m) (r) (o) (k) := by
  intro p l e R s mi args below meth c D base cid sa sv H locs ls x C hP hS hl hn hf hx
  exact lv_ishr C.1 C.2.1 hd (h p l e R s mi args below meth c D base cid sa sv H locs ls x C hP hS hl hn hf hx)
theorem J_iushr {x1 y1 : Int32} (hd : decode cc pc = .ok (.iushr, 1)) (h : J own cc nL ret nm fr lo n0 nf (pc + 1) (lv) (.int ((x1.toUInt32 >>> (y1.toUInt32 &&& Int32.toUInt32 31)).toInt32) :: st) (n) (m) (r) (o) (k)) : J own cc nL ret nm fr lo n0 nf (pc) (lv) (.int y1 :: .int x1 :: st) (n) (m) (r) (o) (k) := by
  intro p l e R s mi args below meth c D base cid sa sv H locs ls x C hP hS hl hn hf hx
  exact lv_iushr C.1 C.2.1 hd rfl (h p l e R s mi args below meth c D base cid sa sv H locs ls x C hP hS hl hn hf hx)
theorem J_ineg {x1 : Int32} (hd : decode cc pc = .ok (.ineg, 1)) (h : J own cc nL ret nm fr lo n0 nf (pc + 1) (lv) (.int (0 - x1) :: st) (n) (m) (r) (o) (k)) : J own cc nL ret nm fr lo n0 nf (pc) (lv) (.int x1 :: st) (n) (m) (r) (o) (k) := by
  intro p l e R s mi args below meth c D base cid sa sv H locs ls x C hP hS hl hn hf hx
  first | exact lv_ineg C.1 C.2.1 hd (h p l e R s mi args below meth c D base cid sa sv H locs ls x C hP hS hl hn hf hx) | (refine lv_ineg C.1 C.2.1 hd ?_; have h1 := h p l e R s mi args below meth c D base cid sa sv H locs ls x C hP hS hl hn hf hx; simpa using h1)
theorem J_ladd {x1 y1 : Int64} (hd : decode cc pc = .ok (.ladd, 1)) (h : J own cc nL ret nm fr lo n0 nf (pc + 1) (lv) (.long (x1 + y1) :: st) (n) (m) (r) (o) (k)) : J own cc nL ret nm fr lo n0 nf (pc) (lv) (.long y1 :: .long x1 :: st) (n) (m) (r) (o) (k) := by
  intro p l e R s mi args below meth c D base cid sa sv H locs ls x C hP hS hl hn hf hx
  exact lv_ladd C.1 C.2.1 hd (h p l e R s mi args below meth c D base cid sa sv H locs ls x C hP hS hl hn hf hx)
theorem J_lsub {x1 y1 : Int64} (hd : decode cc pc = .ok (.lsub, 1)) (h : J own cc nL ret nm fr lo n0 nf (pc + 1) (lv) (.long (x1 - y1) :: st) (n) (m) (r) (o) (k)) : J own cc nL ret nm fr lo n0 nf (pc) (lv) (.long y1 :: .long x1 :: st) (n) (m) (r) (o) (k) := by
  intro p l e R s mi args below meth c D base cid sa sv H locs ls x C hP hS hl hn hf hx
  exact lv_lsub C.1 C.2.1 hd (h p l e R s mi args below meth c D base cid sa sv H locs ls x C hP hS hl hn hf hx)
theorem J_land {x1 y1 : Int64} (hd : decode cc pc = .ok (.land, 1)) (h : J own cc nL ret nm fr lo n0 nf (pc + 1) (lv) (.long (x1 &&& y1) :: st) (n) (m) (r) (o) (k)) : J own cc nL ret nm fr lo n0 nf (pc) (lv) (.long y1 :: .long x1 :: st) (n) (m) (r) (o) (k) := by
  intro p l e R s mi args below meth c D base cid sa sv H locs ls x C hP hS hl hn hf hx
  exact lv_land C.1 C.2.1 hd (h p l e R s mi args below meth c D base cid sa sv H locs ls x C hP hS hl hn hf hx)
theorem J_lor {x1 y1 : Int64} (hd : decode cc pc = .ok (.lor, 1)) (h : J own cc nL ret nm fr lo n0 nf (pc + 1) (lv) (.long (x1 ||| y1) :: st) (n) (m) (r) (o) (k)) : J own cc nL ret nm fr lo n0 nf (pc) (lv) (.long y1 :: .long x1 :: st) (n) (m) (r) (o) (k) := by
  intro p l e R s mi args below meth c D base cid sa sv H locs ls x C hP hS hl hn hf hx
  exact lv_lor C.1 C.2.1 hd (h p l e R s mi args below meth c D base cid sa sv H locs ls x C hP hS hl hn hf hx)
theorem J_lshl {x1 : Int64} {y1 : Int32} (hd : decode cc pc = .ok (.lshl, 1)) (h : J own cc nL ret nm fr lo n0 nf (pc + 1) (lv) (.long (x1 <<< (y1.toInt64 &&& 63)) :: st) (n) (m) (r) (o) (k)) : J own cc nL ret nm fr lo n0 nf (pc) (lv) (.int y1 :: .long x1 :: st) (n) (m) (r) (o) (k) := by
  intro p l e R s mi args below meth c D base cid sa sv H locs ls x C hP hS hl hn hf hx
  exact lv_lshl C.1 C.2.1 hd rfl (h p l e R s mi args below meth c D base cid sa sv H locs ls x C hP hS hl hn hf hx)
theorem J_lshr {x1 : Int64} {y1 : Int32} (hd : decode cc pc = .ok (.lshr, 1)) (h : J own cc nL ret nm fr lo n0 nf (pc + 1) (lv) (.long (x1 >>> (y1.toInt64 &&& 63)) :: st) (n) (m) (r) (o) (k)) : J own cc nL ret nm fr lo n0 nf (pc) (lv) (.int y1 :: .long x1 :: st) (n) (m) (r) (o) (k) := by
  intro p l e R s mi args below meth c D base cid sa sv H locs ls x C hP hS hl hn hf hx
  exact lv_lshr C.1 C.2.1 hd rfl (h p l e R s mi args below meth c D base cid sa sv H locs ls x C hP hS hl hn hf hx)
theorem J_lcmp {x1 y1 : Int64} (hd : decode cc pc = .ok (.lcmp, 1)) (h : J own cc nL ret nm fr lo n0 nf (pc + 1) (lv) (.int (lg_cmp x1 y1) :: st) (n) (m) (r) (o) (k)) : J own cc nL ret nm fr lo n0 nf (pc) (lv) (.long y1 :: .long x1 :: st) (n) (m) (r) (o) (k) := by
  intro p l e R s mi args below meth c D base cid sa sv H locs ls x C hP hS hl hn hf hx
  exact W.lcmp C.1 C.2.1 hd (h p l e R s mi args below meth c D base cid sa sv H locs ls x C hP hS hl hn hf hx)
theorem J_i2l {x1 : Int32} (hd : decode cc pc = .ok (.i2l, 1)) (h : J own cc nL ret nm fr lo n0 nf (pc + 1) (lv) (.long (x1.toInt64) :: st) (n) (m) (r) (o) (k)) : J own cc nL ret nm fr lo n0 nf (pc) (lv) (.int x1 :: st) (n) (m) (r) (o) (k) := by
  intro p l e R s mi args below meth c D base cid sa sv H locs ls x C hP hS hl hn hf hx
  exact lv_i2l C.1 C.2.1 hd rfl (h p l e R s mi args below meth c D base cid sa sv H locs ls x C hP hS hl hn hf hx)
theorem J_l2i {x1 : Int64} (hd : decode cc pc = .ok (.l2i, 1)) (h : J own cc nL ret nm fr lo n0 nf (pc + 1) (lv) (.int (x1.toInt32) :: st) (n) (m) (r) (o) (k)) : J own cc nL ret nm fr lo n0 nf (pc) (lv) (.long x1 :: st) (n) (m) (r) (o) (k) := by
  intro p l e R s mi args below meth c D base cid sa sv H locs ls x C hP hS hl hn hf hx
  exact lv_l2i C.1 C.2.1 hd rfl (h p l e R s mi args below meth c D base cid sa sv H locs ls x C hP hS hl hn hf hx)
theorem J_i2b {x1 : Int32} (hd : decode cc pc = .ok (.i2b, 1)) (h : J own cc nL ret nm fr lo n0 nf (pc + 1) (lv) (.int (x1.toInt8.toInt32) :: st) (n) (m) (r) (o) (k)) : J own cc nL ret nm fr lo n0 nf (pc) (lv) (.int x1 :: st) (n) (m) (r) (o) (k) := by
  intro p l e R s mi args below meth c D base cid sa sv H locs ls x C hP hS hl hn hf hx
  exact lv_i2b C.1 C.2.1 hd rfl (h p l e R s mi args below meth c D base cid sa sv H locs ls x C hP hS hl hn hf hx)
theorem J_i2s {x1 : Int32} (hd : decode cc pc = .ok (.i2s, 1)) (h : J own cc nL ret nm fr lo n0 nf (pc + 1) (lv) (.int (x1.toInt16.toInt32) :: st) (n) (m) (r) (o) (k)) : J own cc nL ret nm fr lo n0 nf (pc) (lv) (.int x1 :: st) (n) (m) (r) (o) (k) := by
  intro p l e R s mi args below meth c D base cid sa sv H locs ls x C hP hS hl hn hf hx
  exact lv_i2s C.1 C.2.1 hd rfl (h p l e R s mi args below meth c D base cid sa sv H locs ls x C hP hS hl hn hf hx)
theorem J_idiv {x1 y1 : Int32} {f : Int32 → Option σ} (hd : decode cc pc = .ok (.idiv, 1)) (h : ∀ z, J own cc nL ret nm fr lo n0 nf (pc + 1) (lv) (.int z :: st) (n) (m) (r) (f z) (k)) : J own cc nL ret nm fr lo n0 nf (pc) (lv) (.int y1 :: .int x1 :: st) (n) (m) (r) ((odiv x1 y1).bind f) (k) := by
  intro p l e R s mi args below meth c D base cid sa sv H locs ls x C hP hS hl hn hf hx
  by_cases h0 : y1 = 0
  · rw [odiv, if_pos h0] at hx
    cases hx
  · rw [odiv, if_neg h0] at hx
    exact lv_idiv C.1 C.2.1 hd h0 (h (x1 / y1) p l e R s mi args below meth c D base cid sa sv H locs ls x C hP hS hl hn hf hx)
theorem J_irem {x1 y1 : Int32} {f : Int32 → Option σ} (hd : decode cc pc = .ok (.irem, 1)) (h : ∀ z, J own cc nL ret nm fr lo n0 nf (pc + 1) (lv) (.int z :: st) (n) (m) (r) (f z) (k)) : J own cc nL ret nm fr lo n0 nf (pc) (lv) (.int y1 :: .int x1 :: st) (n) (m) (r) ((orem x1 y1).bind f) (k) := by
  intro p l e R s mi args below meth c D base cid sa sv H locs ls x C hP hS hl hn hf hx
  by_cases h0 : y1 = 0
  · rw [orem, if_pos h0] at hx
    cases hx
  · rw [orem, if_neg h0] at hx
    exact lv_irem C.1 C.2.1 hd h0 (h (x1 - x1 / y1 * y1) p l e R s mi args below meth c D base cid sa sv H locs ls x C hP hS hl hn hf hx)
theorem J_dup {va : Value} (hd : decode cc pc = .ok (.dup, 1)) (hva : va.category = 1) (h : J own cc nL ret nm fr lo n0 nf (pc + 1) (lv) (va :: va :: st) (n) (m) (r) (o) (k)) : J own cc nL ret nm fr lo n0 nf (pc) (lv) (va :: st) (n) (m) (r) (o) (k) := by
  intro p l e R s mi args below meth c D base cid sa sv H locs ls x C hP hS hl hn hf hx
  exact lv_dup C.1 C.2.1 hd (by rw [rv_cat]; exact hva) (h p l e R s mi args below meth c D base cid sa sv H locs ls x C hP hS hl hn hf hx)
theorem J_pop {va : Value} (hd : decode cc pc = .ok (.pop, 1)) (hva : va.category = 1) (h : J own cc nL ret nm fr lo n0 nf (pc + 1) (lv) (st) (n) (m) (r) (o) (k)) : J own cc nL ret nm fr lo n0 nf (pc) (lv) (va :: st) (n) (m) (r) (o) (k) := by
  intro p l e R s mi args below meth c D base cid sa sv H locs ls x C hP hS hl hn hf hx
  exact lv_pop C.1 C.2.1 hd (by rw [rv_cat]; exact hva) (h p l e R s mi args below meth c D base cid sa sv H locs ls x C hP hS hl hn hf hx)
theorem J_dup2 {va vb : Value} (hd : decode cc pc = .ok (.dup2, 1)) (hva : va.category = 1) (hvb : vb.category = 1) (h : J own cc nL ret nm fr lo n0 nf (pc + 1) (lv) (va :: vb :: va :: vb :: st) (n) (m) (r) (o) (k)) : J own cc nL ret nm fr lo n0 nf (pc) (lv) (va :: vb :: st) (n) (m) (r) (o) (k) := by
  intro p l e R s mi args below meth c D base cid sa sv H locs ls x C hP hS hl hn hf hx
  exact lv_dup2_11 C.1 C.2.1 hd (by rw [rv_cat]; exact hva) (by rw [rv_cat]; exact hvb) (h p l e R s mi args below meth c D base cid sa sv H locs ls x C hP hS hl hn hf hx)
theorem J_dup_x1 {va vb : Value} (hd : decode cc pc = .ok (.dup_x1, 1)) (hva : va.category = 1) (hvb : vb.category = 1) (h : J own cc nL ret nm fr lo n0 nf (pc + 1) (lv) (va :: vb :: va :: st) (n) (m) (r) (o) (k)) : J own cc nL ret nm fr lo n0 nf (pc) (lv) (va :: vb :: st) (n) (m) (r) (o) (k) := by
  intro p l e R s mi args below meth c D base cid sa sv H locs ls x C hP hS hl hn hf hx
  exact lv_dup_x1 C.1 C.2.1 hd (by rw [rv_cat]; exact hva) (by rw [rv_cat]; exact hvb) (h p l e R s mi args below meth c D base cid sa sv H locs ls x C hP hS hl hn hf hx)
theorem J_goto {off : Int} (tgt : Nat) (hd : decode cc pc = .ok (.goto off, 3)) (ht : (pc : Int) + off = (tgt : Int)) (h : J own cc nL ret nm fr lo n0 nf (tgt) (lv) (st) (n) (m) (r) (o) (k)) : J own cc nL ret nm fr lo n0 nf (pc) (lv) (st) (n) (m) (r) (o) (k) := by
  intro p l e R s mi args below meth c D base cid sa sv H locs ls x C hP hS hl hn hf hx
  exact lv_goto C.1 C.2.1 hd ht (h p l e R s mi args below meth c D base cid sa sv H locs ls x C hP hS hl hn hf hx)
theorem J_if_eq {x1 : Int32} {off : Int} {o1 o2 : Option σ} (tgt : Nat) (hd : decode cc pc = .ok (.ifCond .eq off, 3)) (ht : (pc : Int) + off = (tgt : Int)) (h1 : J own cc nL ret nm fr lo n0 nf (tgt) (lv) (st) (n) (m) (r) (o1) (k)) (h2 : J own cc nL ret nm fr lo n0 nf (pc + 3) (lv) (st) (n) (m) (r) (o2) (k)) : J own cc nL ret nm fr lo n0 nf (pc) (lv) (.int x1 :: st) (n) (m) (r) (if x1 = 0 then o1 else o2) (k) := by
  intro p l e R s mi args below meth c D base cid sa sv H locs ls x C hP hS hl hn hf hx
  exact lv_if_eq C.1 C.2.1 hd ht (fun hc => h1 p l e R s mi args below meth c D base cid sa sv H locs ls x C hP hS hl hn hf (by rw [if_pos hc] at hx; exact hx)) (fun hc => h2 p l e R s mi args below meth c D base cid sa sv H locs ls x C hP hS hl hn hf (by rw [if_neg hc] at hx; exact hx))
theorem J_if_ne {x1 : Int32} {off : Int} {o1 o2 : Option σ} (tgt : Nat) (hd : decode cc pc = .ok (.ifCond .ne off, 3)) (ht : (pc : Int) + off = (tgt : Int)) (h1 : J own cc nL ret nm fr lo n0 nf (tgt) (lv) (st) (n) (m) (r) (o1) (k)) (h2 : J own cc nL ret nm fr lo n0 nf (pc + 3) (lv) (st) (n) (m) (r) (o2) (k)) : J own cc nL ret nm fr lo n0 nf (pc) (lv) (.int x1 :: st) (n) (m) (r) (if x1 = 0 then o2 else o1) (k) := by
  intro p l e R s mi args below meth c D base cid sa sv H locs ls x C hP hS hl hn hf hx
  exact lv_if_ne C.1 C.2.1 hd ht (fun hc => h1 p l e R s mi args below meth c D base cid sa sv H locs ls x C hP hS hl hn hf (by rw [if_neg hc] at hx; exact hx)) (fun hc => h2 p l e R s mi args below meth c D base cid sa sv H locs ls x C hP hS hl hn hf (by rw [if_pos hc] at hx; exact hx))
theorem J_if_lt {x1 : Int32} {off : Int} {o1 o2 : Option σ} (tgt : Nat) (hd : decode cc pc = .ok (.ifCond .lt off, 3)) (ht : (pc : Int) + off = (tgt : Int)) (h1 : J own cc nL ret nm fr lo n0 nf (tgt) (lv) (st) (n) (m) (r) (o1) (k)) (h2 : J own cc nL ret nm fr lo n0 nf (pc + 3) (lv) (st) (n) (m) (r) (o2) (k)) : J own cc nL ret nm fr lo n0 nf (pc) (lv) (.int x1 :: st) (n) (m) (r) (if x1 < 0 then o1 else o2) (k) := by
  intro p l e R s mi args below meth c D base cid sa sv H locs ls x C hP hS hl hn hf hx
  exact lv_if_lt C.1 C.2.1 hd ht (fun hc => h1 p l e R s mi args below meth c D base cid sa sv H locs ls x C hP hS hl hn hf (by rw [if_pos hc] at hx; exact hx)) (fun hc => h2 p l e R s mi args below meth c D base cid sa sv H locs ls x C hP hS hl hn hf (by rw [if_neg hc] at hx; exact hx))
theorem J_if_ge {x1 : Int32} {off : Int} {o1 o2 : Option σ} (tgt : Nat) (hd : decode cc pc = .ok (.ifCond .ge off, 3)) (ht : (pc : Int) + off = (tgt : Int)) (h1 : J own cc nL ret nm fr lo n0 nf (tgt) (lv) (st) (n) (m) (r) (o1) (k)) (h2 : J own cc nL ret nm fr lo n0 nf (pc + 3) (lv) (st) (n) (m) (r) (o2) (k)) : J own cc nL ret nm fr lo n0 nf (pc) (lv) (.int x1 :: st) (n) (m) (r) (if 0 ≤ x1 then o1 else o2) (k) := by
  intro p l e R s mi args below meth c D base cid sa sv H locs ls x C hP hS hl hn hf hx
  exact lv_if_ge C.1 C.2.1 hd ht (fun hc => h1 p l e R s mi args below meth c D base cid sa sv H locs ls x C hP hS hl hn hf (by rw [if_pos hc] at hx; exact hx)) (fun hc => h2 p l e R s mi args below meth c D base cid sa sv H locs ls x C hP hS hl hn hf (by rw [if_neg hc] at hx; exact hx))
theorem J_if_gt {x1 : Int32} {off : Int} {o1 o2 : Option σ} (tgt : Nat) (hd : decode cc pc = .ok (.ifCond .gt off, 3)) (ht : (pc : Int) + off = (tgt : Int)) (h1 : J own cc nL ret nm fr lo n0 nf (tgt) (lv) (st) (n) (m) (r) (o1) (k)) (h2 : J own cc nL ret nm fr lo n0 nf (pc + 3) (lv) (st) (n) (m) (r) (o2) (k)) : J own cc nL ret nm fr lo n0 nf (pc) (lv) (.int x1 :: st) (n) (m) (r) (if 0 < x1 then o1 else o2) (k) := by
  intro p l e R s mi args below meth c D base cid sa sv H locs ls x C hP hS hl hn hf hx
  exact lv_if_gt C.1 C.2.1 hd ht (fun hc => h1 p l e R s mi args below meth c D base cid sa sv H locs ls x C hP hS hl hn hf (by rw [if_pos hc] at hx; exact hx)) (fun hc => h2 p l e R s mi args below meth c D base cid sa sv H locs ls x C hP hS hl hn hf (by rw [if_neg hc] at hx; exact hx))
theorem J_if_le {x1 : Int32} {off : Int} {o1 o2 : Option σ} (tgt : Nat) (hd : decode cc pc = .ok (.ifCond .le off, 3)) (ht : (pc : Int) + off = (tgt : Int)) (h1 : J own cc nL ret nm fr lo n0 nf (tgt) (lv) (st) (n) (m) (r) (o1) (k)) (h2 : J own cc nL ret nm fr lo n0 nf (pc + 3) (lv) (st) (n) (m) (r) (o2) (k)) : J own cc nL ret nm fr lo n0 nf (pc) (lv) (.int x1 :: st) (n) (m) (r) (if x1 ≤ 0 then o1 else o2) (k) := by
  intro p l e R s mi args below meth c D base cid sa sv H locs ls x C hP hS hl hn hf hx
  exact lv_if_le C.1 C.2.1 hd ht (fun hc => h1 p l e R s mi args below meth c D base cid sa sv H locs ls x C hP hS hl hn hf (by rw [if_pos hc] at hx; exact hx)) (fun hc => h2 p l e R s mi args below meth c D base cid sa sv H locs ls x C hP hS hl hn hf (by rw [if_neg hc] at hx; exact hx))
theorem J_icmp_eq {x1 y1 : Int32} {off : Int} {o1 o2 : Option σ} (tgt : Nat) (hd : decode cc pc = .ok (.if_icmp .eq off, 3)) (ht : (pc : Int) + off = (tgt : Int)) (h1 : J own cc nL ret nm fr lo n0 nf (tgt) (lv) (st) (n) (m) (r) (o1) (k)) (h2 : J own cc nL ret nm fr lo n0 nf (pc + 3) (lv) (st) (n) (m) (r) (o2) (k)) : J own cc nL ret nm fr lo n0 nf (pc) (lv) (.int y1 :: .int x1 :: st) (n) (m) (r) (if x1 = y1 then o1 else o2) (k) := by
  intro p l e R s mi args below meth c D base cid sa sv H locs ls x C hP hS hl hn hf hx
  exact lv_icmp_eq C.1 C.2.1 hd ht (fun hc => h1 p l e R s mi args below meth c D base cid sa sv H locs ls x C hP hS hl hn hf (by rw [if_pos hc] at hx; exact hx)) (fun hc => h2 p l e R s mi args below meth c D base cid sa sv H locs ls x C hP hS hl hn hf (by rw [if_neg hc] at hx; exact hx))
theorem J_icmp_ne {x1 y1 : Int32} {off : Int} {o1 o2 : Option σ} (tgt : Nat) (hd : decode cc pc = .ok (.if_icmp .ne off, 3)) (ht : (pc : Int) + off = (tgt : Int)) (h1 : J own cc nL ret nm fr lo n0 nf (tgt) (lv) (st) (n) (m) (r) (o1) (k)) (h2 : J own cc nL ret nm fr lo n0 nf (pc + 3) (lv) (st) (n) (m) (r) (o2) (k)) : J own cc nL ret nm fr lo n0 nf (pc) (lv) (.int y1 :: .int x1 :: st) (n) (m) (r) (if x1 = y1 then o2 else o1) (k) := by
  intro p l e R s mi args below meth c D base cid sa sv H locs ls x C hP hS hl hn hf hx
  exact lv_icmp_ne C.1 C.2.1 hd ht (fun hc => h1 p l e R s mi args below meth c D base cid sa sv H locs ls x C hP hS hl hn hf (by rw [if_neg hc] at hx; exact hx)) (fun hc => h2 p l e R s mi args below meth c D base cid sa sv H locs ls x C hP hS hl hn hf (by rw [if_pos hc] at hx; exact hx))
theorem J_icmp_lt {x1 y1 : Int32} {off : Int} {o1 o2 : Option σ} (tgt : Nat) (hd : decode cc pc = .ok (.if_icmp .lt off, 3)) (ht : (pc : Int) + off = (tgt : Int)) (h1 : J own cc nL ret nm fr lo n0 nf (tgt) (lv) (st) (n) (m) (r) (o1) (k)) (h2 : J own cc nL ret nm fr lo n0 nf (pc + 3) (lv) (st) (n) (m) (r) (o2) (k)) : J own cc nL ret nm fr lo n0 nf (pc) (lv) (.int y1 :: .int x1 :: st) (n) (m) (r) (if x1 < y1 then o1 else o2) (k) := by
  intro p l e R s mi args below meth c D base cid sa sv H locs ls x C hP hS hl hn hf hx
  exact lv_icmp_lt C.1 C.2.1 hd ht (fun hc => h1 p l e R s mi args below meth c D base cid sa sv H locs ls x C hP hS hl hn hf (by rw [if_pos hc] at hx; exact hx)) (fun hc => h2 p l e R s mi args below meth c D base cid sa sv H locs ls x C hP hS hl hn hf (by rw [if_neg hc] at hx; exact hx))
theorem J_icmp_ge {x1 y1 : Int32} {off : Int} {o1 o2 : Option σ} (tgt : Nat) (hd : decode cc pc = .ok (.if_icmp .ge off, 3)) (ht : (pc : Int) + off = (tgt : Int)) (h1 : J own cc nL ret nm fr lo n0 nf (tgt) (lv) (st) (n) (m) (r) (o1) (k)) (h2 : J own cc nL ret nm fr lo n0 nf (pc + 3) (lv) (st) (n) (m) (r) (o2) (k)) : J own cc nL ret nm fr lo n0 nf (pc) (lv) (.int y1 :: .int x1 :: st) (n) (m) (r) (if y1 ≤ x1 then o1 else o2) (k) := by
  intro p l e R s mi args below meth c D base cid sa sv H locs ls x C hP hS hl hn hf hx
  exact lv_icmp_ge C.1 C.2.1 hd ht (fun hc => h1 p l e R s mi args below meth c D base cid sa sv H locs ls x C hP hS hl hn hf (by rw [if_pos hc] at hx; exact hx)) (fun hc => h2 p l e R s mi args below meth c D base cid sa sv H locs ls x C hP hS hl hn hf (by rw [if_neg hc] at hx; exact hx))
theorem J_icmp_gt {x1 y1 : Int32} {off : Int} {o1 o2 : Option σ} (tgt : Nat) (hd : decode cc pc = .ok (.if_icmp .gt off, 3)) (ht : (pc : Int) + off = (tgt : Int)) (h1 : J own cc nL ret nm fr lo n0 nf (tgt) (lv) (st) (n) (m) (r) (o1) (k)) (h2 : J own cc nL ret nm fr lo n0 nf (pc + 3) (lv) (st) (n) (m) (r) (o2) (k)) : J own cc nL ret nm fr lo n0 nf (pc) (lv) (.int y1 :: .int x1 :: st) (n) (m) (r) (if y1 < x1 then o1 else o2) (k) := by
  intro p l e R s mi args below meth c D base cid sa sv H locs ls x C hP hS hl hn hf hx
  exact lv_icmp_gt C.1 C.2.1 hd ht (fun hc => h1 p l e R s mi args below meth c D base cid sa sv H locs ls x C hP hS hl hn hf (by rw [if_pos hc] at hx; exact hx)) (fun hc => h2 p l e R s mi args below meth c D base cid sa sv H locs ls x C hP hS hl hn hf (by rw [if_neg hc] at hx; exact hx))
theorem J_icmp_le {x1 y1 : Int32} {off : Int} {o1 o2 : Option σ} (tgt : Nat) (hd : decode cc pc = .ok (.if_icmp .le off, 3)) (ht : (pc : Int) + off = (tgt : Int)) (h1 : J own cc nL ret nm fr lo n0 nf (tgt) (lv) (st) (n) (m) (r) (o1) (k)) (h2 : J own cc nL ret nm fr lo n0 nf (pc + 3) (lv) (st) (n) (m) (r) (o2) (k)) : J own cc nL ret nm fr lo n0 nf (pc) (lv) (.int y1 :: .int x1 :: st) (n) (m) (r) (if x1 ≤ y1 then o1 else o2) (k) := by
  intro p l e R s mi args below meth c D base cid sa sv H locs ls x C hP hS hl hn hf hx
  exact lv_icmp_le C.1 C.2.1 hd ht (fun hc => h1 p l e R s mi args below meth c D base cid sa sv H locs ls x C hP hS hl hn hf (by rw [if_pos hc] at hx; exact hx)) (fun hc => h2 p l e R s mi args below meth c D base cid sa sv H locs ls x C hP hS hl hn hf (by rw [if_neg hc] at hx; exact hx))
theorem J_let {v : Int32} {f : Int32 → Option σ} (h : ∀ z, J own cc nL ret nm fr lo n0 nf (pc) (lv) (.int z :: st) (n) (m) (r) (f z) (k)) : J own cc nL ret nm fr lo n0 nf (pc) (lv) (.int v :: st) (n) (m) (r) (letv v f) (k) := h v
theorem J_letL {v : Int64} {f : Int64 → Option σ} (h : ∀ z, J own cc nL ret nm fr lo n0 nf (pc) (lv) (.long z :: st) (n) (m) (r) (f z) (k)) : J own cc nL ret nm fr lo n0 nf (pc) (lv) (.long v :: st) (n) (m) (r) (letv v f) (k) := h v
theorem J_seq {ρ : Type} {o1 : Option ρ} {f : ρ → Option σ} (h : J own cc nL ret nm fr lo n0 nf pc lv st n m r o1 (fun y => (f y).bind k)) : J own cc nL ret nm fr lo n0 nf (pc) (lv) (st) (n) (m) (r) (o1.bind f) (k) := by
  intro p l e R s mi args below meth c D base cid sa sv H locs ls x C hP hS hl hn hf hx
  exact h p l e R s mi args below meth c D base cid sa sv H locs ls x C hP hS hl hn hf (by rw [← Option.bind_assoc]; exact hx)
theorem J_end {ρ : Type} {y : ρ} {f : ρ → Option σ} (h : J own cc nL ret nm fr lo n0 nf (pc) (lv) (st) (n) (m) (r) (f y) (k)) : J own cc nL ret nm fr lo n0 nf pc lv st n m r (some y) (fun y => (f y).bind k) := by
  intro p l e R s mi args below meth c D base cid sa sv H locs ls x C hP hS hl hn hf hx
  exact h p l e R s mi args below meth c D base cid sa sv H locs ls x C hP hS hl hn hf hx
theorem J_iter {τ ρ : Type} {b : τ → Option (τ ⊕ ρ)} {f : ρ → Option σ} {Lv : τ → List (Nat × Value)} {Mv : τ → Mm}
    (hb : ∀ (t : τ) (k' : τ ⊕ ρ → Option Res), (∀ t', J own cc nL ret nm fr lo n0 nf pc (Lv t') st n (Mv t') r (some (Sum.inl t' : τ ⊕ ρ)) k') → (∀ y : ρ, ∀ (pc' : Nat) (lv' : List (Nat × Value)) (st' : List Value) (m' : Mm), J own cc nL ret nm fr lo n0 nf pc' lv' st' n m' r (f y) k → J own cc nL ret nm fr lo n0 nf pc' lv' st' n m' r (some (Sum.inr y : τ ⊕ ρ)) k') → J own cc nL ret nm fr lo n0 nf pc (Lv t) st n (Mv t) r (b t) k') :
    ∀ (F : Nat) (t : τ), J own cc nL ret nm fr lo n0 nf pc (Lv t) st n (Mv t) r ((iter F b t).bind f) k := by
  intro F
  induction F with
  | zero => intro t; exact J_none
  | succ F ih =>
    intro t
    have h1 := hb t (fun y => ((Sum.elim (iter F b) some y).bind f).bind k) (fun t' => ?_) (fun y pc' lv' st' m' h => ?_)
    · intro p l e R s mi args below meth c D base cid sa sv H locs ls x C hP hS hl hn hf hx
      refine h1 p l e R s mi args below meth c D base cid sa sv H locs ls x C hP hS hl hn hf ?_
      rw [iter] at hx
      rw [← hx]
      cases b t with
      | none => rfl
      | some y => rfl
    · intro p l e R s mi args below meth c D base cid sa sv H locs ls x C hP hS hl hn hf hx
      exact ih t' p l e R s mi args below meth c D base cid sa sv H locs ls x C hP hS hl hn hf hx
    · intro p l e R s mi args below meth c D base cid sa sv H locs ls x C hP hS hl hn hf hx
      exact h p l e R s mi args below meth c D base cid sa sv H locs ls x C hP hS hl hn hf hx
theorem J_iret {v : Int32} (hd : decode cc pc = .ok (.ireturn, 1)) (hr : ret = some .int) (hnf : n = nf) : J own cc nL ret nm fr lo n0 nf pc lv [.int v] n m r (some ((some (.int v), m, r) : Res)) some := by
  intro p l e R s mi args below meth c D base cid sa sv H locs ls x C hP hS hl hn hf hx
  cases hx
  subst hnf
  subst hr
  obtain ⟨c1, c2, c3, c4, c5, c6, c7, c8⟩ := C
  exact W.iret (v := v) c1 c2 c3 (fun t ht hW => ⟨rfl, by rw [ht]; exact hP, hS.F ht⟩) hS.2.2 hd c7
theorem J_zret {v : Int32} {ty : FieldType} (hd : decode cc pc = .ok (.ireturn, 1)) (hr : ret = some ty) (hw : narrow ty (.int v) = .int v) (hnf : n = nf) : J own cc nL ret nm fr lo n0 nf pc lv [.int v] n m r (some ((some (.int v), m, r) : Res)) some := by
  intro p l e R s mi args below meth c D base cid sa sv H locs ls x C hP hS hl hn hf hx
  cases hx
  subst hnf
  subst hr
  obtain ⟨c1, c2, c3, c4, c5, c6, c7, c8⟩ := C
  exact W.zret (v := v) c1 c2 c3 hw (fun t ht hW => ⟨rfl, by rw [ht]; exact hP, hS.F ht⟩) hS.2.2 hd c7
theorem J_vret (hd : decode cc pc = .ok (.return_, 1)) (hr : ret = none) (hnf : n = nf) : J own cc nL ret nm fr lo n0 nf pc lv [] n m r (some ((none, m, r) : Res)) some := by
  intro p l e R s mi args below meth c D base cid sa sv H locs ls x C hP hS hl hn hf hx
  cases hx
  subst hnf
  subst hr
  obtain ⟨c1, c2, c3, c4, c5, c6, c7, c8⟩ := C
  exact W.vret c1 c2 c3 (fun t ht hW => ⟨rfl, by rw [ht]; exact hP, hS.F ht⟩) hS.2.2 hd c7
end JR
end
section
def CN (c : Nat) : String := match c with
  | 0 => RX0
  | 1 => RX1
  | 2 => RX2
  | 3 => RX3
  | 4 => RX4
  | 5 => RX5
  | 6 => RX6
  | 7 => RX7
  | 8 => RX8
  | _ => RX9
def CT (c : Nat) : u_T := match c with
  | 0 => TX0
  | 1 => TX1
  | 2 => TX2
  | 3 => TX3
  | 4 => TX4
  | 5 => TX5
  | 6 => TX6
  | 7 => TX7
  | 8 => TX8
  | _ => TX9
def CK (c : Nat) : Nat := match c with
  | 0 => 7
  | 1 => 20
  | 2 => 10
  | 3 => 3
  | 4 => 10
  | 5 => 3
  | 6 => 2
  | 7 => 11
  | 8 => 13
  | _ => 42
theorem lt10 {P : Nat → Prop} (h : P 0 ∧ P 1 ∧ P 2 ∧ P 3 ∧ P 4 ∧ P 5 ∧ P 6 ∧ P 7 ∧ P 8 ∧ P 9) : ∀ c, c < 10 → P c := by
  intro c hc
  obtain ⟨h0, h1, h2, h3, h4, h5, h6, h7, h8, h9⟩ := h
  match c, hc with
  | 0, _ => exact h0
  | 1, _ => exact h1
  | 2, _ => exact h2
  | 3, _ => exact h3
  | 4, _ => exact h4
  | 5, _ => exact h5
  | 6, _ => exact h6
  | 7, _ => exact h7
  | 8, _ => exact h8
  | 9, _ => exact h9
  | c + 10, hc => exact absurd hc (by omega)
theorem cls_at : ∀ c, c < 10 → classes[c]? = some (CN c, CT c, CK c) := lt10 ⟨rfl, rfl, rfl, rfl, rfl, rfl, rfl, rfl, rfl, rfl⟩
theorem in_X0 : ∀ w ∈ u_ws RX0 TX0 7, w ∈ TBg := by decide +kernel
theorem in_X1 : ∀ w ∈ u_ws RX1 TX1 20, w ∈ TBg := by decide +kernel
theorem in_X2 : ∀ w ∈ u_ws RX2 TX2 10, w ∈ TBg := by decide +kernel
theorem in_X3 : ∀ w ∈ u_ws RX3 TX3 3, w ∈ TBg := by decide +kernel
theorem in_X4 : ∀ w ∈ u_ws RX4 TX4 10, w ∈ TBg := by decide +kernel
theorem in_X5 : ∀ w ∈ u_ws RX5 TX5 3, w ∈ TBg := by decide +kernel
theorem in_X6 : ∀ w ∈ u_ws RX6 TX6 2, w ∈ TBg := by decide +kernel
theorem in_X7 : ∀ w ∈ u_ws RX7 TX7 11, w ∈ TBg := by decide +kernel
theorem in_X8 : ∀ w ∈ u_ws RX8 TX8 13, w ∈ TBg := by decide +kernel
theorem in_X9 : ∀ w ∈ u_ws RX9 TX9 42, w ∈ TBg := by decide +kernel
theorem cls_in : ∀ c, c < 10 → ∀ w ∈ u_ws (CN c) (CT c) (CK c), w ∈ TBg := lt10 ⟨in_X0, in_X1, in_X2, in_X3, in_X4, in_X5, in_X6, in_X7, in_X8, in_X9⟩
theorem cls_ty : ∀ c, c < 10 → ∀ k, k < CK c → parseFieldDescriptor (CT c k).2.2.1 = some (tyT c k) := lt10 ⟨tyX0_ok, tyX1_ok, tyX2_ok, tyX3_ok, tyX4_ok, tyX5_ok, tyX6_ok, tyX7_ok, tyX8_ok, tyX9_ok⟩
theorem cls_nm : ∀ c, c < 10 → ∀ a, a < CK c → ∀ b, b < CK c → a ≠ b → (CT c a).2.1 ≠ (CT c b).2.1 := lt10 ⟨nmX0, nmX1, nmX2, nmX3, nmX4, nmX5, nmX6, nmX7, nmX8, nmX9⟩
theorem dc_X0 : ∀ k, k < 7 → (TX0 k).1 = RX0 := by decide +kernel
theorem dc_X1 : ∀ k, k < 20 → (TX1 k).1 = RX1 := by decide +kernel
theorem dc_X2 : ∀ k, k < 10 → (TX2 k).1 = RX2 := by decide +kernel
theorem dc_X3 : ∀ k, k < 3 → (TX3 k).1 = RX3 := by decide +kernel
theorem dc_X4 : ∀ k, k < 10 → (TX4 k).1 = RX4 := by decide +kernel
theorem dc_X5 : ∀ k, k < 3 → (TX5 k).1 = RX5 := by decide +kernel
theorem dc_X6 : ∀ k, k < 2 → (TX6 k).1 = RX6 := by decide +kernel
theorem dc_X7 : ∀ k, k < 11 → (TX7 k).1 = RX7 := by decide +kernel
theorem dc_X8 : ∀ k, k < 13 → (TX8 k).1 = RX8 := by decide +kernel
theorem dc_X9 : ∀ k, k < 42 → (TX9 k).1 = RX9 := by decide +kernel
theorem cls_dc : ∀ c, c < 10 → ∀ k, k < CK c → (CT c k).1 = CN c := lt10 ⟨dc_X0, dc_X1, dc_X2, dc_X3, dc_X4, dc_X5, dc_X6, dc_X7, dc_X8, dc_X9⟩
theorem lay_all : ∀ k, k < 135 → ((LAY k).1 < 10 → (LAY k).2 = CK (LAY k).1) := by decide +kernel
theorem lay_out {k : Nat} (h : ¬ k < 135) : LAY k = (20, 0) := by
  unfold LAY
  rw [List.getD_eq_getElem?_getD, List.getElem?_eq_none (by show LAYL.length ≤ k; have : LAYL.length = 135 := by decide +kernel
                                                            omega)]
  rfl
theorem lay_obj {k ci : Nat} (h : (LAY k).1 = ci) (hc : ci < 10) : LAY k = (ci, CK ci) := by
  by_cases hk : k < 135
  · subst h
    exact Prod.ext rfl (lay_all k hk hc)
  · rw [lay_out hk] at h
    have : (20 : Nat) = ci := h
    omega
/-- a link of a field: which class, which of its fields -/
def FL (own : String) (ix ci kf : Nat) : Prop := ci < 10 ∧ kf < CK ci ∧ Cond.fieldLink own ix (CN ci) (CT ci kf).2.1 (CT ci kf).2.2.1 ∈ TBg
theorem low_of {D : va_G} {base n n0 : Nat} {cid : Nat → ClassId} {m : Mm} {r : Rr} {H H0 : Heap} {locs : List Loc} (hP : va_P D classes (wsof base cid n m r) H) (hS : va_S (AB base) H0 H locs) (h0 : H0.size = base + n0) : base + n ≤ H.size := by
  by_cases hn : n = 0
  · have := hS.1
    omega
  · have h1 := (hP (n - 1) _ (wsof_at (by omega))).lt
    simp only at h1
    omega
section HR
variable {p : Program} {l : Launch} {e : Env} {R : Room} {s : State} {mi : MethodId} {args : Array Value} {below : List Frame} {meth : Method} {c : Code} {H : Heap} {locs : List Loc} {Q : State → Prop} {g : JFrame} {slots : Nat}
theorem W_size {D : va_G} {base n n0 : Nat} {cid : Nat → ClassId} {m : Mm} {r : Rr} (hP : va_P D classes (wsof base cid n m r) H) (hS : va_S (AB base) s.heap H locs) (h0 : s.heap.size = base + n0) (hn : n0 ≤ n)
    (k : H.size = base + n → W p l e R s mi args below meth c H locs (n - n0) slots Q g) : W p l e R s mi args below meth c H locs (n - n0) slots Q g := by
  intro T hT X
  have h1 := X.heapSize
  have h2 := low_of hP hS h0
  rw [hT] at h1
  exact k (by omega) T hT X
theorem W_new {D : va_G} {base n n0 q : Nat} {E : va_E} {cid : Nat → ClassId} {m : Mm} {r : Rr} (hP : va_P D classes (wsof base cid n m r ++ [(q, E)]) H) (hD : va_D (AB base) (wsof base cid n m r ++ [(q, E)])) (h0 : s.heap.size = base + n0) (hn : n0 ≤ n)
    (k : q = base + n → W p l e R s mi args below meth c H locs (n - n0 + 1) slots Q g) : W p l e R s mi args below meth c H locs (n - n0 + 1) slots Q g := by
  intro T hT X
  have h1 := X.heapSize
  rw [hT] at h1
  have hq : (wsof base cid n m r ++ [(q, E)])[n]? = some (q, E) := by
    rw [List.getElem?_append_right (by rw [wsof_len]; exact Nat.le_refl _), wsof_len, Nat.sub_self]
    rfl
  have h2 := (hP n _ hq).lt
  have h3 : base ≤ q := hD.2 n _ hq
  simp only at h2
  refine k ?_ T hT X
  by_cases he : q = base + n
  · exact he
  · have hlt : q - base < n := by omega
    have h4 : (wsof base cid n m r ++ [(q, E)])[q - base]? = some (base + (q - base), cellOf base cid (q - base) m r) := by
      rw [List.getElem?_append_left (by rw [wsof_len]; exact hlt)]
      exact wsof_at hlt
    have h5 := hD.1 (q - base) n _ _ h4 hq (by simp only; omega)
    omega
end HR

section JH
variable {own : String} {cc : ByteArray} {nL : Nat} {ret : Option FieldType} {nm : String} {fr lo n0 nf : Nat} {pc : Nat} {lv : List (Nat × Value)} {st : List Value} {n : Nat} {m : Mm} {r : Rr} {σ : Type} {o : Option σ} {k : σ → Option Res}
theorem J_getI {ix : Nat} (a ci kf : Nat) (hd : decode cc pc = .ok (.getfield ix, 3)) (hF : FL own ix ci kf) (hL : (LAY a).1 = ci) (hR : isR ci kf = false) (ha : a < n) (h : J own cc nL ret nm fr lo n0 nf (pc + 3) (lv) (.int (m a kf) :: st) (n) (m) (r) (o) (k)) : J own cc nL ret nm fr lo n0 nf (pc) (lv) (.ref a :: st) (n) (m) (r) (o) (k) := by
  intro p l e R s mi args below meth c D base cid sa sv H locs ls x C hP hS hl hn hf hx
  obtain ⟨c1, c2, c3, c4, c5, c6, c7, c8, c9, c10, c11, c12, c13, c14⟩ := id C
  obtain ⟨f1, f2, f3⟩ := hF
  have hLe := lay_obj hL f1
  exact va_get (D := D) (ci := ci) (v := .int (m a kf)) (C := CN ci) (T := CT ci) (N := CK ci) c1 c2 c6 (cls_in ci f1) c5 c8.1 hP a (by rw [wsof_at ha, cell_obj hLe (by omega)]) (cls_at ci f1) kf f2 (c6 _ f3) (fun x hx => by rw [cls_dc ci f1 kf f2] at hx; exact hx) (by simp [f2, fval, hR]) hd (h p l e R s mi args below meth c D base cid sa sv H locs ls x C hP hS hl hn hf hx)
theorem J_getR {ix : Nat} (a ci kf b : Nat) (hd : decode cc pc = .ok (.getfield ix, 3)) (hF : FL own ix ci kf) (hL : (LAY a).1 = ci) (hR : isR ci kf = true) (ha : a < n) (hb : r a kf = some b) (h : J own cc nL ret nm fr lo n0 nf (pc + 3) (lv) (.ref b :: st) (n) (m) (r) (o) (k)) : J own cc nL ret nm fr lo n0 nf (pc) (lv) (.ref a :: st) (n) (m) (r) (o) (k) := by
  intro p l e R s mi args below meth c D base cid sa sv H locs ls x C hP hS hl hn hf hx
  obtain ⟨c1, c2, c3, c4, c5, c6, c7, c8, c9, c10, c11, c12, c13, c14⟩ := id C
  obtain ⟨f1, f2, f3⟩ := hF
  have hLe := lay_obj hL f1
  exact va_get (D := D) (ci := ci) (v := .ref (base + b)) (C := CN ci) (T := CT ci) (N := CK ci) c1 c2 c6 (cls_in ci f1) c5 c8.1 hP a (by rw [wsof_at ha, cell_obj hLe (by omega)]) (cls_at ci f1) kf f2 (c6 _ f3) (fun x hx => by rw [cls_dc ci f1 kf f2] at hx; exact hx) (by simp [f2, fval, hR, hb, va_rf]) hd (h p l e R s mi args below meth c D base cid sa sv H locs ls x C hP hS hl hn hf hx)
theorem J_putI {ix : Nat} {v : Int32} {f : Mm → Option σ} (a ci kf : Nat) (hd : decode cc pc = .ok (.putfield ix, 3)) (hF : FL own ix ci kf) (hL : (LAY a).1 = ci) (hR : isR ci kf = false) (ha : a < n) (hfin : (CT ci kf).2.2.2 = false) (hnar : narrow (tyT ci kf) (.int v) = .int v) (hfit : fits (tyT ci kf) (.int v) = true) (h : ∀ m1, J own cc nL ret nm fr lo n0 nf (pc + 3) (lv) (st) (n) (m1) (r) (f m1) (k)) : J own cc nL ret nm fr lo n0 nf (pc) (lv) (.int v :: .ref a :: st) (n) (m) (r) (letv (up2 m a kf v) f) (k) := by
  intro p l e R s mi args below meth c D base cid sa sv H locs ls x C hP hS hl hn hf hx
  obtain ⟨c1, c2, c3, c4, c5, c6, c7, c8, c9, c10, c11, c12, c13, c14⟩ := id C
  obtain ⟨f1, f2, f3⟩ := hF
  have hLe := lay_obj hL f1
  have he : (wsof base cid n m r)[a]? = some (base + a, .inr (ci, (List.range (CK ci)).map (fun j => fval base ci j (m a j) (r a j)))) := by rw [wsof_at ha, cell_obj hLe (by omega)]
  refine va_put (D := D) (ci := ci) (v := .int v) (ty := tyT ci kf) (C := CN ci) (T := CT ci) (N := CK ci) c1 c2 c6 (cls_in ci f1) (tyT ci) (cls_ty ci f1) (cls_nm ci f1) c5 c8.1 hP wsof_D hS a he (cls_at ci f1) kf f2 (c6 _ f3) (fun x hx => by rw [cls_dc ci f1 kf f2] at hx; exact hx) hfin (cls_ty ci f1 kf f2) hnar hfit (by simpa using f2) hd (fun H1 locs1 hP1 _ hS1 => ?_)
  rw [cell_putI (cid := cid) hLe (by omega) hR, wsof_set (fun i hi => up2_ne hi) (fun i hi => rfl)] at hP1
  exact h _ p l e R s mi args below meth c D base cid sa sv H1 locs1 ls x C hP1 hS1 hl hn hf hx
theorem J_putIF {ix : Nat} {v : Int32} {f : Mm → Option σ} (a ci kf : Nat) (hd : decode cc pc = .ok (.putfield ix, 3)) (hF : FL own ix ci kf) (hL : (LAY a).1 = ci) (hR : isR ci kf = false) (ha : a < n) (hfin : (CT ci kf).2.2.2 = true) (hini : nm = "<init>") (hown : CN ci = own) (hnar : narrow (tyT ci kf) (.int v) = .int v) (hfit : fits (tyT ci kf) (.int v) = true) (h : ∀ m1, J own cc nL ret nm fr lo n0 nf (pc + 3) (lv) (st) (n) (m1) (r) (f m1) (k)) : J own cc nL ret nm fr lo n0 nf (pc) (lv) (.int v :: .ref a :: st) (n) (m) (r) (letv (up2 m a kf v) f) (k) := by
  intro p l e R s mi args below meth c D base cid sa sv H locs ls x C hP hS hl hn hf hx
  obtain ⟨c1, c2, c3, c4, c5, c6, c7, c8, c9, c10, c11, c12, c13, c14⟩ := id C
  obtain ⟨f1, f2, f3⟩ := hF
  have hLe := lay_obj hL f1
  have he : (wsof base cid n m r)[a]? = some (base + a, .inr (ci, (List.range (CK ci)).map (fun j => fval base ci j (m a j) (r a j)))) := by rw [wsof_at ha, cell_obj hLe (by omega)]
  refine va_putF (D := D) (ci := ci) (v := .int v) (ty := tyT ci kf) (C := CN ci) (T := CT ci) (N := CK ci) c1 c2 c6 (cls_in ci f1) (tyT ci) (cls_ty ci f1) (cls_nm ci f1) c5 c8.1 hP wsof_D hS a he (cls_at ci f1) kf f2 (c6 _ f3) (fun x hx => by rw [cls_dc ci f1 kf f2] at hx; exact hx) hfin (c14.trans hini) ((cls_dc ci f1 kf f2).trans hown) (cls_ty ci f1 kf f2) hnar hfit (by simpa using f2) hd (fun H1 locs1 hP1 _ hS1 => ?_)
  rw [cell_putI (cid := cid) hLe (by omega) hR, wsof_set (fun i hi => up2_ne hi) (fun i hi => rfl)] at hP1
  exact h _ p l e R s mi args below meth c D base cid sa sv H1 locs1 ls x C hP1 hS1 hl hn hf hx
theorem J_putR {ix : Nat} (a ci kf b : Nat) (hd : decode cc pc = .ok (.putfield ix, 3)) (hF : FL own ix ci kf) (hL : (LAY a).1 = ci) (hR : isR ci kf = true) (ha : a < n) (hfin : (CT ci kf).2.2.2 = false) (hnar : ∀ z : Nat, narrow (tyT ci kf) (.ref z) = .ref z) (hfit : ∀ z : Nat, fits (tyT ci kf) (.ref z) = true) (h : J own cc nL ret nm fr lo n0 nf (pc + 3) (lv) (st) (n) (m) (upR r a kf (some b)) (o) (k)) : J own cc nL ret nm fr lo n0 nf (pc) (lv) (.ref b :: .ref a :: st) (n) (m) (r) (o) (k) := by
  intro p l e R s mi args below meth c D base cid sa sv H locs ls x C hP hS hl hn hf hx
  obtain ⟨c1, c2, c3, c4, c5, c6, c7, c8, c9, c10, c11, c12, c13, c14⟩ := id C
  obtain ⟨f1, f2, f3⟩ := hF
  have hLe := lay_obj hL f1
  have he : (wsof base cid n m r)[a]? = some (base + a, .inr (ci, (List.range (CK ci)).map (fun j => fval base ci j (m a j) (r a j)))) := by rw [wsof_at ha, cell_obj hLe (by omega)]
  refine va_put (D := D) (ci := ci) (v := .ref (base + b)) (ty := tyT ci kf) (C := CN ci) (T := CT ci) (N := CK ci) c1 c2 c6 (cls_in ci f1) (tyT ci) (cls_ty ci f1) (cls_nm ci f1) c5 c8.1 hP wsof_D hS a he (cls_at ci f1) kf f2 (c6 _ f3) (fun x hx => by rw [cls_dc ci f1 kf f2] at hx; exact hx) hfin (cls_ty ci f1 kf f2) (hnar _) (hfit _) (by simpa using f2) hd (fun H1 locs1 hP1 _ hS1 => ?_)
  rw [cell_putR (cid := cid) hLe (by omega) hR, wsof_set (fun i hi => rfl) (fun i hi => upR_ne hi)] at hP1
  exact h p l e R s mi args below meth c D base cid sa sv H1 locs1 ls x C hP1 hS1 hl hn hf hx
theorem J_putRF {ix : Nat} (a ci kf b : Nat) (hd : decode cc pc = .ok (.putfield ix, 3)) (hF : FL own ix ci kf) (hL : (LAY a).1 = ci) (hR : isR ci kf = true) (ha : a < n) (hfin : (CT ci kf).2.2.2 = true) (hini : nm = "<init>") (hown : CN ci = own) (hnar : ∀ z : Nat, narrow (tyT ci kf) (.ref z) = .ref z) (hfit : ∀ z : Nat, fits (tyT ci kf) (.ref z) = true) (h : J own cc nL ret nm fr lo n0 nf (pc + 3) (lv) (st) (n) (m) (upR r a kf (some b)) (o) (k)) : J own cc nL ret nm fr lo n0 nf (pc) (lv) (.ref b :: .ref a :: st) (n) (m) (r) (o) (k) := by
  intro p l e R s mi args below meth c D base cid sa sv H locs ls x C hP hS hl hn hf hx
  obtain ⟨c1, c2, c3, c4, c5, c6, c7, c8, c9, c10, c11, c12, c13, c14⟩ := id C
  obtain ⟨f1, f2, f3⟩ := hF
  have hLe := lay_obj hL f1
  have he : (wsof base cid n m r)[a]? = some (base + a, .inr (ci, (List.range (CK ci)).map (fun j => fval base ci j (m a j) (r a j)))) := by rw [wsof_at ha, cell_obj hLe (by omega)]
  refine va_putF (D := D) (ci := ci) (v := .ref (base + b)) (ty := tyT ci kf) (C := CN ci) (T := CT ci) (N := CK ci) c1 c2 c6 (cls_in ci f1) (tyT ci) (cls_ty ci f1) (cls_nm ci f1) c5 c8.1 hP wsof_D hS a he (cls_at ci f1) kf f2 (c6 _ f3) (fun x hx => by rw [cls_dc ci f1 kf f2] at hx; exact hx) hfin (c14.trans hini) ((cls_dc ci f1 kf f2).trans hown) (cls_ty ci f1 kf f2) (hnar _) (hfit _) (by simpa using f2) hd (fun H1 locs1 hP1 _ hS1 => ?_)
  rw [cell_putR (cid := cid) hLe (by omega) hR, wsof_set (fun i hi => rfl) (fun i hi => upR_ne hi)] at hP1
  exact h p l e R s mi args below meth c D base cid sa sv H1 locs1 ls x C hP1 hS1 hl hn hf hx
theorem J_iald {i : Int32} {f : Int32 → Option σ} (a N : Nat) (hd : decode cc pc = .ok (.iaload, 1)) (hL : LAY a = (20, N)) (ha : a < n) (h : ∀ z, J own cc nL ret nm fr lo n0 nf (pc + 1) (lv) (.int z :: st) (n) (m) (r) (f z) (k)) : J own cc nL ret nm fr lo n0 nf (pc) (lv) (.int i :: .ref a :: st) (n) (m) (r) ((ald m a N i).bind f) (k) := by
  intro p l e R s mi args below meth c D base cid sa sv H locs ls x C hP hS hl hn hf hx
  obtain ⟨c1, c2, c3, c4, c5, c6, c7, c8, c9, c10, c11, c12, c13, c14⟩ := id C
  by_cases hi : i < 0 ∨ N ≤ i.toNatClampNeg
  · rw [ald, if_pos hi] at hx
    cases hx
  · rw [ald, if_neg hi] at hx
    exact va_iald (f := m a) c1 c2 c8.1 hP a 0 (by rw [wsof_at ha, cell_arr hL (by decide) (by decide)]) rfl hi hd (h _ p l e R s mi args below meth c D base cid sa sv H locs ls x C hP hS hl hn hf hx)
theorem J_bald {i : Int32} {f : Int32 → Option σ} (a N : Nat) (hd : decode cc pc = .ok (.baload, 1)) (hL : LAY a = (21, N)) (ha : a < n) (h : ∀ z, J own cc nL ret nm fr lo n0 nf (pc + 1) (lv) (.int z :: st) (n) (m) (r) (f z) (k)) : J own cc nL ret nm fr lo n0 nf (pc) (lv) (.int i :: .ref a :: st) (n) (m) (r) ((ald m a N i).bind f) (k) := by
  intro p l e R s mi args below meth c D base cid sa sv H locs ls x C hP hS hl hn hf hx
  obtain ⟨c1, c2, c3, c4, c5, c6, c7, c8, c9, c10, c11, c12, c13, c14⟩ := id C
  by_cases hi : i < 0 ∨ N ≤ i.toNatClampNeg
  · rw [ald, if_pos hi] at hx
    cases hx
  · rw [ald, if_neg hi] at hx
    exact va_bald (f := m a) c1 c2 c8.1 hP a 1 (by rw [wsof_at ha, cell_arr hL (by decide) (by decide)]) rfl hi hd (h _ p l e R s mi args below meth c D base cid sa sv H locs ls x C hP hS hl hn hf hx)
theorem J_zald {i : Int32} {f : Int32 → Option σ} (a N : Nat) (hd : decode cc pc = .ok (.baload, 1)) (hL : LAY a = (22, N)) (ha : a < n) (h : ∀ z, J own cc nL ret nm fr lo n0 nf (pc + 1) (lv) (.int z :: st) (n) (m) (r) (f z) (k)) : J own cc nL ret nm fr lo n0 nf (pc) (lv) (.int i :: .ref a :: st) (n) (m) (r) ((ald m a N i).bind f) (k) := by
  intro p l e R s mi args below meth c D base cid sa sv H locs ls x C hP hS hl hn hf hx
  obtain ⟨c1, c2, c3, c4, c5, c6, c7, c8, c9, c10, c11, c12, c13, c14⟩ := id C
  by_cases hi : i < 0 ∨ N ≤ i.toNatClampNeg
  · rw [ald, if_pos hi] at hx
    cases hx
  · rw [ald, if_neg hi] at hx
    exact va_zald (f := m a) c1 c2 c8.1 hP a 2 (by rw [wsof_at ha, cell_arr hL (by decide) (by decide)]) rfl hi hd (h _ p l e R s mi args below meth c D base cid sa sv H locs ls x C hP hS hl hn hf hx)
theorem J_iast {i v : Int32} {f : Mm → Option σ} (a N : Nat) (hd : decode cc pc = .ok (.iastore, 1)) (hL : LAY a = (20, N)) (ha : a < n) (h : ∀ m1, J own cc nL ret nm fr lo n0 nf (pc + 1) (lv) (st) (n) (m1) (r) (f m1) (k)) : J own cc nL ret nm fr lo n0 nf (pc) (lv) (.int v :: .int i :: .ref a :: st) (n) (m) (r) ((ast m a N i (v)).bind f) (k) := by
  intro p l e R s mi args below meth c D base cid sa sv H locs ls x C hP hS hl hn hf hx
  obtain ⟨c1, c2, c3, c4, c5, c6, c7, c8, c9, c10, c11, c12, c13, c14⟩ := id C
  by_cases hi : i < 0 ∨ N ≤ i.toNatClampNeg
  · rw [ast, if_pos hi] at hx
    cases hx
  · rw [ast, if_neg hi] at hx
    refine va_iast (f := m a) c1 c2 c8.1 hP wsof_D hS a 0 (by rw [wsof_at ha, cell_arr hL (by decide) (by decide)]) rfl hi hd (fun H1 locs1 hP1 _ hS1 => ?_)
    have e1 : (.inl (cid 20, N, .inl (upd (m a) i.toNatClampNeg (v))) : va_E) = cellOf base cid a (up2 m a i.toNatClampNeg (v)) r := by
      rw [cell_arr hL (by decide) (by decide), up2_self]
    rw [e1, wsof_set (fun i hi => up2_ne hi) (fun i hi => rfl)] at hP1
    exact h _ p l e R s mi args below meth c D base cid sa sv H1 locs1 ls x C hP1 hS1 hl hn hf hx
theorem J_bast {i v : Int32} {f : Mm → Option σ} (a N : Nat) (hd : decode cc pc = .ok (.bastore, 1)) (hL : LAY a = (21, N)) (ha : a < n) (h : ∀ m1, J own cc nL ret nm fr lo n0 nf (pc + 1) (lv) (st) (n) (m1) (r) (f m1) (k)) : J own cc nL ret nm fr lo n0 nf (pc) (lv) (.int v :: .int i :: .ref a :: st) (n) (m) (r) ((ast m a N i (vp_nar .byte v)).bind f) (k) := by
  intro p l e R s mi args below meth c D base cid sa sv H locs ls x C hP hS hl hn hf hx
  obtain ⟨c1, c2, c3, c4, c5, c6, c7, c8, c9, c10, c11, c12, c13, c14⟩ := id C
  by_cases hi : i < 0 ∨ N ≤ i.toNatClampNeg
  · rw [ast, if_pos hi] at hx
    cases hx
  · rw [ast, if_neg hi] at hx
    refine va_bast (f := m a) c1 c2 c8.1 hP wsof_D hS a 1 (by rw [wsof_at ha, cell_arr hL (by decide) (by decide)]) rfl hi hd (fun H1 locs1 hP1 _ hS1 => ?_)
    have e1 : (.inl (cid 21, N, .inl (upd (m a) i.toNatClampNeg (vp_nar .byte v))) : va_E) = cellOf base cid a (up2 m a i.toNatClampNeg (vp_nar .byte v)) r := by
      rw [cell_arr hL (by decide) (by decide), up2_self]
    rw [e1, wsof_set (fun i hi => up2_ne hi) (fun i hi => rfl)] at hP1
    exact h _ p l e R s mi args below meth c D base cid sa sv H1 locs1 ls x C hP1 hS1 hl hn hf hx
theorem J_zast {i v : Int32} {f : Mm → Option σ} (a N : Nat) (hd : decode cc pc = .ok (.bastore, 1)) (hL : LAY a = (22, N)) (ha : a < n) (h : ∀ m1, J own cc nL ret nm fr lo n0 nf (pc + 1) (lv) (st) (n) (m1) (r) (f m1) (k)) : J own cc nL ret nm fr lo n0 nf (pc) (lv) (.int v :: .int i :: .ref a :: st) (n) (m) (r) ((ast m a N i (vp_nar .boolean v)).bind f) (k) := by
  intro p l e R s mi args below meth c D base cid sa sv H locs ls x C hP hS hl hn hf hx
  obtain ⟨c1, c2, c3, c4, c5, c6, c7, c8, c9, c10, c11, c12, c13, c14⟩ := id C
  by_cases hi : i < 0 ∨ N ≤ i.toNatClampNeg
  · rw [ast, if_pos hi] at hx
    cases hx
  · rw [ast, if_neg hi] at hx
    refine va_zast (f := m a) c1 c2 c8.1 hP wsof_D hS a 2 (by rw [wsof_at ha, cell_arr hL (by decide) (by decide)]) rfl hi hd (fun H1 locs1 hP1 _ hS1 => ?_)
    have e1 : (.inl (cid 22, N, .inl (upd (m a) i.toNatClampNeg (vp_nar .boolean v))) : va_E) = cellOf base cid a (up2 m a i.toNatClampNeg (vp_nar .boolean v)) r := by
      rw [cell_arr hL (by decide) (by decide), up2_self]
    rw [e1, wsof_set (fun i hi => up2_ne hi) (fun i hi => rfl)] at hP1
    exact h _ p l e R s mi args below meth c D base cid sa sv H1 locs1 ls x C hP1 hS1 hl hn hf hx
theorem J_aald {i : Int32} {f : Nat → Option σ} (a N t ti : Nat) {CC : String} (hd : decode cc pc = .ok (.aaload, 1)) (hL : LAY a = (t, N)) (ht : ¬ t < 20 ∧ ¬ t < 23) (hty : ∀ cid : Nat → ClassId, (tysOf cid)[ti]? = some (cid t, .object CC)) (ha : a < n) (h : ∀ b, r a i.toNatClampNeg = some b → J own cc nL ret nm fr lo n0 nf (pc + 1) (lv) (.ref b :: st) (n) (m) (r) (f b) (k)) : J own cc nL ret nm fr lo n0 nf (pc) (lv) (.int i :: .ref a :: st) (n) (m) (r) ((aldR r a N i).bind f) (k) := by
  intro p l e R s mi args below meth c D base cid sa sv H locs ls x C hP hS hl hn hf hx
  obtain ⟨c1, c2, c3, c4, c5, c6, c7, c8, c9, c10, c11, c12, c13, c14⟩ := id C
  by_cases hi : i < 0 ∨ N ≤ i.toNatClampNeg
  · rw [aldR, if_pos hi] at hx
    cases hx
  · rw [aldR, if_neg hi] at hx
    cases hb : r a i.toNatClampNeg with
    | none => rw [hb] at hx; cases hx
    | some b =>
      rw [hb] at hx
      have h1 := h b hb p l e R s mi args below meth c D base cid sa sv H locs ls x C hP hS hl hn hf hx
      refine va_aldq (f := fun i => (r a i).map (base + ·)) c1 c2 c8.1 hP a ti (by rw [wsof_at ha, cell_arq hL ht.1 ht.2]) (hty cid) hi hd ?_
      simp only [hb, Option.map_some, va_rf]
      exact h1
end JH
end
section
theorem nsl_mono {a b : Nat} (h : a ≤ b) : nsl a ≤ nsl b := by
  obtain ⟨d, rfl⟩ := Nat.exists_eq_add_of_le h
  unfold nsl
  rw [List.take_add, List.map_append, List.sum_append]
  exact Nat.le_add_right _ _
theorem nsl_succ (a : Nat) : nsl (a + 1) = nsl a + (LAY a).2 := by
  unfold nsl LAY
  rw [List.take_add, List.map_append, List.sum_append]
  congr 1
  by_cases ha : a < LAYL.length
  · have h9 : List.take 1 (List.drop a LAYL) = [LAYL[a]] := by
      rw [List.drop_eq_getElem_cons ha]
      rfl
    rw [h9, List.getD_eq_getElem?_getD, List.getElem?_eq_getElem ha]
    simp
  · rw [List.drop_eq_nil_of_le (by omega), List.getD_eq_getElem?_getD, List.getElem?_eq_none (by omega)]
    rfl
/-- what is said of a method once: it is there, and its code -/
def MV (y : MethodName) (bytes : ByteArray) (maxL : Nat) (rt : Option FieldType) (np : Nat) : Prop := Cond.code y bytes maxL rt ∈ TBg ∧ Cond.initialized y.cls ∈ TBg ∧ (y.cls ≠ "java/lang/invoke/MethodHandle" ∧ y.cls ≠ "java/lang/invoke/VarHandle" ∧ (parseMethodDescriptor y.desc).map (fun d => d.parameters.length) = some np)
theorem blind {D : va_G} {base n : Nat} {cid : Nat → ClassId} {sa sv : Nat → Nat} {m : Mm} {r : Rr} {av : List Value} : FrameBlind (va_Pc av (fun U => U.heap.size = base + n ∧ va_P D classes (wsof base cid n m r) U.heap ∧ StU D base cid sa sv U)) := by
  intro a U g mk q
  obtain ⟨q0, q1, q2, q3⟩ := q
  exact ⟨q0, q1, q2, q3.to (State.WarmedH.refl U) (fun _ _ _ => rfl)⟩
section CQ
variable {p : Program} {l : Launch} {e : Env} {R : Room} {s : State} {mi : MethodId} {args : Array Value} {below : List Frame} {meth : Method} {c : Code} {H : Heap} {locs : List Loc} {cells slots : Nat} {Q : State → Prop}
theorem va_callQ {mc ms pc : Nat} {ls : Array Slot} {st0 rest : List Value} {base n1 : Nat} {sa : Nat → Nat} {cid : Nat → ClassId} {D : va_G} {y0 : Res} {a : Array Value}
    (hr : va_Run p l e R s mi args below meth c H locs cells slots mc ms (F0 mi pc ls st0) rest (QR base sa cid D n1 y0 a) (AB base)) (hS : va_S (AB base) s.heap H locs)
    (kk : ∀ (H1 : Heap) (locs1 : List Loc), va_P D classes (wsof base cid n1 y0.2.1 y0.2.2) H1 → va_S (AB base) s.heap H1 locs1 → W p l e R s mi args below meth c H1 locs1 (cells + mc) (slots + ms) Q (F0 mi (pc + 3) ls ((y0.1.map (rv base sa)).toList ++ rest))) : W p l e R s mi args below meth c H locs cells slots Q (F0 mi pc ls st0) := by
  intro T hT X
  obtain ⟨v, st₀, t, T', L, h0, X', hL, e1, e2, ⟨hv, hp, hz, hk⟩, st⟩ := hr T hT X
  have hv' : v = y0.1.map (rv base sa) := by
    have := Outcome.returned.inj hv
    exact this
  subst hv'
  rw [h0] at hz hk
  obtain ⟨t2, a1, b1⟩ := kk T'.heap (locs ++ L) (by rw [e1]; exact hp)
    ⟨Nat.le_trans hS.1 (by rw [e1]; exact hz), fun q h1 h2 => by rw [e1, hk q (Nat.lt_of_lt_of_le h1 hS.1) h2]; exact hS.2.1 q h1 h2, fun q hq => by
      rcases List.mem_append.mp hq with h | h
      · exact hS.2.2 q h
      · exact hL q h⟩ T' rfl X'
  exact ⟨t2, st t2 a1, b1⟩
end CQ

section JC
variable {own : String} {cc : ByteArray} {nL : Nat} {ret : Option FieldType} {nm : String} {fr lo n0 nf : Nat} {pc : Nat} {lv : List (Nat × Value)} {st : List Value} {n : Nat} {m : Mm} {r : Rr} {σ : Type} {o : Option σ} {k : σ → Option Res}
theorem J_callV {ix : Nat} {y : MethodName} {bytes : ByteArray} {maxL : Nat} {rt : Option FieldType} {frc loc n1 : Nat} {oc : Option Res} {f : Res → Option σ} (a ci np : Nat) (As : List Value) (hd : decode cc pc = .ok (.invokevirtual ix, 3)) (hM : MV y bytes maxL rt np) (hv : Cond.instanceMethod y ∈ TBg ∧ Cond.selects y.cls y y ∈ TBg) (hl1 : Cond.methodLink own ix y ∈ TBg) (hC : Ct y bytes maxL rt frc loc (.ref a :: As) n n1 m r oc) (hlen : As.length = np) (hL : (LAY a).1 = ci) (hci : ci < 10) (hcn : CN ci = y.cls) (ha : a < n) (hfr : frc + 1 ≤ fr ∧ 8 + (maxL + 11) + loc ≤ lo) (hst : (st.map fun v => v.category).sum ≤ 8) (hn1 : n ≤ n1 ∧ n1 ≤ nf) (h : ∀ (v : Option Value) (m1 : Mm) (r1 : Rr), oc = some (v, m1, r1) → J own cc nL ret nm fr lo n0 nf (pc + 3) (lv) (v.toList ++ st) (n1) (m1) (r1) (f (v, m1, r1)) (k)) : J own cc nL ret nm fr lo n0 nf (pc) (lv) (As.reverse ++ .ref a :: st) (n) (m) (r) (oc.bind f) (k) := by
  intro p l e R s mi args below meth c D base cid sa sv H locs ls x C hP hS hl hn hf hx
  obtain ⟨c1, c2, c3, c4, c5, c6, c7, c8, c9, c10, c11, c12, c13, c14⟩ := id C
  subst hlen
  obtain ⟨w1, w2, w3⟩ := hM
  cases hoc : oc with
  | none => rw [hoc] at hx; cases hx
  | some y0 =>
    rw [hoc] at hx
    refine W_size hP hS c9 hn (fun hz => ?_)
    have hm1 := nsl_mono hn1.1
    have hm2 := nsl_mono hn1.2
    have hm3 := nsl_mono hn
    have hcat : ((st.map (rv base sa)).map fun v => v.category).sum ≤ 8 := by
      rw [List.map_map]
      have e9 : ((fun v : Value => v.category) ∘ rv base sa) = (fun v : Value => v.category) := funext (fun v => rv_cat base sa v)
      rw [e9]
      exact hst
    refine va_callQ (va_runV (C := y.cls) (As := As.map (rv base sa)) (rest := st.map (rv base sa)) ⟨c1, c2, c4, c5, c6⟩ (hC l D base cid sa sv y0 hoc) (cwV As.length c6 (fun w hw => by
      rcases List.mem_append.mp hw with h9 | h9
      · simp only [List.mem_cons, List.not_mem_nil, or_false] at h9
        rcases h9 with rfl | rfl | rfl | rfl
        · exact TBg_good _ hl1
        · exact TBg_good _ hv.1
        · exact TBg_good _ hv.2
        · exact TBg_good _ w2
      · exact TBg_code w1 w h9) rfl rfl rfl ⟨rfl, w3⟩ ⟨Nat.le_trans hfr.1 c10, Nat.le_trans hfr.2 c11⟩) (by rw [← hcn]; exact ⟨blind, va_recv c8.1 hP (cls_at ci hci) (q0 := a) (by rw [wsof_at ha, cell_obj (lay_obj hL hci) (by omega)]), fun U hU hW => ⟨rfl, by rw [hU]; exact hz, by rw [hU]; exact hP, c8.to hW (fun q hq hA => by rw [hU]; exact hS.2.1 q hq hA)⟩⟩) rfl (by simp) hl.1 (by simp [rv]) (lv_room hcat) hd ⟨by omega, by omega⟩) hS (fun H1 locs1 hP1 hS1 => ?_)
    have e1 : n - n0 + (n1 - n) = n1 - n0 := by omega
    have e2 : nsl n - nsl n0 + (nsl n1 - nsl n) = nsl n1 - nsl n0 := by omega
    rw [e1, e2]
    have h1 := h y0.1 y0.2.1 y0.2.2 hoc p l e R s mi args below meth c D base cid sa sv H1 locs1 ls x C hP1 hS1 hl (by omega) hn1.2 hx
    have e3 : (y0.1.toList ++ st).map (rv base sa) = (y0.1.map (rv base sa)).toList ++ st.map (rv base sa) := by
      cases y0.1 <;> simp
    rw [e3] at h1
    exact h1
theorem J_callS {ix : Nat} {y : MethodName} {bytes : ByteArray} {maxL : Nat} {rt : Option FieldType} {frc loc n1 : Nat} {oc : Option Res} {f : Res → Option σ} (np : Nat) (As : List Value) (hd : decode cc pc = .ok (.invokestatic ix, 3)) (hM : MV y bytes maxL rt np) (hv : Cond.static y ∈ TBg) (hl1 : Cond.methodLink own ix y ∈ TBg) (hC : Ct y bytes maxL rt frc loc As n n1 m r oc) (hlen : As.length = np) (hfr : frc + 1 ≤ fr ∧ 8 + (maxL + 11) + loc ≤ lo) (hst : (st.map fun v => v.category).sum ≤ 8) (hn1 : n ≤ n1 ∧ n1 ≤ nf) (h : ∀ (v : Option Value) (m1 : Mm) (r1 : Rr), oc = some (v, m1, r1) → J own cc nL ret nm fr lo n0 nf (pc + 3) (lv) (v.toList ++ st) (n1) (m1) (r1) (f (v, m1, r1)) (k)) : J own cc nL ret nm fr lo n0 nf (pc) (lv) (As.reverse ++ st) (n) (m) (r) (oc.bind f) (k) := by
  intro p l e R s mi args below meth c D base cid sa sv H locs ls x C hP hS hl hn hf hx
  obtain ⟨c1, c2, c3, c4, c5, c6, c7, c8, c9, c10, c11, c12, c13, c14⟩ := id C
  subst hlen
  obtain ⟨w1, w2, w3⟩ := hM
  cases hoc : oc with
  | none => rw [hoc] at hx; cases hx
  | some y0 =>
    rw [hoc] at hx
    refine W_size hP hS c9 hn (fun hz => ?_)
    have hm1 := nsl_mono hn1.1
    have hm2 := nsl_mono hn1.2
    have hm3 := nsl_mono hn
    have hcat : ((st.map (rv base sa)).map fun v => v.category).sum ≤ 8 := by
      rw [List.map_map]
      have e9 : ((fun v : Value => v.category) ∘ rv base sa) = (fun v : Value => v.category) := funext (fun v => rv_cat base sa v)
      rw [e9]
      exact hst
    refine va_callQ (va_runS (As := As.map (rv base sa)) (rest := st.map (rv base sa)) ⟨c1, c2, c4, c5, c6⟩ (hC l D base cid sa sv y0 hoc) (va_cwS As.length c6 (fun w hw => by
      rcases List.mem_append.mp hw with h9 | h9
      · simp only [List.mem_cons, List.not_mem_nil, or_false] at h9
        rcases h9 with rfl | rfl | rfl
        · exact TBg_good _ hl1
        · exact TBg_good _ hv
        · exact TBg_good _ w2
      · exact TBg_code w1 w h9) rfl rfl rfl w3 ⟨Nat.le_trans hfr.1 c10, Nat.le_trans hfr.2 c11⟩) ⟨blind, fun U hU hW => ⟨rfl, by rw [hU]; exact hz, by rw [hU]; exact hP, c8.to hW (fun q hq hA => by rw [hU]; exact hS.2.1 q hq hA)⟩⟩ rfl (by simp) hl.1 (by simp [rv]) (lv_room hcat) hd ⟨by omega, by omega⟩) hS (fun H1 locs1 hP1 hS1 => ?_)
    have e1 : n - n0 + (n1 - n) = n1 - n0 := by omega
    have e2 : nsl n - nsl n0 + (nsl n1 - nsl n) = nsl n1 - nsl n0 := by omega
    rw [e1, e2]
    have h1 := h y0.1 y0.2.1 y0.2.2 hoc p l e R s mi args below meth c D base cid sa sv H1 locs1 ls x C hP1 hS1 hl (by omega) hn1.2 hx
    have e3 : (y0.1.toList ++ st).map (rv base sa) = (y0.1.map (rv base sa)).toList ++ st.map (rv base sa) := by
      cases y0.1 <;> simp
    rw [e3] at h1
    exact h1
theorem J_callSN {ix : Nat} {y : MethodName} {bytes : ByteArray} {maxL : Nat} {rt : Option FieldType} {frc loc n1 : Nat} {oc : Option Res} {f : Res → Option σ} (np : Nat) (host : String) (As : List Value) (hd : decode cc pc = .ok (.invokestatic ix, 3)) (hM : MV y bytes maxL rt np) (hv : Cond.static y ∈ TBg) (hl1 : Cond.methodLinkNest own ix y host ∈ NWl) (hC : Ct y bytes maxL rt frc loc As n n1 m r oc) (hlen : As.length = np) (hfr : frc + 1 ≤ fr ∧ 8 + (maxL + 11) + loc ≤ lo) (hst : (st.map fun v => v.category).sum ≤ 8) (hn1 : n ≤ n1 ∧ n1 ≤ nf) (h : ∀ (v : Option Value) (m1 : Mm) (r1 : Rr), oc = some (v, m1, r1) → J own cc nL ret nm fr lo n0 nf (pc + 3) (lv) (v.toList ++ st) (n1) (m1) (r1) (f (v, m1, r1)) (k)) : J own cc nL ret nm fr lo n0 nf (pc) (lv) (As.reverse ++ st) (n) (m) (r) (oc.bind f) (k) := by
  intro p l e R s mi args below meth c D base cid sa sv H locs ls x C hP hS hl hn hf hx
  obtain ⟨c1, c2, c3, c4, c5, c6, c7, c8, c9, c10, c11, c12, c13, c14⟩ := id C
  subst hlen
  obtain ⟨w1, w2, w3⟩ := hM
  cases hoc : oc with
  | none => rw [hoc] at hx; cases hx
  | some y0 =>
    rw [hoc] at hx
    refine W_size hP hS c9 hn (fun hz => ?_)
    have hm1 := nsl_mono hn1.1
    have hm2 := nsl_mono hn1.2
    have hm3 := nsl_mono hn
    have hcat : ((st.map (rv base sa)).map fun v => v.category).sum ≤ 8 := by
      rw [List.map_map]
      have e9 : ((fun v : Value => v.category) ∘ rv base sa) = (fun v : Value => v.category) := funext (fun v => rv_cat base sa v)
      rw [e9]
      exact hst
    refine va_callQ (va_runSN (As := As.map (rv base sa)) (rest := st.map (rv base sa)) ⟨c1, c2, c4, c5, c6⟩ (hC l D base cid sa sv y0 hoc) (⟨va_cnB (host := host) As.length c6 (TBg_code w1) rfl rfl rfl (c8.2.1 _ hl1) (c6 _ w2) w3 ⟨Nat.le_trans hfr.1 c10, Nat.le_trans hfr.2 c11⟩, c6 _ hv, trivial⟩) ⟨blind, fun U hU hW => ⟨rfl, by rw [hU]; exact hz, by rw [hU]; exact hP, c8.to hW (fun q hq hA => by rw [hU]; exact hS.2.1 q hq hA)⟩⟩ rfl (by simp) hl.1 (by simp [rv]) (lv_room hcat) hd ⟨by omega, by omega⟩) hS (fun H1 locs1 hP1 hS1 => ?_)
    have e1 : n - n0 + (n1 - n) = n1 - n0 := by omega
    have e2 : nsl n - nsl n0 + (nsl n1 - nsl n) = nsl n1 - nsl n0 := by omega
    rw [e1, e2]
    have h1 := h y0.1 y0.2.1 y0.2.2 hoc p l e R s mi args below meth c D base cid sa sv H1 locs1 ls x C hP1 hS1 hl (by omega) hn1.2 hx
    have e3 : (y0.1.toList ++ st).map (rv base sa) = (y0.1.map (rv base sa)).toList ++ st.map (rv base sa) := by
      cases y0.1 <;> simp
    rw [e3] at h1
    exact h1
theorem J_callIN {ix : Nat} {y : MethodName} {bytes : ByteArray} {maxL : Nat} {rt : Option FieldType} {frc loc n1 : Nat} {oc : Option Res} {f : Res → Option σ} (a np : Nat) (host : String) (As : List Value) (hd : decode cc pc = .ok (.invokespecial ix, 3)) (hM : MV y bytes maxL rt np) (hrt : rt = none) (hin : y.name = "<init>") (hv : Cond.instanceMethod y ∈ TBg) (hl1 : Cond.methodLinkNest own ix y host ∈ NWl) (hC : Ct y bytes maxL rt frc loc (.ref a :: As) n n1 m r oc) (hlen : As.length = np) (hfr : frc + 1 ≤ fr ∧ 8 + (maxL + 11) + loc ≤ lo) (hst : (st.map fun v => v.category).sum ≤ 8) (hn1 : n ≤ n1 ∧ n1 ≤ nf) (h : ∀ (v : Option Value) (m1 : Mm) (r1 : Rr), oc = some (v, m1, r1) → J own cc nL ret nm fr lo n0 nf (pc + 3) (lv) (v.toList ++ st) (n1) (m1) (r1) (f (v, m1, r1)) (k)) : J own cc nL ret nm fr lo n0 nf (pc) (lv) (As.reverse ++ .ref a :: st) (n) (m) (r) (oc.bind f) (k) := by
  intro p l e R s mi args below meth c D base cid sa sv H locs ls x C hP hS hl hn hf hx
  obtain ⟨c1, c2, c3, c4, c5, c6, c7, c8, c9, c10, c11, c12, c13, c14⟩ := id C
  subst hlen
  subst hrt
  obtain ⟨w1, w2, w3⟩ := hM
  cases hoc : oc with
  | none => rw [hoc] at hx; cases hx
  | some y0 =>
    rw [hoc] at hx
    refine W_size hP hS c9 hn (fun hz => ?_)
    have hm1 := nsl_mono hn1.1
    have hm2 := nsl_mono hn1.2
    have hm3 := nsl_mono hn
    have hcat : ((st.map (rv base sa)).map fun v => v.category).sum ≤ 8 := by
      rw [List.map_map]
      have e9 : ((fun v : Value => v.category) ∘ rv base sa) = (fun v : Value => v.category) := funext (fun v => rv_cat base sa v)
      rw [e9]
      exact hst
    refine va_callQ (va_runIN (As := As.map (rv base sa)) (rest := st.map (rv base sa)) ⟨c1, c2, c4, c5, c6⟩ (hC l D base cid sa sv y0 hoc) (⟨va_cnB (host := host) As.length c6 (TBg_code w1) rfl rfl rfl (c8.2.1 _ hl1) (c6 _ w2) w3 ⟨Nat.le_trans hfr.1 c10, Nat.le_trans hfr.2 c11⟩, hin, c6 _ hv⟩) ⟨blind, fun U hU hW => ⟨rfl, by rw [hU]; exact hz, by rw [hU]; exact hP, c8.to hW (fun q hq hA => by rw [hU]; exact hS.2.1 q hq hA)⟩⟩ rfl (by simp) hl.1 (by simp [rv]) (lv_room hcat) hd ⟨by omega, by omega⟩) hS (fun H1 locs1 hP1 hS1 => ?_)
    have e1 : n - n0 + (n1 - n) = n1 - n0 := by omega
    have e2 : nsl n - nsl n0 + (nsl n1 - nsl n) = nsl n1 - nsl n0 := by omega
    rw [e1, e2]
    have h1 := h y0.1 y0.2.1 y0.2.2 hoc p l e R s mi args below meth c D base cid sa sv H1 locs1 ls x C hP1 hS1 hl (by omega) hn1.2 hx
    have e3 : (y0.1.toList ++ st).map (rv base sa) = (y0.1.map (rv base sa)).toList ++ st.map (rv base sa) := by
      cases y0.1 <;> simp
    rw [e3] at h1
    exact h1
theorem J_callI {ix : Nat} {y : MethodName} {bytes : ByteArray} {maxL : Nat} {rt : Option FieldType} {frc loc n1 : Nat} {oc : Option Res} {f : Res → Option σ} (a np : Nat) (As : List Value) (hd : decode cc pc = .ok (.invokespecial ix, 3)) (hM : MV y bytes maxL rt np) (hrt : rt = none) (hin : y.name = "<init>") (hv : Cond.instanceMethod y ∈ TBg) (hl1 : Cond.methodLink own ix y ∈ TBg) (hC : Ct y bytes maxL rt frc loc (.ref a :: As) n n1 m r oc) (hlen : As.length = np) (hfr : frc + 1 ≤ fr ∧ 8 + (maxL + 11) + loc ≤ lo) (hst : (st.map fun v => v.category).sum ≤ 8) (hn1 : n ≤ n1 ∧ n1 ≤ nf) (h : ∀ (v : Option Value) (m1 : Mm) (r1 : Rr), oc = some (v, m1, r1) → J own cc nL ret nm fr lo n0 nf (pc + 3) (lv) (v.toList ++ st) (n1) (m1) (r1) (f (v, m1, r1)) (k)) : J own cc nL ret nm fr lo n0 nf (pc) (lv) (As.reverse ++ .ref a :: st) (n) (m) (r) (oc.bind f) (k) := by
  intro p l e R s mi args below meth c D base cid sa sv H locs ls x C hP hS hl hn hf hx
  obtain ⟨c1, c2, c3, c4, c5, c6, c7, c8, c9, c10, c11, c12, c13, c14⟩ := id C
  subst hlen
  subst hrt
  obtain ⟨w1, w2, w3⟩ := hM
  cases hoc : oc with
  | none => rw [hoc] at hx; cases hx
  | some y0 =>
    rw [hoc] at hx
    refine W_size hP hS c9 hn (fun hz => ?_)
    have hm1 := nsl_mono hn1.1
    have hm2 := nsl_mono hn1.2
    have hm3 := nsl_mono hn
    have hcat : ((st.map (rv base sa)).map fun v => v.category).sum ≤ 8 := by
      rw [List.map_map]
      have e9 : ((fun v : Value => v.category) ∘ rv base sa) = (fun v : Value => v.category) := funext (fun v => rv_cat base sa v)
      rw [e9]
      exact hst
    refine va_callQ (va_runI (As := As.map (rv base sa)) (rest := st.map (rv base sa)) ⟨c1, c2, c4, c5, c6⟩ (hC l D base cid sa sv y0 hoc) (cwI As.length c6 (TBg_code w1) rfl rfl rfl (c6 _ w2) (c6 _ hl1) (c6 _ hv) hin w3 ⟨Nat.le_trans hfr.1 c10, Nat.le_trans hfr.2 c11⟩) ⟨blind, fun U hU hW => ⟨rfl, by rw [hU]; exact hz, by rw [hU]; exact hP, c8.to hW (fun q hq hA => by rw [hU]; exact hS.2.1 q hq hA)⟩⟩ rfl (by simp) hl.1 (by simp [rv]) (lv_room hcat) hd ⟨by omega, by omega⟩) hS (fun H1 locs1 hP1 hS1 => ?_)
    have e1 : n - n0 + (n1 - n) = n1 - n0 := by omega
    have e2 : nsl n - nsl n0 + (nsl n1 - nsl n) = nsl n1 - nsl n0 := by omega
    rw [e1, e2]
    have h1 := h y0.1 y0.2.1 y0.2.2 hoc p l e R s mi args below meth c D base cid sa sv H1 locs1 ls x C hP1 hS1 hl (by omega) hn1.2 hx
    have e3 : (y0.1.toList ++ st).map (rv base sa) = (y0.1.map (rv base sa)).toList ++ st.map (rv base sa) := by
      cases y0.1 <;> simp
    rw [e3] at h1
    exact h1
def bind2 {σ : Type} (o : Option (Int32 × Mm)) (f : Int32 → Mm → Option σ) : Option σ := o.bind (fun q => f q.1 q.2)
def rP (m : Mm) (r : Rr) (o : Option Int32) : Option Res := o.map (fun z => (some (.int z), m, r))
def rI (r : Rr) (o : Option (Int32 × Mm)) : Option Res := o.map (fun q => (some (.int q.1), q.2, r))
def rV (r : Rr) (o : Option Mm) : Option Res := o.map (fun q => (none, q, r))
def vi : Option Value → Int32
  | some (.int z) => z
  | _ => 0
theorem J_callVP {ix : Nat} {y : MethodName} {bytes : ByteArray} {maxL : Nat} {rt : Option FieldType} {frc loc : Nat} {oi : Option Int32} {f : Int32 → Option σ} (a ci np : Nat) (As : List Value) (hd : decode cc pc = .ok (.invokevirtual ix, 3)) (hM : MV y bytes maxL rt np) (hv : Cond.instanceMethod y ∈ TBg ∧ Cond.selects y.cls y y ∈ TBg) (hl1 : Cond.methodLink own ix y ∈ TBg) (hC : Ct y bytes maxL rt frc loc (.ref a :: As) n n m r (rP m r oi)) (hlen : As.length = np) (hL : (LAY a).1 = ci) (hci : ci < 10) (hcn : CN ci = y.cls) (ha : a < n) (hfr : frc + 1 ≤ fr ∧ 8 + (maxL + 11) + loc ≤ lo) (hst : (st.map fun v => v.category).sum ≤ 8) (h : ∀ z, J own cc nL ret nm fr lo n0 nf (pc + 3) (lv) (.int z :: st) (n) (m) (r) (f z) (k)) : J own cc nL ret nm fr lo n0 nf (pc) (lv) (As.reverse ++ .ref a :: st) (n) (m) (r) (oi.bind f) (k) := by
  intro p l e R s mi args below meth c D base cid sa sv H locs ls x C hP hS hl hn hf hx
  refine J_callV (k := k) (oc := rP m r oi) (f := fun q => f (vi q.1)) a ci np As hd hM hv hl1 hC hlen hL hci hcn ha hfr hst ⟨Nat.le_refl n, hf⟩ (fun v m1 r1 he => ?_) p l e R s mi args below meth c D base cid sa sv H locs ls x C hP hS hl hn hf ?_
  · cases oi with
    | none => cases he
    | some z =>
      cases he
      exact h z
  · rw [← hx]
    cases oi with
    | none => rfl
    | some z => rfl
theorem J_callVI {ix : Nat} {y : MethodName} {bytes : ByteArray} {maxL : Nat} {rt : Option FieldType} {frc loc : Nat} {oi : Option (Int32 × Mm)} {f : Int32 → Mm → Option σ} (a ci np : Nat) (As : List Value) (hd : decode cc pc = .ok (.invokevirtual ix, 3)) (hM : MV y bytes maxL rt np) (hv : Cond.instanceMethod y ∈ TBg ∧ Cond.selects y.cls y y ∈ TBg) (hl1 : Cond.methodLink own ix y ∈ TBg) (hC : Ct y bytes maxL rt frc loc (.ref a :: As) n n m r (rI r oi)) (hlen : As.length = np) (hL : (LAY a).1 = ci) (hci : ci < 10) (hcn : CN ci = y.cls) (ha : a < n) (hfr : frc + 1 ≤ fr ∧ 8 + (maxL + 11) + loc ≤ lo) (hst : (st.map fun v => v.category).sum ≤ 8) (h : ∀ z m1, J own cc nL ret nm fr lo n0 nf (pc + 3) (lv) (.int z :: st) (n) (m1) (r) (f z m1) (k)) : J own cc nL ret nm fr lo n0 nf (pc) (lv) (As.reverse ++ .ref a :: st) (n) (m) (r) (bind2 oi f) (k) := by
  intro p l e R s mi args below meth c D base cid sa sv H locs ls x C hP hS hl hn hf hx
  refine J_callV (k := k) (oc := rI r oi) (f := fun q => f (vi q.1) q.2.1) a ci np As hd hM hv hl1 hC hlen hL hci hcn ha hfr hst ⟨Nat.le_refl n, hf⟩ (fun v m1 r1 he => ?_) p l e R s mi args below meth c D base cid sa sv H locs ls x C hP hS hl hn hf ?_
  · cases oi with
    | none => cases he
    | some z =>
      cases he
      exact h z.1 z.2
  · rw [← hx]
    cases oi with
    | none => rfl
    | some z => rfl
theorem J_callVV {ix : Nat} {y : MethodName} {bytes : ByteArray} {maxL : Nat} {rt : Option FieldType} {frc loc : Nat} {oi : Option Mm} {f : Mm → Option σ} (a ci np : Nat) (As : List Value) (hd : decode cc pc = .ok (.invokevirtual ix, 3)) (hM : MV y bytes maxL rt np) (hv : Cond.instanceMethod y ∈ TBg ∧ Cond.selects y.cls y y ∈ TBg) (hl1 : Cond.methodLink own ix y ∈ TBg) (hC : Ct y bytes maxL rt frc loc (.ref a :: As) n n m r (rV r oi)) (hlen : As.length = np) (hL : (LAY a).1 = ci) (hci : ci < 10) (hcn : CN ci = y.cls) (ha : a < n) (hfr : frc + 1 ≤ fr ∧ 8 + (maxL + 11) + loc ≤ lo) (hst : (st.map fun v => v.category).sum ≤ 8) (h : ∀ m1, J own cc nL ret nm fr lo n0 nf (pc + 3) (lv) (st) (n) (m1) (r) (f m1) (k)) : J own cc nL ret nm fr lo n0 nf (pc) (lv) (As.reverse ++ .ref a :: st) (n) (m) (r) (oi.bind f) (k) := by
  intro p l e R s mi args below meth c D base cid sa sv H locs ls x C hP hS hl hn hf hx
  refine J_callV (k := k) (oc := rV r oi) (f := fun q => f q.2.1) a ci np As hd hM hv hl1 hC hlen hL hci hcn ha hfr hst ⟨Nat.le_refl n, hf⟩ (fun v m1 r1 he => ?_) p l e R s mi args below meth c D base cid sa sv H locs ls x C hP hS hl hn hf ?_
  · cases oi with
    | none => cases he
    | some z =>
      cases he
      exact h _
  · rw [← hx]
    cases oi with
    | none => rfl
    | some z => rfl
theorem J_callSP {ix : Nat} {y : MethodName} {bytes : ByteArray} {maxL : Nat} {rt : Option FieldType} {frc loc : Nat} {oi : Option Int32} {f : Int32 → Option σ} (np : Nat) (As : List Value) (hd : decode cc pc = .ok (.invokestatic ix, 3)) (hM : MV y bytes maxL rt np) (hv : Cond.static y ∈ TBg) (hl1 : Cond.methodLink own ix y ∈ TBg) (hC : Ct y bytes maxL rt frc loc As n n m r (rP m r oi)) (hlen : As.length = np)  (hfr : frc + 1 ≤ fr ∧ 8 + (maxL + 11) + loc ≤ lo) (hst : (st.map fun v => v.category).sum ≤ 8) (h : ∀ z, J own cc nL ret nm fr lo n0 nf (pc + 3) (lv) (.int z :: st) (n) (m) (r) (f z) (k)) : J own cc nL ret nm fr lo n0 nf (pc) (lv) (As.reverse ++ st) (n) (m) (r) (oi.bind f) (k) := by
  intro p l e R s mi args below meth c D base cid sa sv H locs ls x C hP hS hl hn hf hx
  refine J_callS (k := k) (oc := rP m r oi) (f := fun q => f (vi q.1)) np As hd hM hv hl1 hC hlen  hfr hst ⟨Nat.le_refl n, hf⟩ (fun v m1 r1 he => ?_) p l e R s mi args below meth c D base cid sa sv H locs ls x C hP hS hl hn hf ?_
  · cases oi with
    | none => cases he
    | some z =>
      cases he
      exact h z
  · rw [← hx]
    cases oi with
    | none => rfl
    | some z => rfl
theorem J_callSI {ix : Nat} {y : MethodName} {bytes : ByteArray} {maxL : Nat} {rt : Option FieldType} {frc loc : Nat} {oi : Option (Int32 × Mm)} {f : Int32 → Mm → Option σ} (np : Nat) (As : List Value) (hd : decode cc pc = .ok (.invokestatic ix, 3)) (hM : MV y bytes maxL rt np) (hv : Cond.static y ∈ TBg) (hl1 : Cond.methodLink own ix y ∈ TBg) (hC : Ct y bytes maxL rt frc loc As n n m r (rI r oi)) (hlen : As.length = np)  (hfr : frc + 1 ≤ fr ∧ 8 + (maxL + 11) + loc ≤ lo) (hst : (st.map fun v => v.category).sum ≤ 8) (h : ∀ z m1, J own cc nL ret nm fr lo n0 nf (pc + 3) (lv) (.int z :: st) (n) (m1) (r) (f z m1) (k)) : J own cc nL ret nm fr lo n0 nf (pc) (lv) (As.reverse ++ st) (n) (m) (r) (bind2 oi f) (k) := by
  intro p l e R s mi args below meth c D base cid sa sv H locs ls x C hP hS hl hn hf hx
  refine J_callS (k := k) (oc := rI r oi) (f := fun q => f (vi q.1) q.2.1) np As hd hM hv hl1 hC hlen  hfr hst ⟨Nat.le_refl n, hf⟩ (fun v m1 r1 he => ?_) p l e R s mi args below meth c D base cid sa sv H locs ls x C hP hS hl hn hf ?_
  · cases oi with
    | none => cases he
    | some z =>
      cases he
      exact h z.1 z.2
  · rw [← hx]
    cases oi with
    | none => rfl
    | some z => rfl
theorem J_callSV {ix : Nat} {y : MethodName} {bytes : ByteArray} {maxL : Nat} {rt : Option FieldType} {frc loc : Nat} {oi : Option Mm} {f : Mm → Option σ} (np : Nat) (As : List Value) (hd : decode cc pc = .ok (.invokestatic ix, 3)) (hM : MV y bytes maxL rt np) (hv : Cond.static y ∈ TBg) (hl1 : Cond.methodLink own ix y ∈ TBg) (hC : Ct y bytes maxL rt frc loc As n n m r (rV r oi)) (hlen : As.length = np)  (hfr : frc + 1 ≤ fr ∧ 8 + (maxL + 11) + loc ≤ lo) (hst : (st.map fun v => v.category).sum ≤ 8) (h : ∀ m1, J own cc nL ret nm fr lo n0 nf (pc + 3) (lv) (st) (n) (m1) (r) (f m1) (k)) : J own cc nL ret nm fr lo n0 nf (pc) (lv) (As.reverse ++ st) (n) (m) (r) (oi.bind f) (k) := by
  intro p l e R s mi args below meth c D base cid sa sv H locs ls x C hP hS hl hn hf hx
  refine J_callS (k := k) (oc := rV r oi) (f := fun q => f q.2.1) np As hd hM hv hl1 hC hlen  hfr hst ⟨Nat.le_refl n, hf⟩ (fun v m1 r1 he => ?_) p l e R s mi args below meth c D base cid sa sv H locs ls x C hP hS hl hn hf ?_
  · cases oi with
    | none => cases he
    | some z =>
      cases he
      exact h _
  · rw [← hx]
    cases oi with
    | none => rfl
    | some z => rfl
theorem J_callSNP {ix : Nat} {y : MethodName} {bytes : ByteArray} {maxL : Nat} {rt : Option FieldType} {frc loc : Nat} {oi : Option Int32} {f : Int32 → Option σ} (np : Nat) (host : String) (As : List Value) (hd : decode cc pc = .ok (.invokestatic ix, 3)) (hM : MV y bytes maxL rt np) (hv : Cond.static y ∈ TBg) (hl1 : Cond.methodLinkNest own ix y host ∈ NWl) (hC : Ct y bytes maxL rt frc loc As n n m r (rP m r oi)) (hlen : As.length = np)  (hfr : frc + 1 ≤ fr ∧ 8 + (maxL + 11) + loc ≤ lo) (hst : (st.map fun v => v.category).sum ≤ 8) (h : ∀ z, J own cc nL ret nm fr lo n0 nf (pc + 3) (lv) (.int z :: st) (n) (m) (r) (f z) (k)) : J own cc nL ret nm fr lo n0 nf (pc) (lv) (As.reverse ++ st) (n) (m) (r) (oi.bind f) (k) := by
  intro p l e R s mi args below meth c D base cid sa sv H locs ls x C hP hS hl hn hf hx
  refine J_callSN (k := k) (oc := rP m r oi) (f := fun q => f (vi q.1)) np host As hd hM hv hl1 hC hlen  hfr hst ⟨Nat.le_refl n, hf⟩ (fun v m1 r1 he => ?_) p l e R s mi args below meth c D base cid sa sv H locs ls x C hP hS hl hn hf ?_
  · cases oi with
    | none => cases he
    | some z =>
      cases he
      exact h z
  · rw [← hx]
    cases oi with
    | none => rfl
    | some z => rfl
theorem J_callSNI {ix : Nat} {y : MethodName} {bytes : ByteArray} {maxL : Nat} {rt : Option FieldType} {frc loc : Nat} {oi : Option (Int32 × Mm)} {f : Int32 → Mm → Option σ} (np : Nat) (host : String) (As : List Value) (hd : decode cc pc = .ok (.invokestatic ix, 3)) (hM : MV y bytes maxL rt np) (hv : Cond.static y ∈ TBg) (hl1 : Cond.methodLinkNest own ix y host ∈ NWl) (hC : Ct y bytes maxL rt frc loc As n n m r (rI r oi)) (hlen : As.length = np)  (hfr : frc + 1 ≤ fr ∧ 8 + (maxL + 11) + loc ≤ lo) (hst : (st.map fun v => v.category).sum ≤ 8) (h : ∀ z m1, J own cc nL ret nm fr lo n0 nf (pc + 3) (lv) (.int z :: st) (n) (m1) (r) (f z m1) (k)) : J own cc nL ret nm fr lo n0 nf (pc) (lv) (As.reverse ++ st) (n) (m) (r) (bind2 oi f) (k) := by
  intro p l e R s mi args below meth c D base cid sa sv H locs ls x C hP hS hl hn hf hx
  refine J_callSN (k := k) (oc := rI r oi) (f := fun q => f (vi q.1) q.2.1) np host As hd hM hv hl1 hC hlen  hfr hst ⟨Nat.le_refl n, hf⟩ (fun v m1 r1 he => ?_) p l e R s mi args below meth c D base cid sa sv H locs ls x C hP hS hl hn hf ?_
  · cases oi with
    | none => cases he
    | some z =>
      cases he
      exact h z.1 z.2
  · rw [← hx]
    cases oi with
    | none => rfl
    | some z => rfl
theorem J_callSNV {ix : Nat} {y : MethodName} {bytes : ByteArray} {maxL : Nat} {rt : Option FieldType} {frc loc : Nat} {oi : Option Mm} {f : Mm → Option σ} (np : Nat) (host : String) (As : List Value) (hd : decode cc pc = .ok (.invokestatic ix, 3)) (hM : MV y bytes maxL rt np) (hv : Cond.static y ∈ TBg) (hl1 : Cond.methodLinkNest own ix y host ∈ NWl) (hC : Ct y bytes maxL rt frc loc As n n m r (rV r oi)) (hlen : As.length = np)  (hfr : frc + 1 ≤ fr ∧ 8 + (maxL + 11) + loc ≤ lo) (hst : (st.map fun v => v.category).sum ≤ 8) (h : ∀ m1, J own cc nL ret nm fr lo n0 nf (pc + 3) (lv) (st) (n) (m1) (r) (f m1) (k)) : J own cc nL ret nm fr lo n0 nf (pc) (lv) (As.reverse ++ st) (n) (m) (r) (oi.bind f) (k) := by
  intro p l e R s mi args below meth c D base cid sa sv H locs ls x C hP hS hl hn hf hx
  refine J_callSN (k := k) (oc := rV r oi) (f := fun q => f q.2.1) np host As hd hM hv hl1 hC hlen  hfr hst ⟨Nat.le_refl n, hf⟩ (fun v m1 r1 he => ?_) p l e R s mi args below meth c D base cid sa sv H locs ls x C hP hS hl hn hf ?_
  · cases oi with
    | none => cases he
    | some z =>
      cases he
      exact h _
  · rw [← hx]
    cases oi with
    | none => rfl
    | some z => rfl
end JC
end
section
theorem df_all : ∀ c, c < 10 → ∀ j, j < CK c → defaultValue (tyT c j) = if isR c j = true then Value.null else .int 0 := by decide +kernel
theorem cat_sum (base : Nat) (sa : Nat → Nat) (st : List Value) : ((st.map (rv base sa)).map fun v => v.category).sum = (st.map fun v => v.category).sum := by
  rw [List.map_map]
  have e9 : ((fun v : Value => v.category) ∘ rv base sa) = (fun v : Value => v.category) := funext (fun v => rv_cat base sa v)
  rw [e9]
def imax (x y : Int32) : Int32 := if x < y then y else x
def imin (x y : Int32) : Int32 := if y < x then y else x
def iabs (x : Int32) : Int32 := if 0 ≤ x then x else 0 - x
def acopy (m : Mm) (a0 N0 : Nat) (sp : Int32) (a N1 : Nat) (dp len : Int32) : Option Mm :=
  if sp < 0 ∨ dp < 0 ∨ len < 0 ∨ N0 < sp.toNatClampNeg + len.toNatClampNeg ∨ N1 < dp.toNatClampNeg + len.toNatClampNeg then none
  else some (upA m a (va_cpy (m a0) (m a) sp.toNatClampNeg dp.toNatClampNeg len.toNatClampNeg))
theorem ml_objinit : Cond.instanceMethod objectInit ∈ TBg ∧ Cond.code objectInit ⟨#[0xb1]⟩ 1 none ∈ TBg := by decide +kernel
theorem ml_acopy : Cond.native arraycopyName ∈ TBg ∧ Cond.static arraycopyName ∈ TBg ∧ Cond.initialized "java/lang/System" ∈ TBg := by decide +kernel
theorem ml_max : Cond.static Lib.Math.max.name ∈ TBg ∧ Cond.initialized "java/lang/Math" ∈ TBg ∧ Cond.code Lib.Math.max.name Lib.Math.max.code 2 (some .int) ∈ TBg := by decide +kernel
theorem ml_min : Cond.static Lib.Math.min.name ∈ TBg ∧ Cond.initialized "java/lang/Math" ∈ TBg ∧ Cond.code Lib.Math.min.name Lib.Math.min.code 2 (some .int) ∈ TBg := by decide +kernel
theorem ml_abs : Cond.static Lib.Math.abs.name ∈ TBg ∧ Cond.initialized "java/lang/Math" ∈ TBg ∧ Cond.code Lib.Math.abs.name Lib.Math.abs.code 1 (some .int) ∈ TBg := by decide +kernel

section JM
variable {own : String} {cc : ByteArray} {nL : Nat} {ret : Option FieldType} {nm : String} {fr lo n0 nf : Nat} {pc : Nat} {lv : List (Nat × Value)} {st : List Value} {n : Nat} {m : Mm} {r : Rr} {σ : Type} {o : Option σ} {k : σ → Option Res}
theorem J_objInit {ix a : Nat} (hd : decode cc pc = .ok (.invokespecial ix, 3)) (hl1 : Cond.methodLink own ix objectInit ∈ TBg) (hfr : 1 ≤ fr) (hlo : (st.map fun v => v.category).sum + 12 ≤ lo) (h : J own cc nL ret nm fr lo n0 nf (pc + 3) (lv) (st) (n) (m) (r) (o) (k)) : J own cc nL ret nm fr lo n0 nf (pc) (lv) (.ref a :: st) (n) (m) (r) (o) (k) := by
  intro p l e R s mi args below meth c D base cid sa sv H locs ls x C hP hS hl hn hf hx
  obtain ⟨c1, c2, c3, c4, c5, c6, c7, c8, c9, c10, c11, c12, c13, c14⟩ := id C
  have hs := cat_sum base sa st
  exact W.objInit c1 c2 c5 (c6 _ hl1) (c6 _ ml_objinit.1) (c6 _ ml_objinit.2) rfl (by rw [c4]; exact hl.1) rfl hd (Nat.le_trans hfr c10) (by show 2 * 0 + _ + 12 ≤ _; rw [hs]; omega) (h p l e R s mi args below meth c D base cid sa sv H locs ls x C hP hS hl hn hf hx)
theorem J_mmax {ix : Nat} {x1 y1 : Int32} (hd : decode cc pc = .ok (.invokestatic ix, 3)) (hl1 : Cond.methodLink own ix Lib.Math.max.name ∈ TBg) (hfr : 1 ≤ fr) (hlo : (st.map fun v => v.category).sum + 13 ≤ lo) (h : J own cc nL ret nm fr lo n0 nf (pc + 3) (lv) (.int (imax x1 y1) :: st) (n) (m) (r) (o) (k)) : J own cc nL ret nm fr lo n0 nf (pc) (lv) (.int y1 :: .int x1 :: st) (n) (m) (r) (o) (k) := by
  intro p l e R s mi args below meth c D base cid sa sv H locs ls x C hP hS hl hn hf hx
  obtain ⟨c1, c2, c3, c4, c5, c6, c7, c8, c9, c10, c11, c12, c13, c14⟩ := id C
  have hs := cat_sum base sa st
  have hm1 := nsl_mono hf
  have hm3 := nsl_mono hn
  exact va_mmax c1 c2 (by rw [c4]; exact hl.1.symm) c5 (c6 _ hl1) (c6 _ ml_max.1) (c6 _ ml_max.2.1) (c6 _ ml_max.2.2) (Nat.le_trans hfr c10) (by rw [hs]; omega) (by omega) (by omega) hd (h p l e R s mi args below meth c D base cid sa sv H locs ls x C hP hS hl hn hf hx)
theorem J_mmin {ix : Nat} {x1 y1 : Int32} (hd : decode cc pc = .ok (.invokestatic ix, 3)) (hl1 : Cond.methodLink own ix Lib.Math.min.name ∈ TBg) (hfr : 1 ≤ fr) (hlo : (st.map fun v => v.category).sum + 13 ≤ lo) (h : J own cc nL ret nm fr lo n0 nf (pc + 3) (lv) (.int (imin x1 y1) :: st) (n) (m) (r) (o) (k)) : J own cc nL ret nm fr lo n0 nf (pc) (lv) (.int y1 :: .int x1 :: st) (n) (m) (r) (o) (k) := by
  intro p l e R s mi args below meth c D base cid sa sv H locs ls x C hP hS hl hn hf hx
  obtain ⟨c1, c2, c3, c4, c5, c6, c7, c8, c9, c10, c11, c12, c13, c14⟩ := id C
  have hs := cat_sum base sa st
  have hm1 := nsl_mono hf
  have hm3 := nsl_mono hn
  exact va_mmin c1 c2 (by rw [c4]; exact hl.1.symm) c5 (c6 _ hl1) (c6 _ ml_min.1) (c6 _ ml_min.2.1) (c6 _ ml_min.2.2) (Nat.le_trans hfr c10) (by rw [hs]; omega) (by omega) (by omega) hd (h p l e R s mi args below meth c D base cid sa sv H locs ls x C hP hS hl hn hf hx)
theorem J_mabs {ix : Nat} {x1 : Int32} (hd : decode cc pc = .ok (.invokestatic ix, 3)) (hl1 : Cond.methodLink own ix Lib.Math.abs.name ∈ TBg) (hfr : 1 ≤ fr) (hlo : (st.map fun v => v.category).sum + 13 ≤ lo) (h : J own cc nL ret nm fr lo n0 nf (pc + 3) (lv) (.int (iabs x1) :: st) (n) (m) (r) (o) (k)) : J own cc nL ret nm fr lo n0 nf (pc) (lv) (.int x1 :: st) (n) (m) (r) (o) (k) := by
  intro p l e R s mi args below meth c D base cid sa sv H locs ls x C hP hS hl hn hf hx
  obtain ⟨c1, c2, c3, c4, c5, c6, c7, c8, c9, c10, c11, c12, c13, c14⟩ := id C
  have hs := cat_sum base sa st
  have hm1 := nsl_mono hf
  have hm3 := nsl_mono hn
  exact va_mabs c1 c2 (by rw [c4]; exact hl.1.symm) c5 (c6 _ hl1) (c6 _ ml_abs.1) (c6 _ ml_abs.2.1) (c6 _ ml_abs.2.2) (Nat.le_trans hfr c10) (by rw [hs]; omega) (by omega) (by omega) hd (h p l e R s mi args below meth c D base cid sa sv H locs ls x C hP hS hl hn hf hx)
theorem J_acopy {ix : Nat} {sp dp len : Int32} {f : Mm → Option σ} (a0 N0 a N1 : Nat) (hd : decode cc pc = .ok (.invokestatic ix, 3)) (hl1 : Cond.methodLink own ix arraycopyName ∈ TBg) (hL0 : LAY a0 = (20, N0)) (hL : LAY a = (20, N1)) (ha0 : a0 < n) (ha : a < n) (hfr : 1 ≤ fr) (hlo : (st.map fun v => v.category).sum + (nativeFrameWords "java/lang/System" "arraycopy" 5 + 11) ≤ lo) (h : ∀ m1, J own cc nL ret nm fr lo n0 nf (pc + 3) (lv) (st) (n) (m1) (r) (f m1) (k)) : J own cc nL ret nm fr lo n0 nf (pc) (lv) (.int len :: .int dp :: .ref a :: .int sp :: .ref a0 :: st) (n) (m) (r) ((acopy m a0 N0 sp a N1 dp len).bind f) (k) := by
  intro p l e R s mi args below meth c D base cid sa sv H locs ls x C hP hS hl hn hf hx
  obtain ⟨c1, c2, c3, c4, c5, c6, c7, c8, c9, c10, c11, c12, c13, c14⟩ := id C
  by_cases hi : sp < 0 ∨ dp < 0 ∨ len < 0 ∨ N0 < sp.toNatClampNeg + len.toNatClampNeg ∨ N1 < dp.toNatClampNeg + len.toNatClampNeg
  · rw [acopy, if_pos hi] at hx
    cases hx
  · rw [acopy, if_neg hi] at hx
    simp only [not_or, Nat.not_lt] at hi
    obtain ⟨i1, i2, i3, i4, i5⟩ := hi
    have hs := cat_sum base sa st
    refine va_copyi (f := m a0) (g := m a) (ty := .int) c1 c2 (by rw [c4]; exact hl.1.symm) c5 (c6 _ hl1) (c6 _ ml_acopy.1) (c6 _ ml_acopy.2.1) (c6 _ ml_acopy.2.2) c8.1 hP wsof_D hS a0 a 0 0 (by rw [wsof_at ha0, cell_arr hL0 (by decide) (by decide)]) (by rw [wsof_at ha, cell_arr hL (by decide) (by decide)]) rfl rfl rfl i1 i2 i3 i4 i5 (fun _ _ => rfl) (Nat.le_trans hfr c10) (by rw [hs]; omega) hd (fun H1 locs1 hP1 _ hS1 => ?_)
    have e1 : (.inl (cid 20, N1, .inl (va_cpy (m a0) (m a) sp.toNatClampNeg dp.toNatClampNeg len.toNatClampNeg)) : va_E) = cellOf base cid a (upA m a (va_cpy (m a0) (m a) sp.toNatClampNeg dp.toNatClampNeg len.toNatClampNeg)) r := by
      rw [cell_arr hL (by decide) (by decide), upA_self]
    rw [e1, wsof_set (fun i hi => upA_ne hi) (fun i hi => rfl)] at hP1
    exact h _ p l e R s mi args below meth c D base cid sa sv H1 locs1 ls x C hP1 hS1 hl hn hf hx
theorem J_split {x1 c1 : Int32} {o1 o2 : Option σ} (h1 : x1 = c1 → J own cc nL ret nm fr lo n0 nf (pc) (lv) (.int x1 :: st) (n) (m) (r) (o1) (k)) (h2 : ¬ x1 = c1 → J own cc nL ret nm fr lo n0 nf (pc) (lv) (.int x1 :: st) (n) (m) (r) (o2) (k)) : J own cc nL ret nm fr lo n0 nf (pc) (lv) (.int x1 :: st) (n) (m) (r) (if x1 = c1 then o1 else o2) (k) := by
  by_cases h : x1 = c1
  · rw [if_pos h]; exact h1 h
  · rw [if_neg h]; exact h2 h
theorem J_tsIn {dflt lo1 hi1 : Int} {offs : Array Int} {len : Nat} {x1 c0 : Int32} {off : Int} (tgt : Nat) (hc : x1 = c0) (hd : decode cc pc = .ok (.tableswitch dflt lo1 hi1 offs, len)) (h1 : ¬ c0.toInt < lo1) (h2 : ¬ hi1 < c0.toInt) (ho : offs[(c0.toInt - lo1).toNat]? = some off) (ht : (pc : Int) + off = (tgt : Int)) (h : J own cc nL ret nm fr lo n0 nf (tgt) (lv) (st) (n) (m) (r) (o) (k)) : J own cc nL ret nm fr lo n0 nf (pc) (lv) (.int x1 :: st) (n) (m) (r) (o) (k) := by
  intro p l e R s mi args below meth c D base cid sa sv H locs ls x C hP hS hl hn hf hx
  obtain ⟨c1, c2, c3, c4, c5, c6, c7, c8, c9, c10, c11, c12, c13, c14⟩ := id C
  subst hc
  exact lv_tableIn c1 c2 hd h1 h2 ho ht (h p l e R s mi args below meth c D base cid sa sv H locs ls x C hP hS hl hn hf hx)
theorem J_tsOut {dflt lo1 hi1 : Int} {offs : Array Int} {len : Nat} {x1 : Int32} (tgt : Nat) (hd : decode cc pc = .ok (.tableswitch dflt lo1 hi1 offs, len)) (hr : x1.toInt < lo1 ∨ hi1 < x1.toInt) (ht : (pc : Int) + dflt = (tgt : Int)) (h : J own cc nL ret nm fr lo n0 nf (tgt) (lv) (st) (n) (m) (r) (o) (k)) : J own cc nL ret nm fr lo n0 nf (pc) (lv) (.int x1 :: st) (n) (m) (r) (o) (k) := by
  intro p l e R s mi args below meth c D base cid sa sv H locs ls x C hP hS hl hn hf hx
  obtain ⟨c1, c2, c3, c4, c5, c6, c7, c8, c9, c10, c11, c12, c13, c14⟩ := id C
  exact lv_tableOut c1 c2 hd hr ht (h p l e R s mi args below meth c D base cid sa sv H locs ls x C hP hS hl hn hf hx)
theorem J_lk {dflt : Int} {ps : Array (Int × Int)} {len : Nat} {x1 : Int32} {off : Int} (tgt : Nat) (hd : decode cc pc = .ok (.lookupswitch dflt ps, len)) (hp : (ps.toList.zip (ps.toList.drop 1)).all (fun (a, next) => a.1 < next.1) = true) (ho : Op.lookupswitch.offset ps.toList dflt x1.toInt = off) (ht : (pc : Int) + off = (tgt : Int)) (h : J own cc nL ret nm fr lo n0 nf (tgt) (lv) (st) (n) (m) (r) (o) (k)) : J own cc nL ret nm fr lo n0 nf (pc) (lv) (.int x1 :: st) (n) (m) (r) (o) (k) := by
  intro p l e R s mi args below meth c D base cid sa sv H locs ls x C hP hS hl hn hf hx
  obtain ⟨c1, c2, c3, c4, c5, c6, c7, c8, c9, c10, c11, c12, c13, c14⟩ := id C
  exact lv_lookup c1 c2 hd hp ho ht (h p l e R s mi args below meth c D base cid sa sv H locs ls x C hP hS hl hn hf hx)
theorem ts_out {x : Int32} {lo hi : Int} (l : List Int32) (hl : ∀ i : Nat, i < (hi - lo + 1).toNat → Int32.ofInt (lo + i) ∈ l) (h : ∀ c ∈ l, ¬ x = c) : x.toInt < lo ∨ hi < x.toInt := by
  by_cases h1 : x.toInt < lo
  · exact Or.inl h1
  · by_cases h2 : hi < x.toInt
    · exact Or.inr h2
    · have h3 := hl (x.toInt - lo).toNat (by omega)
      have e : lo + ((x.toInt - lo).toNat : Int) = x.toInt := by omega
      rw [e, Int32.ofInt_toInt] at h3
      exact absurd rfl (h x h3)
theorem J_new {ix : Nat} (ci : Nat) (hd : decode cc pc = .ok (.new ix, 3)) (hci : ci < 10) (hcl : Cond.classLink own ix (CN ci) ∈ TBg) (hinst : Cond.instantiable (CN ci) (CK ci) ∈ TBg) (hini : Cond.initialized (CN ci) ∈ TBg) (hL : (LAY n).1 = ci) (hm : ∀ j, m n j = 0) (hr : ∀ j, r n j = none) (hnf : n + 1 ≤ nf) (h : J own cc nL ret nm fr lo n0 nf (pc + 3) (lv) (.ref n :: st) (n + 1) (m) (r) (o) (k)) : J own cc nL ret nm fr lo n0 nf (pc) (lv) (st) (n) (m) (r) (o) (k) := by
  intro p l e R s mi args below meth c D base cid sa sv H locs ls x C hP hS hl hn hf hx
  obtain ⟨c1, c2, c3, c4, c5, c6, c7, c8, c9, c10, c11, c12, c13, c14⟩ := id C
  have hLe := lay_obj hL hci
  have hm1 := nsl_mono hnf
  have hm3 := nsl_mono hn
  have hsu := nsl_succ n
  rw [hLe] at hsu
  refine va_new (D := D) (ci := ci) (fs := (List.range (CK ci)).map (fun j => fval base ci j (m n j) (r n j))) (C := CN ci) (T := CT ci) (N := CK ci) c1 c2 c6 (cls_in ci hci) (tyT ci) (cls_ty ci hci) c5 (c6 _ hcl) (c6 _ hinst) (c6 _ hini) c8.1 hP wsof_D hS (fun q hq => by rw [c9] at hq; show base ≤ q; omega) (cls_at ci hci) (fun j hj => ?_) (by omega) (by omega) hd (fun q H1 hP1 hD1 hS1 => ?_)
  · rw [df_all ci hci j hj]
    simp only [vp_V, List.getD_eq_getElem?_getD, List.getElem?_map, List.getElem?_range hj, Option.map_some, Option.getD_some, fval, hm, hr]
    by_cases hR : isR ci j = true <;> simp [hR, va_rf]
  · refine W_new hP1 hD1 c9 hn (fun hq => ?_)
    subst hq
    rw [← cell_obj (cid := cid) hLe (by omega), wsof_push] at hP1
    have e1 : n - n0 + 1 = n + 1 - n0 := by omega
    have e2 : nsl n - nsl n0 + CK ci = nsl (n + 1) - nsl n0 := by omega
    rw [e1, e2]
    exact h p l e R s mi args below meth c D base cid sa sv H1 locs ls x C hP1 hS1 hl (by omega) hnf hx
theorem J_newI {z : Int32} (N : Nat) (hd : decode cc pc = .ok (.newarray .int, 2)) (hz0 : ¬ z < 0) (hzN : z.toNatClampNeg = N) (hsm : N * 8 ≤ 536870912) (hac : Cond.arrayClass .int ∈ TBg) (hL : LAY n = (20, N)) (hm : m n = fun _ => 0) (hnf : n + 1 ≤ nf) (h : J own cc nL ret nm fr lo n0 nf (pc + 2) (lv) (.ref n :: st) (n + 1) (m) (r) (o) (k)) : J own cc nL ret nm fr lo n0 nf (pc) (lv) (.int z :: st) (n) (m) (r) (o) (k) := by
  intro p l e R s mi args below meth c D base cid sa sv H locs ls x C hP hS hl hn hf hx
  obtain ⟨c1, c2, c3, c4, c5, c6, c7, c8, c9, c10, c11, c12, c13, c14⟩ := id C
  have hm1 := nsl_mono hnf
  have hm3 := nsl_mono hn
  have hsu := nsl_succ n
  rw [hL] at hsu
  simp only at hsu
  refine va_newa (atype := .int) (ty := .int) (a0 := (N, .inl (m n))) c1 c2 (c6 _ hac) rfl c8.1 hP wsof_D hS (fun q hq => by rw [c9] at hq; show base ≤ q; omega) (fun cA => by rw [hm]; rfl) hz0 hzN (by simp [componentBytes]; omega) (by omega) (by omega) hd (fun q cA H1 hK1 hP1 hD1 hS1 => ?_)
  have hcA : cA = cid 20 := by
    have g1 := (hK1.2 5 (cA, .int) rfl).2
    have g2 := (c8.1.2 0 (cid 20, .int) rfl).2
    exact Option.some.inj (Eq.trans (Eq.symm g1) g2)
  subst hcA
  refine W_new hP1 hD1 c9 hn (fun hq => ?_)
  subst hq
  rw [← cell_arr (base := base) (r := r) hL (by decide) (by decide), wsof_push] at hP1
  have e1 : n - n0 + 1 = n + 1 - n0 := by omega
  have e2 : nsl n - nsl n0 + N = nsl (n + 1) - nsl n0 := by omega
  rw [e1, e2]
  exact h p l e R s mi args below meth c D base cid sa sv H1 locs ls x C hP1 hS1 hl (by omega) hnf hx
theorem J_newB {z : Int32} (N : Nat) (hd : decode cc pc = .ok (.newarray .byte, 2)) (hz0 : ¬ z < 0) (hzN : z.toNatClampNeg = N) (hsm : N * 8 ≤ 536870912) (hac : Cond.arrayClass .byte ∈ TBg) (hL : LAY n = (21, N)) (hm : m n = fun _ => 0) (hnf : n + 1 ≤ nf) (h : J own cc nL ret nm fr lo n0 nf (pc + 2) (lv) (.ref n :: st) (n + 1) (m) (r) (o) (k)) : J own cc nL ret nm fr lo n0 nf (pc) (lv) (.int z :: st) (n) (m) (r) (o) (k) := by
  intro p l e R s mi args below meth c D base cid sa sv H locs ls x C hP hS hl hn hf hx
  obtain ⟨c1, c2, c3, c4, c5, c6, c7, c8, c9, c10, c11, c12, c13, c14⟩ := id C
  have hm1 := nsl_mono hnf
  have hm3 := nsl_mono hn
  have hsu := nsl_succ n
  rw [hL] at hsu
  simp only at hsu
  refine va_newa (atype := .byte) (ty := .byte) (a0 := (N, .inl (m n))) c1 c2 (c6 _ hac) rfl c8.1 hP wsof_D hS (fun q hq => by rw [c9] at hq; show base ≤ q; omega) (fun cA => by rw [hm]; rfl) hz0 hzN (by simp [componentBytes]; omega) (by omega) (by omega) hd (fun q cA H1 hK1 hP1 hD1 hS1 => ?_)
  have hcA : cA = cid 21 := by
    have g1 := (hK1.2 5 (cA, .byte) rfl).2
    have g2 := (c8.1.2 1 (cid 21, .byte) rfl).2
    exact Option.some.inj (Eq.trans (Eq.symm g1) g2)
  subst hcA
  refine W_new hP1 hD1 c9 hn (fun hq => ?_)
  subst hq
  rw [← cell_arr (base := base) (r := r) hL (by decide) (by decide), wsof_push] at hP1
  have e1 : n - n0 + 1 = n + 1 - n0 := by omega
  have e2 : nsl n - nsl n0 + N = nsl (n + 1) - nsl n0 := by omega
  rw [e1, e2]
  exact h p l e R s mi args below meth c D base cid sa sv H1 locs ls x C hP1 hS1 hl (by omega) hnf hx
theorem J_newZ {z : Int32} (N : Nat) (hd : decode cc pc = .ok (.newarray .boolean, 2)) (hz0 : ¬ z < 0) (hzN : z.toNatClampNeg = N) (hsm : N * 8 ≤ 536870912) (hac : Cond.arrayClass .boolean ∈ TBg) (hL : LAY n = (22, N)) (hm : m n = fun _ => 0) (hnf : n + 1 ≤ nf) (h : J own cc nL ret nm fr lo n0 nf (pc + 2) (lv) (.ref n :: st) (n + 1) (m) (r) (o) (k)) : J own cc nL ret nm fr lo n0 nf (pc) (lv) (.int z :: st) (n) (m) (r) (o) (k) := by
  intro p l e R s mi args below meth c D base cid sa sv H locs ls x C hP hS hl hn hf hx
  obtain ⟨c1, c2, c3, c4, c5, c6, c7, c8, c9, c10, c11, c12, c13, c14⟩ := id C
  have hm1 := nsl_mono hnf
  have hm3 := nsl_mono hn
  have hsu := nsl_succ n
  rw [hL] at hsu
  simp only at hsu
  refine va_newa (atype := .boolean) (ty := .boolean) (a0 := (N, .inl (m n))) c1 c2 (c6 _ hac) rfl c8.1 hP wsof_D hS (fun q hq => by rw [c9] at hq; show base ≤ q; omega) (fun cA => by rw [hm]; rfl) hz0 hzN (by simp [componentBytes]; omega) (by omega) (by omega) hd (fun q cA H1 hK1 hP1 hD1 hS1 => ?_)
  have hcA : cA = cid 22 := by
    have g1 := (hK1.2 5 (cA, .boolean) rfl).2
    have g2 := (c8.1.2 2 (cid 22, .boolean) rfl).2
    exact Option.some.inj (Eq.trans (Eq.symm g1) g2)
  subst hcA
  refine W_new hP1 hD1 c9 hn (fun hq => ?_)
  subst hq
  rw [← cell_arr (base := base) (r := r) hL (by decide) (by decide), wsof_push] at hP1
  have e1 : n - n0 + 1 = n + 1 - n0 := by omega
  have e2 : nsl n - nsl n0 + N = nsl (n + 1) - nsl n0 := by omega
  rw [e1, e2]
  exact h p l e R s mi args below meth c D base cid sa sv H1 locs ls x C hP1 hS1 hl (by omega) hnf hx
end JM
end
