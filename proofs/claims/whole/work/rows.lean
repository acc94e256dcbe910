section
-- ===== PART A: goes FIRST, ahead of the names: the tables' words, and 'selects' of the private methods out of them =====
/-- a private method of a class that the tables say can be made, by its rows of tables_1 -/
def lw_okq (q : MethodName × Nat) : Prop := (q.1.cls ≠ "java/lang/invoke/MethodHandle" ∧ q.1.cls ≠ "java/lang/invoke/VarHandle") ∧ Cond.instantiable q.1.cls q.2 ∈ tables_1 ∧ Cond.privateMethod q.1 ∈ tables_1 ∧ Cond.instanceMethod q.1 ∈ tables_1
theorem lw_p0 : lw_okq (⟨"TokenFloor$Machine", "begin", "()V"⟩, 14) := ⟨⟨by decide +kernel, by decide +kernel⟩, List.mem_of_getElem? (i := 93) (by decide +kernel), List.mem_of_getElem? (i := 357) (by decide +kernel), List.mem_of_getElem? (i := 358) (by decide +kernel)⟩
theorem lw_p1 : lw_okq (⟨"TokenFloor$Colours", "add", "(III)I"⟩, 6) := ⟨⟨by decide +kernel, by decide +kernel⟩, List.mem_of_getElem? (i := 142) (by decide +kernel), List.mem_of_getElem? (i := 365) (by decide +kernel), List.mem_of_getElem? (i := 366) (by decide +kernel)⟩
theorem lw_p2 : lw_okq (⟨"TokenFloor$Machine", "arrive", "(IIIJ)V"⟩, 14) := ⟨⟨by decide +kernel, by decide +kernel⟩, List.mem_of_getElem? (i := 93) (by decide +kernel), List.mem_of_getElem? (i := 392) (by decide +kernel), List.mem_of_getElem? (i := 393) (by decide +kernel)⟩
theorem lw_p3 : lw_okq (⟨"TokenFloor$Machine", "clashAt", "(I)V"⟩, 14) := ⟨⟨by decide +kernel, by decide +kernel⟩, List.mem_of_getElem? (i := 93) (by decide +kernel), List.mem_of_getElem? (i := 408) (by decide +kernel), List.mem_of_getElem? (i := 409) (by decide +kernel)⟩
theorem lw_p4 : lw_okq (⟨"TokenFloor$Machine", "mayStep", "(I)Z"⟩, 14) := ⟨⟨by decide +kernel, by decide +kernel⟩, List.mem_of_getElem? (i := 93) (by decide +kernel), List.mem_of_getElem? (i := 420) (by decide +kernel), List.mem_of_getElem? (i := 421) (by decide +kernel)⟩
theorem lw_p5 : lw_okq (⟨"TokenFloor$Machine", "goOff", "(I)V"⟩, 14) := ⟨⟨by decide +kernel, by decide +kernel⟩, List.mem_of_getElem? (i := 93) (by decide +kernel), List.mem_of_getElem? (i := 437) (by decide +kernel), List.mem_of_getElem? (i := 438) (by decide +kernel)⟩
theorem lw_p6 : lw_okq (⟨"TokenFloor$Machine", "goSwitch", "(IIJJ)V"⟩, 14) := ⟨⟨by decide +kernel, by decide +kernel⟩, List.mem_of_getElem? (i := 93) (by decide +kernel), List.mem_of_getElem? (i := 445) (by decide +kernel), List.mem_of_getElem? (i := 446) (by decide +kernel)⟩
theorem lw_p7 : lw_okq (⟨"TokenFloor$Machine", "give", "(IIIJ)V"⟩, 14) := ⟨⟨by decide +kernel, by decide +kernel⟩, List.mem_of_getElem? (i := 93) (by decide +kernel), List.mem_of_getElem? (i := 455) (by decide +kernel), List.mem_of_getElem? (i := 456) (by decide +kernel)⟩
theorem lw_p8 : lw_okq (⟨"TokenFloor$Colours", "reach", "(IIII)I"⟩, 6) := ⟨⟨by decide +kernel, by decide +kernel⟩, List.mem_of_getElem? (i := 142) (by decide +kernel), List.mem_of_getElem? (i := 467) (by decide +kernel), List.mem_of_getElem? (i := 468) (by decide +kernel)⟩
theorem lw_p9 : lw_okq (⟨"TokenFloor$Machine", "giveInside", "(IIJ)V"⟩, 14) := ⟨⟨by decide +kernel, by decide +kernel⟩, List.mem_of_getElem? (i := 93) (by decide +kernel), List.mem_of_getElem? (i := 471) (by decide +kernel), List.mem_of_getElem? (i := 472) (by decide +kernel)⟩
theorem lw_p10 : lw_okq (⟨"TokenFloor$Machine", "goTurn", "(IIJ)V"⟩, 14) := ⟨⟨by decide +kernel, by decide +kernel⟩, List.mem_of_getElem? (i := 93) (by decide +kernel), List.mem_of_getElem? (i := 475) (by decide +kernel), List.mem_of_getElem? (i := 476) (by decide +kernel)⟩
theorem lw_p11 : lw_okq (⟨"TokenFloor$Machine", "goCall", "(III)V"⟩, 14) := ⟨⟨by decide +kernel, by decide +kernel⟩, List.mem_of_getElem? (i := 93) (by decide +kernel), List.mem_of_getElem? (i := 495) (by decide +kernel), List.mem_of_getElem? (i := 496) (by decide +kernel)⟩
theorem lw_p12 : lw_okq (⟨"TokenFloor$Machine", "goReturn", "(IJ)V"⟩, 14) := ⟨⟨by decide +kernel, by decide +kernel⟩, List.mem_of_getElem? (i := 93) (by decide +kernel), List.mem_of_getElem? (i := 507) (by decide +kernel), List.mem_of_getElem? (i := 508) (by decide +kernel)⟩
theorem lw_p13 : lw_okq (⟨"TokenFloor$Machine", "goMake", "(IIJ)V"⟩, 14) := ⟨⟨by decide +kernel, by decide +kernel⟩, List.mem_of_getElem? (i := 93) (by decide +kernel), List.mem_of_getElem? (i := 515) (by decide +kernel), List.mem_of_getElem? (i := 516) (by decide +kernel)⟩
theorem lw_p14 : lw_okq (⟨"TokenFloor$Machine", "goRead", "(III)V"⟩, 14) := ⟨⟨by decide +kernel, by decide +kernel⟩, List.mem_of_getElem? (i := 93) (by decide +kernel), List.mem_of_getElem? (i := 532) (by decide +kernel), List.mem_of_getElem? (i := 533) (by decide +kernel)⟩
theorem lw_p15 : lw_okq (⟨"TokenFloor$Machine", "placeAsked", "(I)I"⟩, 14) := ⟨⟨by decide +kernel, by decide +kernel⟩, List.mem_of_getElem? (i := 93) (by decide +kernel), List.mem_of_getElem? (i := 536) (by decide +kernel), List.mem_of_getElem? (i := 537) (by decide +kernel)⟩
def lw_privs_1 : List (MethodName × Nat) := [(⟨"TokenFloor$Machine", "begin", "()V"⟩, 14), (⟨"TokenFloor$Colours", "add", "(III)I"⟩, 6), (⟨"TokenFloor$Machine", "arrive", "(IIIJ)V"⟩, 14), (⟨"TokenFloor$Machine", "clashAt", "(I)V"⟩, 14), (⟨"TokenFloor$Machine", "mayStep", "(I)Z"⟩, 14), (⟨"TokenFloor$Machine", "goOff", "(I)V"⟩, 14), (⟨"TokenFloor$Machine", "goSwitch", "(IIJJ)V"⟩, 14), (⟨"TokenFloor$Machine", "give", "(IIIJ)V"⟩, 14), (⟨"TokenFloor$Colours", "reach", "(IIII)I"⟩, 6), (⟨"TokenFloor$Machine", "giveInside", "(IIJ)V"⟩, 14), (⟨"TokenFloor$Machine", "goTurn", "(IIJ)V"⟩, 14), (⟨"TokenFloor$Machine", "goCall", "(III)V"⟩, 14), (⟨"TokenFloor$Machine", "goReturn", "(IJ)V"⟩, 14), (⟨"TokenFloor$Machine", "goMake", "(IIJ)V"⟩, 14), (⟨"TokenFloor$Machine", "goRead", "(III)V"⟩, 14), (⟨"TokenFloor$Machine", "placeAsked", "(I)I"⟩, 14)]
theorem lw_r1 : ∀ q ∈ lw_privs_1, lw_okq q := List.forall_mem_cons.mpr ⟨lw_p0, List.forall_mem_cons.mpr ⟨lw_p1, List.forall_mem_cons.mpr ⟨lw_p2, List.forall_mem_cons.mpr ⟨lw_p3, List.forall_mem_cons.mpr ⟨lw_p4, List.forall_mem_cons.mpr ⟨lw_p5, List.forall_mem_cons.mpr ⟨lw_p6, List.forall_mem_cons.mpr ⟨lw_p7, List.forall_mem_cons.mpr ⟨lw_p8, List.forall_mem_cons.mpr ⟨lw_p9, List.forall_mem_cons.mpr ⟨lw_p10, List.forall_mem_cons.mpr ⟨lw_p11, List.forall_mem_cons.mpr ⟨lw_p12, List.forall_mem_cons.mpr ⟨lw_p13, List.forall_mem_cons.mpr ⟨lw_p14, List.forall_mem_cons.mpr ⟨lw_p15, fun _ h => absurd h List.not_mem_nil⟩⟩⟩⟩⟩⟩⟩⟩⟩⟩⟩⟩⟩⟩⟩⟩
theorem lw_p16 : lw_okq (⟨"TokenFloor$Machine", "refuseCell", "(III)J"⟩, 14) := ⟨⟨by decide +kernel, by decide +kernel⟩, List.mem_of_getElem? (i := 93) (by decide +kernel), List.mem_of_getElem? (i := 548) (by decide +kernel), List.mem_of_getElem? (i := 549) (by decide +kernel)⟩
theorem lw_p17 : lw_okq (⟨"TokenFloor$Machine", "goWrite", "(III)V"⟩, 14) := ⟨⟨by decide +kernel, by decide +kernel⟩, List.mem_of_getElem? (i := 93) (by decide +kernel), List.mem_of_getElem? (i := 559) (by decide +kernel), List.mem_of_getElem? (i := 560) (by decide +kernel)⟩
theorem lw_p18 : lw_okq (⟨"TokenFloor$Machine", "goEnd", "(IIJ)V"⟩, 14) := ⟨⟨by decide +kernel, by decide +kernel⟩, List.mem_of_getElem? (i := 93) (by decide +kernel), List.mem_of_getElem? (i := 567) (by decide +kernel), List.mem_of_getElem? (i := 568) (by decide +kernel)⟩
theorem lw_p19 : lw_okq (⟨"TokenFloor$Machine", "plainResult", "(IIJ)J"⟩, 14) := ⟨⟨by decide +kernel, by decide +kernel⟩, List.mem_of_getElem? (i := 93) (by decide +kernel), List.mem_of_getElem? (i := 571) (by decide +kernel), List.mem_of_getElem? (i := 572) (by decide +kernel)⟩
theorem lw_p20 : lw_okq (⟨"TokenFloor$Machine", "goTick", "(I)V"⟩, 14) := ⟨⟨by decide +kernel, by decide +kernel⟩, List.mem_of_getElem? (i := 93) (by decide +kernel), List.mem_of_getElem? (i := 600) (by decide +kernel), List.mem_of_getElem? (i := 601) (by decide +kernel)⟩
theorem lw_p21 : lw_okq (⟨"TokenFloor$Machine", "comparable", "(J)J"⟩, 14) := ⟨⟨by decide +kernel, by decide +kernel⟩, List.mem_of_getElem? (i := 93) (by decide +kernel), List.mem_of_getElem? (i := 657) (by decide +kernel), List.mem_of_getElem? (i := 658) (by decide +kernel)⟩
theorem lw_p22 : lw_okq (⟨"TokenFloor", "firstDifference", "()I"⟩, 5) := ⟨⟨by decide +kernel, by decide +kernel⟩, List.mem_of_getElem? (i := 16) (by decide +kernel), List.mem_of_getElem? (i := 661) (by decide +kernel), List.mem_of_getElem? (i := 662) (by decide +kernel)⟩
theorem lw_p23 : lw_okq (⟨"TokenFloorModel", "isAct", "(I)Z"⟩, 57) := ⟨⟨by decide +kernel, by decide +kernel⟩, List.mem_of_getElem? (i := 665) (by decide +kernel), List.mem_of_getElem? (i := 857) (by decide +kernel), List.mem_of_getElem? (i := 858) (by decide +kernel)⟩
theorem lw_p24 : lw_okq (⟨"TokenFloorModel", "begins", "()V"⟩, 57) := ⟨⟨by decide +kernel, by decide +kernel⟩, List.mem_of_getElem? (i := 665) (by decide +kernel), List.mem_of_getElem? (i := 873) (by decide +kernel), List.mem_of_getElem? (i := 874) (by decide +kernel)⟩
theorem lw_p25 : lw_okq (⟨"TokenFloorModel", "colour", "(IIII)I"⟩, 57) := ⟨⟨by decide +kernel, by decide +kernel⟩, List.mem_of_getElem? (i := 665) (by decide +kernel), List.mem_of_getElem? (i := 877) (by decide +kernel), List.mem_of_getElem? (i := 878) (by decide +kernel)⟩
theorem lw_p26 : lw_okq (⟨"TokenFloorModel", "stops", "(II)Z"⟩, 57) := ⟨⟨by decide +kernel, by decide +kernel⟩, List.mem_of_getElem? (i := 665) (by decide +kernel), List.mem_of_getElem? (i := 881) (by decide +kernel), List.mem_of_getElem? (i := 882) (by decide +kernel)⟩
theorem lw_p27 : lw_okq (⟨"TokenFloorModel", "comes", "(IIIIII)Z"⟩, 57) := ⟨⟨by decide +kernel, by decide +kernel⟩, List.mem_of_getElem? (i := 665) (by decide +kernel), List.mem_of_getElem? (i := 885) (by decide +kernel), List.mem_of_getElem? (i := 886) (by decide +kernel)⟩
theorem lw_p28 : lw_okq (⟨"TokenFloorModel", "pair", "(II)I"⟩, 57) := ⟨⟨by decide +kernel, by decide +kernel⟩, List.mem_of_getElem? (i := 665) (by decide +kernel), List.mem_of_getElem? (i := 889) (by decide +kernel), List.mem_of_getElem? (i := 890) (by decide +kernel)⟩
theorem lw_p29 : lw_okq (⟨"TokenFloorModel", "stepped", "(I)V"⟩, 57) := ⟨⟨by decide +kernel, by decide +kernel⟩, List.mem_of_getElem? (i := 665) (by decide +kernel), List.mem_of_getElem? (i := 894) (by decide +kernel), List.mem_of_getElem? (i := 895) (by decide +kernel)⟩
theorem lw_p30 : lw_okq (⟨"TokenFloorModel", "goesOff", "(I)Z"⟩, 57) := ⟨⟨by decide +kernel, by decide +kernel⟩, List.mem_of_getElem? (i := 665) (by decide +kernel), List.mem_of_getElem? (i := 898) (by decide +kernel), List.mem_of_getElem? (i := 899) (by decide +kernel)⟩
theorem lw_p31 : lw_okq (⟨"TokenFloorModel", "passes", "(III)Z"⟩, 57) := ⟨⟨by decide +kernel, by decide +kernel⟩, List.mem_of_getElem? (i := 665) (by decide +kernel), List.mem_of_getElem? (i := 902) (by decide +kernel), List.mem_of_getElem? (i := 903) (by decide +kernel)⟩
def lw_privs_2 : List (MethodName × Nat) := [(⟨"TokenFloor$Machine", "refuseCell", "(III)J"⟩, 14), (⟨"TokenFloor$Machine", "goWrite", "(III)V"⟩, 14), (⟨"TokenFloor$Machine", "goEnd", "(IIJ)V"⟩, 14), (⟨"TokenFloor$Machine", "plainResult", "(IIJ)J"⟩, 14), (⟨"TokenFloor$Machine", "goTick", "(I)V"⟩, 14), (⟨"TokenFloor$Machine", "comparable", "(J)J"⟩, 14), (⟨"TokenFloor", "firstDifference", "()I"⟩, 5), (⟨"TokenFloorModel", "isAct", "(I)Z"⟩, 57), (⟨"TokenFloorModel", "begins", "()V"⟩, 57), (⟨"TokenFloorModel", "colour", "(IIII)I"⟩, 57), (⟨"TokenFloorModel", "stops", "(II)Z"⟩, 57), (⟨"TokenFloorModel", "comes", "(IIIIII)Z"⟩, 57), (⟨"TokenFloorModel", "pair", "(II)I"⟩, 57), (⟨"TokenFloorModel", "stepped", "(I)V"⟩, 57), (⟨"TokenFloorModel", "goesOff", "(I)Z"⟩, 57), (⟨"TokenFloorModel", "passes", "(III)Z"⟩, 57)]
theorem lw_r2 : ∀ q ∈ lw_privs_2, lw_okq q := List.forall_mem_cons.mpr ⟨lw_p16, List.forall_mem_cons.mpr ⟨lw_p17, List.forall_mem_cons.mpr ⟨lw_p18, List.forall_mem_cons.mpr ⟨lw_p19, List.forall_mem_cons.mpr ⟨lw_p20, List.forall_mem_cons.mpr ⟨lw_p21, List.forall_mem_cons.mpr ⟨lw_p22, List.forall_mem_cons.mpr ⟨lw_p23, List.forall_mem_cons.mpr ⟨lw_p24, List.forall_mem_cons.mpr ⟨lw_p25, List.forall_mem_cons.mpr ⟨lw_p26, List.forall_mem_cons.mpr ⟨lw_p27, List.forall_mem_cons.mpr ⟨lw_p28, List.forall_mem_cons.mpr ⟨lw_p29, List.forall_mem_cons.mpr ⟨lw_p30, List.forall_mem_cons.mpr ⟨lw_p31, fun _ h => absurd h List.not_mem_nil⟩⟩⟩⟩⟩⟩⟩⟩⟩⟩⟩⟩⟩⟩⟩⟩
theorem lw_p32 : lw_okq (⟨"TokenFloorModel", "gives", "(IIIIII)Z"⟩, 57) := ⟨⟨by decide +kernel, by decide +kernel⟩, List.mem_of_getElem? (i := 665) (by decide +kernel), List.mem_of_getElem? (i := 906) (by decide +kernel), List.mem_of_getElem? (i := 907) (by decide +kernel)⟩
theorem lw_p33 : lw_okq (⟨"TokenFloorModel", "number", "(II)Z"⟩, 57) := ⟨⟨by decide +kernel, by decide +kernel⟩, List.mem_of_getElem? (i := 665) (by decide +kernel), List.mem_of_getElem? (i := 910) (by decide +kernel), List.mem_of_getElem? (i := 911) (by decide +kernel)⟩
theorem lw_p34 : lw_okq (⟨"TokenFloorModel", "switches", "(I)Z"⟩, 57) := ⟨⟨by decide +kernel, by decide +kernel⟩, List.mem_of_getElem? (i := 665) (by decide +kernel), List.mem_of_getElem? (i := 914) (by decide +kernel), List.mem_of_getElem? (i := 915) (by decide +kernel)⟩
theorem lw_p35 : lw_okq (⟨"TokenFloorModel", "kindAt", "(II)I"⟩, 57) := ⟨⟨by decide +kernel, by decide +kernel⟩, List.mem_of_getElem? (i := 665) (by decide +kernel), List.mem_of_getElem? (i := 918) (by decide +kernel), List.mem_of_getElem? (i := 919) (by decide +kernel)⟩
theorem lw_p36 : lw_okq (⟨"TokenFloorModel", "valueAt", "(II)I"⟩, 57) := ⟨⟨by decide +kernel, by decide +kernel⟩, List.mem_of_getElem? (i := 665) (by decide +kernel), List.mem_of_getElem? (i := 922) (by decide +kernel), List.mem_of_getElem? (i := 923) (by decide +kernel)⟩
theorem lw_p37 : lw_okq (⟨"TokenFloorModel", "loops", "(I)Z"⟩, 57) := ⟨⟨by decide +kernel, by decide +kernel⟩, List.mem_of_getElem? (i := 665) (by decide +kernel), List.mem_of_getElem? (i := 926) (by decide +kernel), List.mem_of_getElem? (i := 927) (by decide +kernel)⟩
theorem lw_p38 : lw_okq (⟨"TokenFloorModel", "faults", "(III)Z"⟩, 57) := ⟨⟨by decide +kernel, by decide +kernel⟩, List.mem_of_getElem? (i := 665) (by decide +kernel), List.mem_of_getElem? (i := 930) (by decide +kernel), List.mem_of_getElem? (i := 931) (by decide +kernel)⟩
theorem lw_p39 : lw_okq (⟨"TokenFloorModel", "calls", "(I)Z"⟩, 57) := ⟨⟨by decide +kernel, by decide +kernel⟩, List.mem_of_getElem? (i := 665) (by decide +kernel), List.mem_of_getElem? (i := 934) (by decide +kernel), List.mem_of_getElem? (i := 935) (by decide +kernel)⟩
theorem lw_p40 : lw_okq (⟨"TokenFloorModel", "returns", "(I)Z"⟩, 57) := ⟨⟨by decide +kernel, by decide +kernel⟩, List.mem_of_getElem? (i := 665) (by decide +kernel), List.mem_of_getElem? (i := 938) (by decide +kernel), List.mem_of_getElem? (i := 939) (by decide +kernel)⟩
theorem lw_p41 : lw_okq (⟨"TokenFloorModel", "ends", "(I)Z"⟩, 57) := ⟨⟨by decide +kernel, by decide +kernel⟩, List.mem_of_getElem? (i := 665) (by decide +kernel), List.mem_of_getElem? (i := 942) (by decide +kernel), List.mem_of_getElem? (i := 943) (by decide +kernel)⟩
theorem lw_p42 : lw_okq (⟨"TokenFloorModel", "faultOf", "(II)I"⟩, 57) := ⟨⟨by decide +kernel, by decide +kernel⟩, List.mem_of_getElem? (i := 665) (by decide +kernel), List.mem_of_getElem? (i := 946) (by decide +kernel), List.mem_of_getElem? (i := 947) (by decide +kernel)⟩
theorem lw_p43 : lw_okq (⟨"TokenFloorModel", "reckons", "(II)Z"⟩, 57) := ⟨⟨by decide +kernel, by decide +kernel⟩, List.mem_of_getElem? (i := 665) (by decide +kernel), List.mem_of_getElem? (i := 950) (by decide +kernel), List.mem_of_getElem? (i := 951) (by decide +kernel)⟩
theorem lw_p44 : lw_okq (⟨"TokenFloorModel", "makes", "(II)Z"⟩, 57) := ⟨⟨by decide +kernel, by decide +kernel⟩, List.mem_of_getElem? (i := 665) (by decide +kernel), List.mem_of_getElem? (i := 954) (by decide +kernel), List.mem_of_getElem? (i := 955) (by decide +kernel)⟩
theorem lw_p45 : lw_okq (⟨"TokenFloorModel", "cells", "(II)Z"⟩, 57) := ⟨⟨by decide +kernel, by decide +kernel⟩, List.mem_of_getElem? (i := 665) (by decide +kernel), List.mem_of_getElem? (i := 958) (by decide +kernel), List.mem_of_getElem? (i := 959) (by decide +kernel)⟩
theorem lw_p46 : lw_okq (⟨"TokenFloorModel", "left", "()I"⟩, 57) := ⟨⟨by decide +kernel, by decide +kernel⟩, List.mem_of_getElem? (i := 665) (by decide +kernel), List.mem_of_getElem? (i := 970) (by decide +kernel), List.mem_of_getElem? (i := 971) (by decide +kernel)⟩
theorem lw_p47 : lw_okq (⟨"TokenFloorModel", "waiting", "()I"⟩, 57) := ⟨⟨by decide +kernel, by decide +kernel⟩, List.mem_of_getElem? (i := 665) (by decide +kernel), List.mem_of_getElem? (i := 974) (by decide +kernel), List.mem_of_getElem? (i := 975) (by decide +kernel)⟩
def lw_privs_3 : List (MethodName × Nat) := [(⟨"TokenFloorModel", "gives", "(IIIIII)Z"⟩, 57), (⟨"TokenFloorModel", "number", "(II)Z"⟩, 57), (⟨"TokenFloorModel", "switches", "(I)Z"⟩, 57), (⟨"TokenFloorModel", "kindAt", "(II)I"⟩, 57), (⟨"TokenFloorModel", "valueAt", "(II)I"⟩, 57), (⟨"TokenFloorModel", "loops", "(I)Z"⟩, 57), (⟨"TokenFloorModel", "faults", "(III)Z"⟩, 57), (⟨"TokenFloorModel", "calls", "(I)Z"⟩, 57), (⟨"TokenFloorModel", "returns", "(I)Z"⟩, 57), (⟨"TokenFloorModel", "ends", "(I)Z"⟩, 57), (⟨"TokenFloorModel", "faultOf", "(II)I"⟩, 57), (⟨"TokenFloorModel", "reckons", "(II)Z"⟩, 57), (⟨"TokenFloorModel", "makes", "(II)Z"⟩, 57), (⟨"TokenFloorModel", "cells", "(II)Z"⟩, 57), (⟨"TokenFloorModel", "left", "()I"⟩, 57), (⟨"TokenFloorModel", "waiting", "()I"⟩, 57)]
theorem lw_r3 : ∀ q ∈ lw_privs_3, lw_okq q := List.forall_mem_cons.mpr ⟨lw_p32, List.forall_mem_cons.mpr ⟨lw_p33, List.forall_mem_cons.mpr ⟨lw_p34, List.forall_mem_cons.mpr ⟨lw_p35, List.forall_mem_cons.mpr ⟨lw_p36, List.forall_mem_cons.mpr ⟨lw_p37, List.forall_mem_cons.mpr ⟨lw_p38, List.forall_mem_cons.mpr ⟨lw_p39, List.forall_mem_cons.mpr ⟨lw_p40, List.forall_mem_cons.mpr ⟨lw_p41, List.forall_mem_cons.mpr ⟨lw_p42, List.forall_mem_cons.mpr ⟨lw_p43, List.forall_mem_cons.mpr ⟨lw_p44, List.forall_mem_cons.mpr ⟨lw_p45, List.forall_mem_cons.mpr ⟨lw_p46, List.forall_mem_cons.mpr ⟨lw_p47, fun _ h => absurd h List.not_mem_nil⟩⟩⟩⟩⟩⟩⟩⟩⟩⟩⟩⟩⟩⟩⟩⟩
theorem lw_p48 : lw_okq (⟨"TokenFloorModel", "told1", "(IIII)I"⟩, 57) := ⟨⟨by decide +kernel, by decide +kernel⟩, List.mem_of_getElem? (i := 665) (by decide +kernel), List.mem_of_getElem? (i := 982) (by decide +kernel), List.mem_of_getElem? (i := 983) (by decide +kernel)⟩
theorem lw_p49 : lw_okq (⟨"TokenFloorModel", "notes", "([I)V"⟩, 57) := ⟨⟨by decide +kernel, by decide +kernel⟩, List.mem_of_getElem? (i := 665) (by decide +kernel), List.mem_of_getElem? (i := 1003) (by decide +kernel), List.mem_of_getElem? (i := 1004) (by decide +kernel)⟩
def lw_privs_4 : List (MethodName × Nat) := [(⟨"TokenFloorModel", "told1", "(IIII)I"⟩, 57), (⟨"TokenFloorModel", "notes", "([I)V"⟩, 57)]
theorem lw_r4 : ∀ q ∈ lw_privs_4, lw_okq q := List.forall_mem_cons.mpr ⟨lw_p48, List.forall_mem_cons.mpr ⟨lw_p49, fun _ h => absurd h List.not_mem_nil⟩⟩
def lw_privs : List (MethodName × Nat) := lw_privs_1 ++ (lw_privs_2 ++ (lw_privs_3 ++ (lw_privs_4)))
def lw_tbl : List Cond := k2_sels lw_privs ++ tables_1
theorem lw_privs_ok : ∀ q ∈ lw_privs, lw_okq q := by
  show ∀ q ∈ lw_privs_1 ++ (lw_privs_2 ++ (lw_privs_3 ++ (lw_privs_4))), lw_okq q
  exact List.forall_mem_append.mpr ⟨lw_r1, List.forall_mem_append.mpr ⟨lw_r2, List.forall_mem_append.mpr ⟨lw_r3, lw_r4⟩⟩⟩
-- ===== end of PART A; then your names; then what follows =====
end
section
/-! ===== BEGIN words of one list among another's, by their places ===== -/
theorem goodIn_r {big : List Cond} (ws : List Cond) (ps : List Nat) (hp : ws = ps.filterMap (fun i => big[i]?)) (h : ws.all goodWord = true) : GoodIn big ws := by
  intro w hw
  have h1 := List.all_eq_true.mp h w hw
  rw [hp] at hw
  obtain ⟨i, -, hi⟩ := List.mem_filterMap.mp hw
  have hm : w ∈ big := by first | exact List.mem_of_getElem? hi | exact List.getElem?_mem hi
  exact ⟨hm, good_of_word h1⟩
theorem goodIn_app {big a b : List Cond} (ha : GoodIn big a) (hb : GoodIn big b) : GoodIn big (a ++ b) := fun w h => (List.mem_append.mp h).elim (ha w) (hb w)
theorem goodIn_ca {big a b : List Cond} {c : Cond} (ha : GoodIn big (c :: a)) (hb : GoodIn big b) : GoodIn big (c :: (a ++ b)) := fun w h => (List.mem_cons.mp h).elim (fun e => ha w (List.mem_cons.mpr (Or.inl e))) (fun h => (List.mem_append.mp h).elim (fun h => ha w (List.mem_cons.mpr (Or.inr h))) (hb w))
theorem goodIn_sub {big ws : List Cond} (hm : ∀ w ∈ ws, w ∈ big) (h : ws.all goodWord = true) : GoodIn big ws := fun w hw => ⟨hm w hw, good_of_word (List.all_eq_true.mp h w hw)⟩
/-! ===== END ===== -/

/-! ===== BEGIN printed: names, fields, word lists, decode rows ===== -/
def RX0 : String := "TokenFloor$Colours"
def TX0 : u_T := fun k => match k with
  | 0 => ("TokenFloor$Colours", "count", "I", false)
  | 1 => ("TokenFloor$Colours", "origin", "[I", true)
  | 2 => ("TokenFloor$Colours", "outer", "[I", true)
  | 3 => ("TokenFloor$Colours", "key", "[I", true)
  | 4 => ("TokenFloor$Colours", "firstReached", "[I", true)
  | _ => ("TokenFloor$Colours", "nextReached", "[I", true)
def tyX0 : Nat → FieldType := fun k => match k with
  | 0 => .int
  | 1 => .array .int
  | 2 => .array .int
  | 3 => .array .int
  | 4 => .array .int
  | _ => .array .int
abbrev wsX00 : List Cond := u_ws RX0 TX0 6
theorem nmX0 : ∀ a, a < 6 → ∀ b, b < 6 → a ≠ b → (TX0 a).2.1 ≠ (TX0 b).2.1 := by decide +kernel
theorem tyX0_ok : ∀ k, k < 6 → parseFieldDescriptor (TX0 k).2.2.1 = some (tyX0 k) := by decide +kernel
abbrev cX0_init : ByteArray := prog_2_method_1_code
def yX0_init : MethodName := ⟨RX0, "<init>", "()V"⟩
abbrev cX0_reset : ByteArray := prog_2_method_2_code
def yX0_reset : MethodName := ⟨RX0, "reset", "()V"⟩
abbrev cX0_enter : ByteArray := prog_2_method_3_code
def yX0_enter : MethodName := ⟨RX0, "enter", "(II)I"⟩
abbrev cX0_nextTurn : ByteArray := prog_2_method_4_code
def yX0_nextTurn : MethodName := ⟨RX0, "nextTurn", "(I)I"⟩
abbrev cX0_callBy : ByteArray := prog_2_method_5_code
def yX0_callBy : MethodName := ⟨RX0, "callBy", "(II)I"⟩
abbrev cX0_isTurnOf : ByteArray := prog_2_method_6_code
def yX0_isTurnOf : MethodName := ⟨RX0, "isTurnOf", "(II)Z"⟩
abbrev cX0_outerOf : ByteArray := prog_2_method_7_code
def yX0_outerOf : MethodName := ⟨RX0, "outerOf", "(I)I"⟩
abbrev cX0_callerOf : ByteArray := prog_2_method_8_code
def yX0_callerOf : MethodName := ⟨RX0, "callerOf", "(I)I"⟩
abbrev cX0_reach : ByteArray := prog_2_method_9_code
def yX0_reach : MethodName := ⟨RX0, "reach", "(IIII)I"⟩
abbrev cX0_add : ByteArray := prog_2_method_10_code
def yX0_add : MethodName := ⟨RX0, "add", "(III)I"⟩
def RX1 : String := "TokenFloor$Floor"
def TX1 : u_T := fun k => match k with
  | 0 => ("TokenFloor$Floor", "left", "I", false)
  | 1 => ("TokenFloor$Floor", "actOf", "[I", true)
  | 2 => ("TokenFloor$Floor", "colourOf", "[I", true)
  | 3 => ("TokenFloor$Floor", "count", "I", false)
  | 4 => ("TokenFloor$Floor", "had", "[I", true)
  | 5 => ("TokenFloor$Floor", "came", "[J", true)
  | 6 => ("TokenFloor$Floor", "firstPair", "[I", true)
  | _ => ("TokenFloor$Floor", "nextPair", "[I", true)
def tyX1 : Nat → FieldType := fun k => match k with
  | 0 => .int
  | 1 => .array .int
  | 2 => .array .int
  | 3 => .int
  | 4 => .array .int
  | 5 => .array .long
  | 6 => .array .int
  | _ => .array .int
abbrev wsX10 : List Cond := u_ws RX1 TX1 8
theorem nmX1 : ∀ a, a < 8 → ∀ b, b < 8 → a ≠ b → (TX1 a).2.1 ≠ (TX1 b).2.1 := by decide +kernel
theorem tyX1_ok : ∀ k, k < 8 → parseFieldDescriptor (TX1 k).2.2.1 = some (tyX1 k) := by decide +kernel
abbrev cX1_init : ByteArray := prog_3_method_1_code
def yX1_init : MethodName := ⟨RX1, "<init>", "()V"⟩
abbrev cX1_reset : ByteArray := prog_3_method_2_code
def yX1_reset : MethodName := ⟨RX1, "reset", "()V"⟩
abbrev cX1_find : ByteArray := prog_3_method_3_code
def yX1_find : MethodName := ⟨RX1, "find", "(II)I"⟩
abbrev cX1_add : ByteArray := prog_3_method_4_code
def yX1_add : MethodName := ⟨RX1, "add", "(II)I"⟩
abbrev cX1_hadToken : ByteArray := prog_3_method_5_code
def yX1_hadToken : MethodName := ⟨RX1, "hadToken", "(II)Z"⟩
abbrev cX1_put : ByteArray := prog_3_method_6_code
def yX1_put : MethodName := ⟨RX1, "put", "(IIJI)Z"⟩
abbrev cX1_cameTo : ByteArray := prog_3_method_7_code
def yX1_cameTo : MethodName := ⟨RX1, "cameTo", "(II)J"⟩
def RX2 : String := "TokenFloor$Graph"
def TX2 : u_T := fun k => match k with
  | 0 => ("TokenFloor$Graph", "acts", "I", false)
  | 1 => ("TokenFloor$Graph", "kind", "[I", true)
  | 2 => ("TokenFloor$Graph", "number", "[I", true)
  | 3 => ("TokenFloor$Graph", "ports", "[I", true)
  | 4 => ("TokenFloor$Graph", "parameter", "[I", true)
  | 5 => ("TokenFloor$Graph", "ways", "I", false)
  | 6 => ("TokenFloor$Graph", "wayTo", "[I", true)
  | 7 => ("TokenFloor$Graph", "wayPort", "[I", true)
  | 8 => ("TokenFloor$Graph", "nextWay", "[I", true)
  | 9 => ("TokenFloor$Graph", "firstWay", "[I", true)
  | 10 => ("TokenFloor$Graph", "lastWay", "[I", true)
  | 11 => ("TokenFloor$Graph", "tokens", "I", false)
  | 12 => ("TokenFloor$Graph", "tokenAct", "[I", true)
  | 13 => ("TokenFloor$Graph", "tokenPort", "[I", true)
  | _ => ("TokenFloor$Graph", "tokenValue", "[I", true)
def tyX2 : Nat → FieldType := fun k => match k with
  | 0 => .int
  | 1 => .array .int
  | 2 => .array .int
  | 3 => .array .int
  | 4 => .array .int
  | 5 => .int
  | 6 => .array .int
  | 7 => .array .int
  | 8 => .array .int
  | 9 => .array .int
  | 10 => .array .int
  | 11 => .int
  | 12 => .array .int
  | 13 => .array .int
  | _ => .array .int
abbrev wsX20 : List Cond := u_ws RX2 TX2 15
theorem nmX2 : ∀ a, a < 15 → ∀ b, b < 15 → a ≠ b → (TX2 a).2.1 ≠ (TX2 b).2.1 := by decide +kernel
theorem tyX2_ok : ∀ k, k < 15 → parseFieldDescriptor (TX2 k).2.2.1 = some (tyX2 k) := by decide +kernel
abbrev cX2_init : ByteArray := prog_4_method_1_code
def yX2_init : MethodName := ⟨RX2, "<init>", "()V"⟩
abbrev cX2_hasAct : ByteArray := prog_4_method_2_code
def yX2_hasAct : MethodName := ⟨RX2, "hasAct", "(I)Z"⟩
abbrev cX2_hasPort : ByteArray := prog_4_method_3_code
def yX2_hasPort : MethodName := ⟨RX2, "hasPort", "(II)Z"⟩
abbrev cX2_addAct : ByteArray := prog_4_method_4_code
def yX2_addAct : MethodName := ⟨RX2, "addAct", "(III)I"⟩
abbrev cX2_addWay : ByteArray := prog_4_method_5_code
def yX2_addWay : MethodName := ⟨RX2, "addWay", "(IIII)I"⟩
abbrev cX2_addToken : ByteArray := prog_4_method_6_code
def yX2_addToken : MethodName := ⟨RX2, "addToken", "(III)I"⟩
abbrev cX2_dropTokens : ByteArray := prog_4_method_7_code
def yX2_dropTokens : MethodName := ⟨RX2, "dropTokens", "()V"⟩
abbrev cX2_dropWays : ByteArray := prog_4_method_8_code
def yX2_dropWays : MethodName := ⟨RX2, "dropWays", "()V"⟩
abbrev cX2_dropActs : ByteArray := prog_4_method_9_code
def yX2_dropActs : MethodName := ⟨RX2, "dropActs", "()V"⟩
abbrev cX2_firstWayOf : ByteArray := prog_4_method_10_code
def yX2_firstWayOf : MethodName := ⟨RX2, "firstWayOf", "(II)I"⟩
abbrev cX2_countWays : ByteArray := prog_4_method_11_code
def yX2_countWays : MethodName := ⟨RX2, "countWays", "(II)I"⟩
abbrev cX2_countTokens : ByteArray := prog_4_method_12_code
def yX2_countTokens : MethodName := ⟨RX2, "countTokens", "(I)I"⟩
abbrev cX2_parameterFor : ByteArray := prog_4_method_13_code
def yX2_parameterFor : MethodName := ⟨RX2, "parameterFor", "(II)I"⟩
def RX3 : String := "TokenFloor$Kind"
def TX3 : u_T := fun k => match k with
  | _ => ("", "", "", false)
def tyX3 : Nat → FieldType := fun k => match k with
  | _ => .int
abbrev wsX30 : List Cond := u_ws RX3 TX3 0
theorem nmX3 : ∀ a, a < 0 → ∀ b, b < 0 → a ≠ b → (TX3 a).2.1 ≠ (TX3 b).2.1 := by decide +kernel
theorem tyX3_ok : ∀ k, k < 0 → parseFieldDescriptor (TX3 k).2.2.1 = some (tyX3 k) := by decide +kernel
abbrev cX3_exists : ByteArray := prog_5_method_2_code
def yX3_exists : MethodName := ⟨RX3, "exists", "(I)Z"⟩
abbrev cX3_allowsNumber : ByteArray := prog_5_method_3_code
def yX3_allowsNumber : MethodName := ⟨RX3, "allowsNumber", "(II)Z"⟩
abbrev cX3_allowsPorts : ByteArray := prog_5_method_4_code
def yX3_allowsPorts : MethodName := ⟨RX3, "allowsPorts", "(II)Z"⟩
abbrev cX3_portsOf : ByteArray := prog_5_method_5_code
def yX3_portsOf : MethodName := ⟨RX3, "portsOf", "(II)I"⟩
abbrev cX3_hasSide : ByteArray := prog_5_method_6_code
def yX3_hasSide : MethodName := ⟨RX3, "hasSide", "(II)Z"⟩
def RX4 : String := "TokenFloor$Machine"
def TX4 : u_T := fun k => match k with
  | 0 => ("TokenFloor$Machine", "store", "LTokenFloor$Store;", true)
  | 1 => ("TokenFloor$Machine", "firings", "[I", true)
  | 2 => ("TokenFloor$Machine", "ends", "[J", true)
  | 3 => ("TokenFloor$Machine", "graph", "LTokenFloor$Graph;", true)
  | 4 => ("TokenFloor$Machine", "colours", "LTokenFloor$Colours;", true)
  | 5 => ("TokenFloor$Machine", "floor", "LTokenFloor$Floor;", true)
  | 6 => ("TokenFloor$Machine", "ready", "LTokenFloor$ReadyRow;", true)
  | 7 => ("TokenFloor$Machine", "how", "I", false)
  | 8 => ("TokenFloor$Machine", "steps", "I", false)
  | 9 => ("TokenFloor$Machine", "tickCount", "I", false)
  | 10 => ("TokenFloor$Machine", "most", "I", false)
  | 11 => ("TokenFloor$Machine", "lost", "I", false)
  | 12 => ("TokenFloor$Machine", "strays", "I", false)
  | _ => ("TokenFloor$Machine", "clashAct", "I", false)
def tyX4 : Nat → FieldType := fun k => match k with
  | 0 => .object "TokenFloor$Store"
  | 1 => .array .int
  | 2 => .array .long
  | 3 => .object "TokenFloor$Graph"
  | 4 => .object "TokenFloor$Colours"
  | 5 => .object "TokenFloor$Floor"
  | 6 => .object "TokenFloor$ReadyRow"
  | 7 => .int
  | 8 => .int
  | 9 => .int
  | 10 => .int
  | 11 => .int
  | 12 => .int
  | _ => .int
abbrev wsX40 : List Cond := u_ws RX4 TX4 14
theorem nmX4 : ∀ a, a < 14 → ∀ b, b < 14 → a ≠ b → (TX4 a).2.1 ≠ (TX4 b).2.1 := by decide +kernel
theorem tyX4_ok : ∀ k, k < 14 → parseFieldDescriptor (TX4 k).2.2.1 = some (tyX4 k) := by decide +kernel
abbrev cX4_init : ByteArray := prog_6_method_1_code
def yX4_init : MethodName := ⟨RX4, "<init>", "(LTokenFloor$Graph;)V"⟩
abbrev cX4_goBySeed : ByteArray := prog_6_method_2_code
def yX4_goBySeed : MethodName := ⟨RX4, "goBySeed", "(II)I"⟩
abbrev cX4_goByTicks : ByteArray := prog_6_method_3_code
def yX4_goByTicks : MethodName := ⟨RX4, "goByTicks", "(I)I"⟩
abbrev cX4_figure : ByteArray := prog_6_method_4_code
def yX4_figure : MethodName := ⟨RX4, "figure", "(I)I"⟩
abbrev cX4_describe : ByteArray := prog_6_method_5_code
def yX4_describe : MethodName := ⟨RX4, "describe", "(JI)I"⟩
abbrev cX4_copyFigures : ByteArray := prog_6_method_6_code
def yX4_copyFigures : MethodName := ⟨RX4, "copyFigures", "([J)V"⟩
abbrev cX4_comparable : ByteArray := prog_6_method_7_code
def yX4_comparable : MethodName := ⟨RX4, "comparable", "(J)J"⟩
abbrev cX4_begin : ByteArray := prog_6_method_8_code
def yX4_begin : MethodName := ⟨RX4, "begin", "()V"⟩
abbrev cX4_mayStep : ByteArray := prog_6_method_9_code
def yX4_mayStep : MethodName := ⟨RX4, "mayStep", "(I)Z"⟩
abbrev cX4_goTick : ByteArray := prog_6_method_10_code
def yX4_goTick : MethodName := ⟨RX4, "goTick", "(I)V"⟩
abbrev cX4_goOff : ByteArray := prog_6_method_11_code
def yX4_goOff : MethodName := ⟨RX4, "goOff", "(I)V"⟩
abbrev cX4_plainResult : ByteArray := prog_6_method_12_code
def yX4_plainResult : MethodName := ⟨RX4, "plainResult", "(IIJ)J"⟩
abbrev cX4_goSwitch : ByteArray := prog_6_method_13_code
def yX4_goSwitch : MethodName := ⟨RX4, "goSwitch", "(IIJJ)V"⟩
abbrev cX4_goTurn : ByteArray := prog_6_method_14_code
def yX4_goTurn : MethodName := ⟨RX4, "goTurn", "(IIJ)V"⟩
abbrev cX4_goCall : ByteArray := prog_6_method_15_code
def yX4_goCall : MethodName := ⟨RX4, "goCall", "(III)V"⟩
abbrev cX4_goReturn : ByteArray := prog_6_method_16_code
def yX4_goReturn : MethodName := ⟨RX4, "goReturn", "(IJ)V"⟩
abbrev cX4_goMake : ByteArray := prog_6_method_17_code
def yX4_goMake : MethodName := ⟨RX4, "goMake", "(IIJ)V"⟩
abbrev cX4_goRead : ByteArray := prog_6_method_18_code
def yX4_goRead : MethodName := ⟨RX4, "goRead", "(III)V"⟩
abbrev cX4_goWrite : ByteArray := prog_6_method_19_code
def yX4_goWrite : MethodName := ⟨RX4, "goWrite", "(III)V"⟩
abbrev cX4_refuseCell : ByteArray := prog_6_method_20_code
def yX4_refuseCell : MethodName := ⟨RX4, "refuseCell", "(III)J"⟩
abbrev cX4_placeAsked : ByteArray := prog_6_method_21_code
def yX4_placeAsked : MethodName := ⟨RX4, "placeAsked", "(I)I"⟩
abbrev cX4_goEnd : ByteArray := prog_6_method_22_code
def yX4_goEnd : MethodName := ⟨RX4, "goEnd", "(IIJ)V"⟩
abbrev cX4_clashAt : ByteArray := prog_6_method_23_code
def yX4_clashAt : MethodName := ⟨RX4, "clashAt", "(I)V"⟩
abbrev cX4_giveInside : ByteArray := prog_6_method_24_code
def yX4_giveInside : MethodName := ⟨RX4, "giveInside", "(IIJ)V"⟩
abbrev cX4_give : ByteArray := prog_6_method_25_code
def yX4_give : MethodName := ⟨RX4, "give", "(IIIJ)V"⟩
abbrev cX4_arrive : ByteArray := prog_6_method_26_code
def yX4_arrive : MethodName := ⟨RX4, "arrive", "(IIIJ)V"⟩
def RX5 : String := "TokenFloor$ReadyRow"
def TX5 : u_T := fun k => match k with
  | 0 => ("TokenFloor$ReadyRow", "row", "[I", true)
  | 1 => ("TokenFloor$ReadyRow", "head", "I", false)
  | _ => ("TokenFloor$ReadyRow", "tail", "I", false)
def tyX5 : Nat → FieldType := fun k => match k with
  | 0 => .array .int
  | 1 => .int
  | _ => .int
abbrev wsX50 : List Cond := u_ws RX5 TX5 3
theorem nmX5 : ∀ a, a < 3 → ∀ b, b < 3 → a ≠ b → (TX5 a).2.1 ≠ (TX5 b).2.1 := by decide +kernel
theorem tyX5_ok : ∀ k, k < 3 → parseFieldDescriptor (TX5 k).2.2.1 = some (tyX5 k) := by decide +kernel
abbrev cX5_init : ByteArray := prog_7_method_1_code
def yX5_init : MethodName := ⟨RX5, "<init>", "()V"⟩
abbrev cX5_reset : ByteArray := prog_7_method_2_code
def yX5_reset : MethodName := ⟨RX5, "reset", "()V"⟩
abbrev cX5_size : ByteArray := prog_7_method_3_code
def yX5_size : MethodName := ⟨RX5, "size", "()I"⟩
abbrev cX5_add : ByteArray := prog_7_method_4_code
def yX5_add : MethodName := ⟨RX5, "add", "(I)V"⟩
abbrev cX5_take : ByteArray := prog_7_method_5_code
def yX5_take : MethodName := ⟨RX5, "take", "(I)I"⟩
def RX6 : String := "TokenFloor$Store"
def TX6 : u_T := fun k => match k with
  | 0 => ("TokenFloor$Store", "waiting", "I", false)
  | 1 => ("TokenFloor$Store", "rowOfAct", "[I", true)
  | 2 => ("TokenFloor$Store", "written", "[J", true)
  | 3 => ("TokenFloor$Store", "rows", "I", false)
  | 4 => ("TokenFloor$Store", "cells", "I", false)
  | 5 => ("TokenFloor$Store", "start", "[I", true)
  | 6 => ("TokenFloor$Store", "size", "[I", true)
  | 7 => ("TokenFloor$Store", "firstReader", "[I", true)
  | 8 => ("TokenFloor$Store", "lastReader", "[I", true)
  | _ => ("TokenFloor$Store", "nextReader", "[I", true)
def tyX6 : Nat → FieldType := fun k => match k with
  | 0 => .int
  | 1 => .array .int
  | 2 => .array .long
  | 3 => .int
  | 4 => .int
  | 5 => .array .int
  | 6 => .array .int
  | 7 => .array .int
  | 8 => .array .int
  | _ => .array .int
abbrev wsX60 : List Cond := u_ws RX6 TX6 10
theorem nmX6 : ∀ a, a < 10 → ∀ b, b < 10 → a ≠ b → (TX6 a).2.1 ≠ (TX6 b).2.1 := by decide +kernel
theorem tyX6_ok : ∀ k, k < 10 → parseFieldDescriptor (TX6 k).2.2.1 = some (tyX6 k) := by decide +kernel
abbrev cX6_init : ByteArray := prog_8_method_1_code
def yX6_init : MethodName := ⟨RX6, "<init>", "()V"⟩
abbrev cX6_reset : ByteArray := prog_8_method_2_code
def yX6_reset : MethodName := ⟨RX6, "reset", "()V"⟩
abbrev cX6_make : ByteArray := prog_8_method_3_code
def yX6_make : MethodName := ⟨RX6, "make", "(I)I"⟩
abbrev cX6_sizeOf : ByteArray := prog_8_method_4_code
def yX6_sizeOf : MethodName := ⟨RX6, "sizeOf", "(I)I"⟩
abbrev cX6_placeIn : ByteArray := prog_8_method_5_code
def yX6_placeIn : MethodName := ⟨RX6, "placeIn", "(II)I"⟩
abbrev cX6_addReader : ByteArray := prog_8_method_6_code
def yX6_addReader : MethodName := ⟨RX6, "addReader", "(II)V"⟩
abbrev cX6_takeReader : ByteArray := prog_8_method_7_code
def yX6_takeReader : MethodName := ⟨RX6, "takeReader", "(I)I"⟩
def RX7 : String := "TokenFloor$Sums"
def TX7 : u_T := fun k => match k with
  | _ => ("", "", "", false)
def tyX7 : Nat → FieldType := fun k => match k with
  | _ => .int
abbrev wsX70 : List Cond := u_ws RX7 TX7 0
theorem nmX7 : ∀ a, a < 0 → ∀ b, b < 0 → a ≠ b → (TX7 a).2.1 ≠ (TX7 b).2.1 := by decide +kernel
theorem tyX7_ok : ∀ k, k < 0 → parseFieldDescriptor (TX7 k).2.2.1 = some (tyX7 k) := by decide +kernel
abbrev cX7_ofTwo : ByteArray := prog_9_method_2_code
def yX7_ofTwo : MethodName := ⟨RX7, "ofTwo", "(IIJJ)J"⟩
abbrev cX7_not : ByteArray := prog_9_method_3_code
def yX7_not : MethodName := ⟨RX7, "not", "(IJ)J"⟩
def RX8 : String := "TokenFloor$Value"
def TX8 : u_T := fun k => match k with
  | _ => ("", "", "", false)
def tyX8 : Nat → FieldType := fun k => match k with
  | _ => .int
abbrev wsX80 : List Cond := u_ws RX8 TX8 0
theorem nmX8 : ∀ a, a < 0 → ∀ b, b < 0 → a ≠ b → (TX8 a).2.1 ≠ (TX8 b).2.1 := by decide +kernel
theorem tyX8_ok : ∀ k, k < 0 → parseFieldDescriptor (TX8 k).2.2.1 = some (tyX8 k) := by decide +kernel
abbrev cX8_ofNumber : ByteArray := prog_10_method_2_code
def yX8_ofNumber : MethodName := ⟨RX8, "ofNumber", "(I)J"⟩
abbrev cX8_ofTruth : ByteArray := prog_10_method_3_code
def yX8_ofTruth : MethodName := ⟨RX8, "ofTruth", "(Z)J"⟩
abbrev cX8_ofRow : ByteArray := prog_10_method_4_code
def yX8_ofRow : MethodName := ⟨RX8, "ofRow", "(I)J"⟩
abbrev cX8_ofFault : ByteArray := prog_10_method_5_code
def yX8_ofFault : MethodName := ⟨RX8, "ofFault", "(II)J"⟩
abbrev cX8_sortOf : ByteArray := prog_10_method_6_code
def yX8_sortOf : MethodName := ⟨RX8, "sortOf", "(J)I"⟩
abbrev cX8_contentOf : ByteArray := prog_10_method_7_code
def yX8_contentOf : MethodName := ⟨RX8, "contentOf", "(J)I"⟩
abbrev cX8_actOf : ByteArray := prog_10_method_8_code
def yX8_actOf : MethodName := ⟨RX8, "actOf", "(J)I"⟩
abbrev cX8_refuse : ByteArray := prog_10_method_9_code
def yX8_refuse : MethodName := ⟨RX8, "refuse", "(IJI)J"⟩
abbrev cX8_refuseTwo : ByteArray := prog_10_method_10_code
def yX8_refuseTwo : MethodName := ⟨RX8, "refuseTwo", "(IJIJI)J"⟩
def RX9 : String := "TokenFloor"
def TX9 : u_T := fun k => match k with
  | 0 => ("TokenFloor", "graph", "LTokenFloor$Graph;", true)
  | 1 => ("TokenFloor", "machine", "LTokenFloor$Machine;", true)
  | 2 => ("TokenFloor", "figuresA", "[J", true)
  | 3 => ("TokenFloor", "figuresB", "[J", true)
  | _ => ("TokenFloor", "hasRun", "Z", false)
def tyX9 : Nat → FieldType := fun k => match k with
  | 0 => .object "TokenFloor$Graph"
  | 1 => .object "TokenFloor$Machine"
  | 2 => .array .long
  | 3 => .array .long
  | _ => .boolean
abbrev wsX90 : List Cond := u_ws RX9 TX9 5
theorem nmX9 : ∀ a, a < 5 → ∀ b, b < 5 → a ≠ b → (TX9 a).2.1 ≠ (TX9 b).2.1 := by decide +kernel
theorem tyX9_ok : ∀ k, k < 5 → parseFieldDescriptor (TX9 k).2.2.1 = some (tyX9 k) := by decide +kernel
abbrev cX9_init : ByteArray := prog_1_method_1_code
def yX9_init : MethodName := ⟨RX9, "<init>", "()V"⟩
abbrev cX9_act : ByteArray := prog_1_method_2_code
def yX9_act : MethodName := ⟨RX9, "act", "(III)I"⟩
abbrev cX9_way : ByteArray := prog_1_method_3_code
def yX9_way : MethodName := ⟨RX9, "way", "(IIII)I"⟩
abbrev cX9_token : ByteArray := prog_1_method_4_code
def yX9_token : MethodName := ⟨RX9, "token", "(III)I"⟩
abbrev cX9_clear : ByteArray := prog_1_method_5_code
def yX9_clear : MethodName := ⟨RX9, "clear", "(I)Z"⟩
abbrev cX9_run : ByteArray := prog_1_method_6_code
def yX9_run : MethodName := ⟨RX9, "run", "(II)I"⟩
abbrev cX9_ticks : ByteArray := prog_1_method_7_code
def yX9_ticks : MethodName := ⟨RX9, "ticks", "(I)I"⟩
abbrev cX9_about : ByteArray := prog_1_method_8_code
def yX9_about : MethodName := ⟨RX9, "about", "(I)I"⟩
abbrev cX9_end : ByteArray := prog_1_method_9_code
def yX9_end : MethodName := ⟨RX9, "end", "(II)I"⟩
abbrev cX9_fired : ByteArray := prog_1_method_10_code
def yX9_fired : MethodName := ⟨RX9, "fired", "(I)I"⟩
abbrev cX9_cell : ByteArray := prog_1_method_11_code
def yX9_cell : MethodName := ⟨RX9, "cell", "(III)I"⟩
abbrev cX9_told : ByteArray := prog_1_method_12_code
def yX9_told : MethodName := ⟨RX9, "told", "(II)I"⟩
abbrev cX9_beside : ByteArray := prog_1_method_13_code
def yX9_beside : MethodName := ⟨RX9, "beside", "(III)I"⟩
abbrev cX9_isFuel : ByteArray := prog_1_method_14_code
def yX9_isFuel : MethodName := ⟨RX9, "isFuel", "(I)Z"⟩
abbrev cX9_firstDifference : ByteArray := prog_1_method_15_code
def yX9_firstDifference : MethodName := ⟨RX9, "firstDifference", "()I"⟩
def RX10 : String := "TokenFloorModel"
def TX10 : u_T := fun k => match k with
  | 0 => ("TokenFloorModel", "kind", "[I", true)
  | 1 => ("TokenFloorModel", "own", "[I", true)
  | 2 => ("TokenFloorModel", "ports", "[I", true)
  | 3 => ("TokenFloorModel", "wayFrom", "[I", true)
  | 4 => ("TokenFloorModel", "waySide", "[I", true)
  | 5 => ("TokenFloorModel", "wayTo", "[I", true)
  | 6 => ("TokenFloorModel", "wayPort", "[I", true)
  | 7 => ("TokenFloorModel", "tokenAct", "[I", true)
  | 8 => ("TokenFloorModel", "tokenPort", "[I", true)
  | 9 => ("TokenFloorModel", "tokenValue", "[I", true)
  | 10 => ("TokenFloorModel", "acts", "I", false)
  | 11 => ("TokenFloorModel", "ways", "I", false)
  | 12 => ("TokenFloorModel", "tokens", "I", false)
  | 13 => ("TokenFloorModel", "isRun", "Z", false)
  | 14 => ("TokenFloorModel", "isStopped", "Z", false)
  | 15 => ("TokenFloorModel", "how", "I", false)
  | 16 => ("TokenFloorModel", "steps", "I", false)
  | 17 => ("TokenFloorModel", "ticked", "I", false)
  | 18 => ("TokenFloorModel", "most", "I", false)
  | 19 => ("TokenFloorModel", "lost", "I", false)
  | 20 => ("TokenFloorModel", "strays", "I", false)
  | 21 => ("TokenFloorModel", "clash", "I", false)
  | 22 => ("TokenFloorModel", "cSort", "[I", true)
  | 23 => ("TokenFloorModel", "cOf", "[I", true)
  | 24 => ("TokenFloorModel", "cTurn", "[I", true)
  | 25 => ("TokenFloorModel", "cIn", "[I", true)
  | 26 => ("TokenFloorModel", "colours", "I", false)
  | 27 => ("TokenFloorModel", "pAct", "[I", true)
  | 28 => ("TokenFloorModel", "pColour", "[I", true)
  | 29 => ("TokenFloorModel", "pHas", "[I", true)
  | 30 => ("TokenFloorModel", "pHow", "[I", true)
  | 31 => ("TokenFloorModel", "pNext", "[I", true)
  | 32 => ("TokenFloorModel", "pKind", "[I", true)
  | 33 => ("TokenFloorModel", "pValue", "[I", true)
  | 34 => ("TokenFloorModel", "pOf", "[I", true)
  | 35 => ("TokenFloorModel", "first", "[I", true)
  | 36 => ("TokenFloorModel", "fired", "[I", true)
  | 37 => ("TokenFloorModel", "pairs", "I", false)
  | 38 => ("TokenFloorModel", "ready", "[I", true)
  | 39 => ("TokenFloorModel", "readyMany", "I", false)
  | 40 => ("TokenFloorModel", "rFrom", "[I", true)
  | 41 => ("TokenFloorModel", "rSize", "[I", true)
  | 42 => ("TokenFloorModel", "rAct", "[I", true)
  | 43 => ("TokenFloorModel", "rColour", "[I", true)
  | 44 => ("TokenFloorModel", "cellKind", "[I", true)
  | 45 => ("TokenFloorModel", "cellValue", "[I", true)
  | 46 => ("TokenFloorModel", "cellOf", "[I", true)
  | 47 => ("TokenFloorModel", "rows", "I", false)
  | 48 => ("TokenFloorModel", "cells", "I", false)
  | 49 => ("TokenFloorModel", "readCell", "[I", true)
  | 50 => ("TokenFloorModel", "readPair", "[I", true)
  | 51 => ("TokenFloorModel", "readers", "I", false)
  | 52 => ("TokenFloorModel", "endKind", "[I", true)
  | 53 => ("TokenFloorModel", "endValue", "[I", true)
  | 54 => ("TokenFloorModel", "endOf", "[I", true)
  | 55 => ("TokenFloorModel", "was", "[I", true)
  | _ => ("TokenFloorModel", "is", "[I", true)
def tyX10 : Nat → FieldType := fun k => match k with
  | 0 => .array .int
  | 1 => .array .int
  | 2 => .array .int
  | 3 => .array .int
  | 4 => .array .int
  | 5 => .array .int
  | 6 => .array .int
  | 7 => .array .int
  | 8 => .array .int
  | 9 => .array .int
  | 10 => .int
  | 11 => .int
  | 12 => .int
  | 13 => .boolean
  | 14 => .boolean
  | 15 => .int
  | 16 => .int
  | 17 => .int
  | 18 => .int
  | 19 => .int
  | 20 => .int
  | 21 => .int
  | 22 => .array .int
  | 23 => .array .int
  | 24 => .array .int
  | 25 => .array .int
  | 26 => .int
  | 27 => .array .int
  | 28 => .array .int
  | 29 => .array .int
  | 30 => .array .int
  | 31 => .array .int
  | 32 => .array .int
  | 33 => .array .int
  | 34 => .array .int
  | 35 => .array .int
  | 36 => .array .int
  | 37 => .int
  | 38 => .array .int
  | 39 => .int
  | 40 => .array .int
  | 41 => .array .int
  | 42 => .array .int
  | 43 => .array .int
  | 44 => .array .int
  | 45 => .array .int
  | 46 => .array .int
  | 47 => .int
  | 48 => .int
  | 49 => .array .int
  | 50 => .array .int
  | 51 => .int
  | 52 => .array .int
  | 53 => .array .int
  | 54 => .array .int
  | 55 => .array .int
  | _ => .array .int
abbrev wsX100 : List Cond := u_ws RX10 TX10 57
theorem nmX10 : ∀ a, a < 57 → ∀ b, b < 57 → a ≠ b → (TX10 a).2.1 ≠ (TX10 b).2.1 := by decide +kernel
theorem tyX10_ok : ∀ k, k < 57 → parseFieldDescriptor (TX10 k).2.2.1 = some (tyX10 k) := by decide +kernel
abbrev cX10_init : ByteArray := prog_12_method_1_code
def yX10_init : MethodName := ⟨RX10, "<init>", "()V"⟩
abbrev cX10_in : ByteArray := prog_12_method_2_code
def yX10_in : MethodName := ⟨RX10, "in", "(III)Z"⟩
abbrev cX10_isAct : ByteArray := prog_12_method_3_code
def yX10_isAct : MethodName := ⟨RX10, "isAct", "(I)Z"⟩
abbrev cX10_portsOf : ByteArray := prog_12_method_4_code
def yX10_portsOf : MethodName := ⟨RX10, "portsOf", "(II)I"⟩
abbrev cX10_act : ByteArray := prog_12_method_5_code
def yX10_act : MethodName := ⟨RX10, "act", "(III)I"⟩
abbrev cX10_way : ByteArray := prog_12_method_6_code
def yX10_way : MethodName := ⟨RX10, "way", "(IIII)I"⟩
abbrev cX10_token : ByteArray := prog_12_method_7_code
def yX10_token : MethodName := ⟨RX10, "token", "(III)I"⟩
abbrev cX10_clear : ByteArray := prog_12_method_8_code
def yX10_clear : MethodName := ⟨RX10, "clear", "(I)Z"⟩
abbrev cX10_stops : ByteArray := prog_12_method_9_code
def yX10_stops : MethodName := ⟨RX10, "stops", "(II)Z"⟩
abbrev cX10_colour : ByteArray := prog_12_method_10_code
def yX10_colour : MethodName := ⟨RX10, "colour", "(IIII)I"⟩
abbrev cX10_pair : ByteArray := prog_12_method_11_code
def yX10_pair : MethodName := ⟨RX10, "pair", "(II)I"⟩
abbrev cX10_comes : ByteArray := prog_12_method_12_code
def yX10_comes : MethodName := ⟨RX10, "comes", "(IIIIII)Z"⟩
abbrev cX10_gives : ByteArray := prog_12_method_13_code
def yX10_gives : MethodName := ⟨RX10, "gives", "(IIIIII)Z"⟩
abbrev cX10_faults : ByteArray := prog_12_method_14_code
def yX10_faults : MethodName := ⟨RX10, "faults", "(III)Z"⟩
abbrev cX10_kindAt : ByteArray := prog_12_method_15_code
def yX10_kindAt : MethodName := ⟨RX10, "kindAt", "(II)I"⟩
abbrev cX10_valueAt : ByteArray := prog_12_method_16_code
def yX10_valueAt : MethodName := ⟨RX10, "valueAt", "(II)I"⟩
abbrev cX10_passes : ByteArray := prog_12_method_17_code
def yX10_passes : MethodName := ⟨RX10, "passes", "(III)Z"⟩
abbrev cX10_faultOf : ByteArray := prog_12_method_18_code
def yX10_faultOf : MethodName := ⟨RX10, "faultOf", "(II)I"⟩
abbrev cX10_number : ByteArray := prog_12_method_19_code
def yX10_number : MethodName := ⟨RX10, "number", "(II)Z"⟩
abbrev cX10_goesOff : ByteArray := prog_12_method_20_code
def yX10_goesOff : MethodName := ⟨RX10, "goesOff", "(I)Z"⟩
abbrev cX10_switches : ByteArray := prog_12_method_21_code
def yX10_switches : MethodName := ⟨RX10, "switches", "(I)Z"⟩
abbrev cX10_loops : ByteArray := prog_12_method_22_code
def yX10_loops : MethodName := ⟨RX10, "loops", "(I)Z"⟩
abbrev cX10_calls : ByteArray := prog_12_method_23_code
def yX10_calls : MethodName := ⟨RX10, "calls", "(I)Z"⟩
abbrev cX10_returns : ByteArray := prog_12_method_24_code
def yX10_returns : MethodName := ⟨RX10, "returns", "(I)Z"⟩
abbrev cX10_ends : ByteArray := prog_12_method_25_code
def yX10_ends : MethodName := ⟨RX10, "ends", "(I)Z"⟩
abbrev cX10_reckons : ByteArray := prog_12_method_26_code
def yX10_reckons : MethodName := ⟨RX10, "reckons", "(II)Z"⟩
abbrev cX10_makes : ByteArray := prog_12_method_27_code
def yX10_makes : MethodName := ⟨RX10, "makes", "(II)Z"⟩
abbrev cX10_cells : ByteArray := prog_12_method_28_code
def yX10_cells : MethodName := ⟨RX10, "cells", "(II)Z"⟩
abbrev cX10_begins : ByteArray := prog_12_method_29_code
def yX10_begins : MethodName := ⟨RX10, "begins", "()V"⟩
abbrev cX10_stepped : ByteArray := prog_12_method_30_code
def yX10_stepped : MethodName := ⟨RX10, "stepped", "(I)V"⟩
abbrev cX10_run : ByteArray := prog_12_method_31_code
def yX10_run : MethodName := ⟨RX10, "run", "(II)I"⟩
abbrev cX10_ticks : ByteArray := prog_12_method_32_code
def yX10_ticks : MethodName := ⟨RX10, "ticks", "(I)I"⟩
abbrev cX10_left : ByteArray := prog_12_method_33_code
def yX10_left : MethodName := ⟨RX10, "left", "()I"⟩
abbrev cX10_waiting : ByteArray := prog_12_method_34_code
def yX10_waiting : MethodName := ⟨RX10, "waiting", "()I"⟩
abbrev cX10_about : ByteArray := prog_12_method_35_code
def yX10_about : MethodName := ⟨RX10, "about", "(I)I"⟩
abbrev cX10_told1 : ByteArray := prog_12_method_36_code
def yX10_told1 : MethodName := ⟨RX10, "told1", "(IIII)I"⟩
abbrev cX10_end : ByteArray := prog_12_method_37_code
def yX10_end : MethodName := ⟨RX10, "end", "(II)I"⟩
abbrev cX10_fired : ByteArray := prog_12_method_38_code
def yX10_fired : MethodName := ⟨RX10, "fired", "(I)I"⟩
abbrev cX10_cell : ByteArray := prog_12_method_39_code
def yX10_cell : MethodName := ⟨RX10, "cell", "(III)I"⟩
abbrev cX10_told : ByteArray := prog_12_method_40_code
def yX10_told : MethodName := ⟨RX10, "told", "(II)I"⟩
abbrev cX10_notes : ByteArray := prog_12_method_41_code
def yX10_notes : MethodName := ⟨RX10, "notes", "([I)V"⟩
abbrev cX10_beside : ByteArray := prog_12_method_42_code
def yX10_beside : MethodName := ⟨RX10, "beside", "(III)I"⟩
def RJ9 : String := "java/lang/Math"
def TJ9 : u_T := fun k => match k with
  | _ => ("", "", "", false)
def tyJ9 : Nat → FieldType := fun k => match k with
  | _ => .int
abbrev wsJ90 : List Cond := u_ws RJ9 TJ9 0
theorem nmJ9 : ∀ a, a < 0 → ∀ b, b < 0 → a ≠ b → (TJ9 a).2.1 ≠ (TJ9 b).2.1 := by decide +kernel
theorem tyJ9_ok : ∀ k, k < 0 → parseFieldDescriptor (TJ9 k).2.2.1 = some (tyJ9 k) := by decide +kernel
abbrev cJ9_max_7cf53 : ByteArray := prog_13_method_65_code
def yJ9_max_7cf53 : MethodName := ⟨RJ9, "max", "(II)I"⟩
def RJ10 : String := "java/lang/System"
def TJ10 : u_T := fun k => match k with
  | _ => ("", "", "", false)
def tyJ10 : Nat → FieldType := fun k => match k with
  | _ => .int
abbrev wsJ100 : List Cond := u_ws RJ10 TJ10 0
theorem nmJ10 : ∀ a, a < 0 → ∀ b, b < 0 → a ≠ b → (TJ10 a).2.1 ≠ (TJ10 b).2.1 := by decide +kernel
theorem tyJ10_ok : ∀ k, k < 0 → parseFieldDescriptor (TJ10 k).2.2.1 = some (tyJ10 k) := by decide +kernel
def RJ7 : String := "java/util/Arrays"
def TJ7 : u_T := fun k => match k with
  | _ => ("", "", "", false)
def tyJ7 : Nat → FieldType := fun k => match k with
  | _ => .int
abbrev wsJ70 : List Cond := u_ws RJ7 TJ7 0
theorem nmJ7 : ∀ a, a < 0 → ∀ b, b < 0 → a ≠ b → (TJ7 a).2.1 ≠ (TJ7 b).2.1 := by decide +kernel
theorem tyJ7_ok : ∀ k, k < 0 → parseFieldDescriptor (TJ7 k).2.2.1 = some (tyJ7 k) := by decide +kernel
abbrev cJ7_fill_d0a16 : ByteArray := prog_15_method_101_code
def yJ7_fill_d0a16 : MethodName := ⟨RJ7, "fill", "([JJ)V"⟩
abbrev cJ7_fill_53178 : ByteArray := prog_15_method_103_code
def yJ7_fill_53178 : MethodName := ⟨RJ7, "fill", "([II)V"⟩
def RL : String := "TokenFloorLaw"
abbrev cL_law : ByteArray := code
def yL_law : MethodName := ⟨RL, "law", "([I)Z"⟩
def wsX0_init : List Cond := .code yX0_init cX0_init 1 none :: ([.methodLink RX0 5 objectInit, .instanceMethod objectInit, .code objectInit ⟨#[0xb1]⟩ 1 none, .arrayClass .int, .fieldLink RX0 11 "TokenFloor$Colours" "origin" "[I", .fieldLink RX0 15 "TokenFloor$Colours" "outer" "[I", .fieldLink RX0 18 "TokenFloor$Colours" "key" "[I", .fieldLink RX0 21 "TokenFloor$Colours" "firstReached" "[I", .fieldLink RX0 24 "TokenFloor$Colours" "nextReached" "[I"] ++ wsX00)
def wsX0_add : List Cond := .code yX0_add cX0_add 5 (some .int) :: ([.fieldLink RX0 27 "TokenFloor$Colours" "count" "I", .fieldLink RX0 18 "TokenFloor$Colours" "key" "[I", .fieldLink RX0 11 "TokenFloor$Colours" "origin" "[I", .fieldLink RX0 15 "TokenFloor$Colours" "outer" "[I", .fieldLink RX0 21 "TokenFloor$Colours" "firstReached" "[I", .fieldLink RX0 24 "TokenFloor$Colours" "nextReached" "[I"] ++ wsX00)
def wsX0_reset : List Cond := .code yX0_reset cX0_reset 1 none :: ([.fieldLink RX0 27 "TokenFloor$Colours" "count" "I", .methodLink RX0 31 yX0_add, .instanceMethod yX0_add, .selects RX0 yX0_add yX0_add, .initialized RX0, .code yX0_add cX0_add 5 (some .int), .fieldLink RX0 18 "TokenFloor$Colours" "key" "[I", .fieldLink RX0 11 "TokenFloor$Colours" "origin" "[I", .fieldLink RX0 15 "TokenFloor$Colours" "outer" "[I", .fieldLink RX0 21 "TokenFloor$Colours" "firstReached" "[I", .fieldLink RX0 24 "TokenFloor$Colours" "nextReached" "[I"] ++ wsX00)
def wsX0_reach : List Cond := .code yX0_reach cX0_reach 7 (some .int) :: ([.fieldLink RX0 21 "TokenFloor$Colours" "firstReached" "[I", .fieldLink RX0 18 "TokenFloor$Colours" "key" "[I", .fieldLink RX0 24 "TokenFloor$Colours" "nextReached" "[I", .fieldLink RX0 27 "TokenFloor$Colours" "count" "I", .methodLink RX0 31 yX0_add, .instanceMethod yX0_add, .selects RX0 yX0_add yX0_add, .initialized RX0, .code yX0_add cX0_add 5 (some .int), .fieldLink RX0 11 "TokenFloor$Colours" "origin" "[I", .fieldLink RX0 15 "TokenFloor$Colours" "outer" "[I"] ++ wsX00)
def wsX0_enter : List Cond := .code yX0_enter cX0_enter 3 (some .int) :: ([.methodLink RX0 35 yX0_reach, .instanceMethod yX0_reach, .selects RX0 yX0_reach yX0_reach, .initialized RX0, .code yX0_reach cX0_reach 7 (some .int), .fieldLink RX0 21 "TokenFloor$Colours" "firstReached" "[I", .fieldLink RX0 18 "TokenFloor$Colours" "key" "[I", .fieldLink RX0 24 "TokenFloor$Colours" "nextReached" "[I", .fieldLink RX0 27 "TokenFloor$Colours" "count" "I", .methodLink RX0 31 yX0_add, .instanceMethod yX0_add, .selects RX0 yX0_add yX0_add, .code yX0_add cX0_add 5 (some .int), .fieldLink RX0 11 "TokenFloor$Colours" "origin" "[I", .fieldLink RX0 15 "TokenFloor$Colours" "outer" "[I"] ++ wsX00)
def wsX0_nextTurn : List Cond := .code yX0_nextTurn cX0_nextTurn 2 (some .int) :: ([.fieldLink RX0 11 "TokenFloor$Colours" "origin" "[I", .fieldLink RX0 15 "TokenFloor$Colours" "outer" "[I", .methodLink RX0 35 yX0_reach, .instanceMethod yX0_reach, .selects RX0 yX0_reach yX0_reach, .initialized RX0, .code yX0_reach cX0_reach 7 (some .int), .fieldLink RX0 21 "TokenFloor$Colours" "firstReached" "[I", .fieldLink RX0 18 "TokenFloor$Colours" "key" "[I", .fieldLink RX0 24 "TokenFloor$Colours" "nextReached" "[I", .fieldLink RX0 27 "TokenFloor$Colours" "count" "I", .methodLink RX0 31 yX0_add, .instanceMethod yX0_add, .selects RX0 yX0_add yX0_add, .code yX0_add cX0_add 5 (some .int)] ++ wsX00)
def wsX0_callBy : List Cond := .code yX0_callBy cX0_callBy 3 (some .int) :: ([.methodLink RX0 35 yX0_reach, .instanceMethod yX0_reach, .selects RX0 yX0_reach yX0_reach, .initialized RX0, .code yX0_reach cX0_reach 7 (some .int), .fieldLink RX0 21 "TokenFloor$Colours" "firstReached" "[I", .fieldLink RX0 18 "TokenFloor$Colours" "key" "[I", .fieldLink RX0 24 "TokenFloor$Colours" "nextReached" "[I", .fieldLink RX0 27 "TokenFloor$Colours" "count" "I", .methodLink RX0 31 yX0_add, .instanceMethod yX0_add, .selects RX0 yX0_add yX0_add, .code yX0_add cX0_add 5 (some .int), .fieldLink RX0 11 "TokenFloor$Colours" "origin" "[I", .fieldLink RX0 15 "TokenFloor$Colours" "outer" "[I"] ++ wsX00)
def wsX0_isTurnOf : List Cond := .code yX0_isTurnOf cX0_isTurnOf 3 (some .boolean) :: ([.fieldLink RX0 11 "TokenFloor$Colours" "origin" "[I"] ++ wsX00)
def wsX0_outerOf : List Cond := .code yX0_outerOf cX0_outerOf 2 (some .int) :: ([.fieldLink RX0 15 "TokenFloor$Colours" "outer" "[I"] ++ wsX00)
def wsX0_callerOf : List Cond := .code yX0_callerOf cX0_callerOf 2 (some .int) :: ([.fieldLink RX0 11 "TokenFloor$Colours" "origin" "[I"] ++ wsX00)
def wsX1_init : List Cond := .code yX1_init cX1_init 1 none :: ([.methodLink RX1 3 objectInit, .instanceMethod objectInit, .code objectInit ⟨#[0xb1]⟩ 1 none, .arrayClass .int, .fieldLink RX1 9 "TokenFloor$Floor" "actOf" "[I", .fieldLink RX1 15 "TokenFloor$Floor" "colourOf" "[I", .fieldLink RX1 18 "TokenFloor$Floor" "had" "[I", .arrayClass .long, .fieldLink RX1 21 "TokenFloor$Floor" "came" "[J", .fieldLink RX1 25 "TokenFloor$Floor" "firstPair" "[I", .fieldLink RX1 28 "TokenFloor$Floor" "nextPair" "[I"] ++ wsX10)
def wsJ7_fill_53178 : List Cond := .code yJ7_fill_53178 cJ7_fill_53178 4 none :: ([])
def wsX1_reset : List Cond := .code yX1_reset cX1_reset 1 none :: ([.fieldLink RX1 31 "TokenFloor$Floor" "left" "I", .fieldLink RX1 35 "TokenFloor$Floor" "count" "I", .fieldLink RX1 25 "TokenFloor$Floor" "firstPair" "[I", .methodLink RX1 38 yJ7_fill_53178, .static yJ7_fill_53178, .initialized RJ7, .code yJ7_fill_53178 cJ7_fill_53178 4 none] ++ wsX10)
def wsX1_find : List Cond := .code yX1_find cX1_find 5 (some .int) :: ([.fieldLink RX1 25 "TokenFloor$Floor" "firstPair" "[I", .fieldLink RX1 9 "TokenFloor$Floor" "actOf" "[I", .fieldLink RX1 28 "TokenFloor$Floor" "nextPair" "[I"] ++ wsX10)
def wsX1_add : List Cond := .code yX1_add cX1_add 4 (some .int) :: ([.fieldLink RX1 35 "TokenFloor$Floor" "count" "I", .fieldLink RX1 9 "TokenFloor$Floor" "actOf" "[I", .fieldLink RX1 15 "TokenFloor$Floor" "colourOf" "[I", .fieldLink RX1 18 "TokenFloor$Floor" "had" "[I", .fieldLink RX1 28 "TokenFloor$Floor" "nextPair" "[I", .fieldLink RX1 25 "TokenFloor$Floor" "firstPair" "[I"] ++ wsX10)
def wsX1_hadToken : List Cond := .code yX1_hadToken cX1_hadToken 3 (some .boolean) :: ([.fieldLink RX1 18 "TokenFloor$Floor" "had" "[I"] ++ wsX10)
def wsX1_put : List Cond := .code yX1_put cX1_put 7 (some .boolean) :: ([.fieldLink RX1 18 "TokenFloor$Floor" "had" "[I", .fieldLink RX1 21 "TokenFloor$Floor" "came" "[J", .fieldLink RX1 31 "TokenFloor$Floor" "left" "I"] ++ wsX10)
def wsX1_cameTo : List Cond := .code yX1_cameTo cX1_cameTo 3 (some .long) :: ([.fieldLink RX1 21 "TokenFloor$Floor" "came" "[J"] ++ wsX10)
def wsX2_init : List Cond := .code yX2_init cX2_init 1 none :: ([.methodLink RX2 3 objectInit, .instanceMethod objectInit, .code objectInit ⟨#[0xb1]⟩ 1 none, .arrayClass .int, .fieldLink RX2 9 "TokenFloor$Graph" "kind" "[I", .fieldLink RX2 15 "TokenFloor$Graph" "number" "[I", .fieldLink RX2 18 "TokenFloor$Graph" "ports" "[I", .fieldLink RX2 21 "TokenFloor$Graph" "parameter" "[I", .fieldLink RX2 24 "TokenFloor$Graph" "wayTo" "[I", .fieldLink RX2 27 "TokenFloor$Graph" "wayPort" "[I", .fieldLink RX2 30 "TokenFloor$Graph" "nextWay" "[I", .fieldLink RX2 33 "TokenFloor$Graph" "firstWay" "[I", .fieldLink RX2 36 "TokenFloor$Graph" "lastWay" "[I", .fieldLink RX2 39 "TokenFloor$Graph" "tokenAct" "[I", .fieldLink RX2 42 "TokenFloor$Graph" "tokenPort" "[I", .fieldLink RX2 45 "TokenFloor$Graph" "tokenValue" "[I", .methodLink RX2 48 yJ7_fill_53178, .static yJ7_fill_53178, .initialized RJ7, .code yJ7_fill_53178 cJ7_fill_53178 4 none] ++ wsX20)
def wsX2_hasAct : List Cond := .code yX2_hasAct cX2_hasAct 2 (some .boolean) :: ([.fieldLink RX2 54 "TokenFloor$Graph" "acts" "I"] ++ wsX20)
def wsX2_hasPort : List Cond := .code yX2_hasPort cX2_hasPort 3 (some .boolean) :: ([.fieldLink RX2 18 "TokenFloor$Graph" "ports" "[I", .methodLink RX2 58 yX2_hasAct, .instanceMethod yX2_hasAct, .selects RX2 yX2_hasAct yX2_hasAct, .initialized RX2, .code yX2_hasAct cX2_hasAct 2 (some .boolean), .fieldLink RX2 54 "TokenFloor$Graph" "acts" "I"] ++ wsX20)
def wsX3_exists : List Cond := .code yX3_exists cX3_exists 1 (some .boolean) :: ([])
def wsX3_allowsNumber : List Cond := .code yX3_allowsNumber cX3_allowsNumber 2 (some .boolean) :: ([])
def wsX3_allowsPorts : List Cond := .code yX3_allowsPorts cX3_allowsPorts 2 (some .boolean) :: ([])
def wsX3_portsOf : List Cond := .code yX3_portsOf cX3_portsOf 2 (some .int) :: ([.fieldLink RX3 15 "TokenFloor$Kind" "PORTS" "[I", .methodLink RX3 11 yX3_exists, .static yX3_exists, .initialized RX3, .code yX3_exists cX3_exists 1 (some .boolean)])
def wsX2_addAct : List Cond := .code yX2_addAct cX2_addAct 6 (some .int) :: ([.fieldLink RX2 54 "TokenFloor$Graph" "acts" "I", .fieldLink RX2 9 "TokenFloor$Graph" "kind" "[I", .fieldLink RX2 15 "TokenFloor$Graph" "number" "[I", .fieldLink RX2 18 "TokenFloor$Graph" "ports" "[I", .fieldLink RX2 21 "TokenFloor$Graph" "parameter" "[I", .methodLink RX2 62 yX3_exists, .static yX3_exists, .initialized RX3, .code yX3_exists cX3_exists 1 (some .boolean), .methodLink RX2 67 yX3_allowsNumber, .static yX3_allowsNumber, .code yX3_allowsNumber cX3_allowsNumber 2 (some .boolean), .methodLink RX2 71 yX3_allowsPorts, .static yX3_allowsPorts, .code yX3_allowsPorts cX3_allowsPorts 2 (some .boolean), .methodLink RX2 74 yX3_portsOf, .static yX3_portsOf, .code yX3_portsOf cX3_portsOf 2 (some .int), .fieldLink RX3 15 "TokenFloor$Kind" "PORTS" "[I", .methodLink RX3 11 yX3_exists] ++ wsX20)
def wsX3_hasSide : List Cond := .code yX3_hasSide cX3_hasSide 2 (some .boolean) :: ([])
def wsX2_addWay : List Cond := .code yX2_addWay cX2_addWay 8 (some .int) :: ([.fieldLink RX2 9 "TokenFloor$Graph" "kind" "[I", .fieldLink RX2 84 "TokenFloor$Graph" "ways" "I", .fieldLink RX2 24 "TokenFloor$Graph" "wayTo" "[I", .fieldLink RX2 27 "TokenFloor$Graph" "wayPort" "[I", .fieldLink RX2 30 "TokenFloor$Graph" "nextWay" "[I", .fieldLink RX2 36 "TokenFloor$Graph" "lastWay" "[I", .fieldLink RX2 33 "TokenFloor$Graph" "firstWay" "[I", .methodLink RX2 58 yX2_hasAct, .instanceMethod yX2_hasAct, .selects RX2 yX2_hasAct yX2_hasAct, .initialized RX2, .code yX2_hasAct cX2_hasAct 2 (some .boolean), .fieldLink RX2 54 "TokenFloor$Graph" "acts" "I", .methodLink RX2 78 yX3_hasSide, .static yX3_hasSide, .initialized RX3, .code yX3_hasSide cX3_hasSide 2 (some .boolean), .methodLink RX2 81 yX2_hasPort, .instanceMethod yX2_hasPort, .selects RX2 yX2_hasPort yX2_hasPort, .code yX2_hasPort cX2_hasPort 3 (some .boolean), .fieldLink RX2 18 "TokenFloor$Graph" "ports" "[I"] ++ wsX20)
def wsX2_addToken : List Cond := .code yX2_addToken cX2_addToken 4 (some .int) :: ([.fieldLink RX2 87 "TokenFloor$Graph" "tokens" "I", .fieldLink RX2 39 "TokenFloor$Graph" "tokenAct" "[I", .fieldLink RX2 42 "TokenFloor$Graph" "tokenPort" "[I", .fieldLink RX2 45 "TokenFloor$Graph" "tokenValue" "[I", .methodLink RX2 81 yX2_hasPort, .instanceMethod yX2_hasPort, .selects RX2 yX2_hasPort yX2_hasPort, .initialized RX2, .code yX2_hasPort cX2_hasPort 3 (some .boolean), .fieldLink RX2 18 "TokenFloor$Graph" "ports" "[I", .methodLink RX2 58 yX2_hasAct, .instanceMethod yX2_hasAct, .selects RX2 yX2_hasAct yX2_hasAct, .code yX2_hasAct cX2_hasAct 2 (some .boolean), .fieldLink RX2 54 "TokenFloor$Graph" "acts" "I"] ++ wsX20)
def wsX2_dropTokens : List Cond := .code yX2_dropTokens cX2_dropTokens 1 none :: ([.fieldLink RX2 87 "TokenFloor$Graph" "tokens" "I"] ++ wsX20)
def wsX2_dropWays : List Cond := .code yX2_dropWays cX2_dropWays 1 none :: ([.fieldLink RX2 84 "TokenFloor$Graph" "ways" "I", .fieldLink RX2 33 "TokenFloor$Graph" "firstWay" "[I", .fieldLink RX2 36 "TokenFloor$Graph" "lastWay" "[I", .methodLink RX2 48 yJ7_fill_53178, .static yJ7_fill_53178, .initialized RJ7, .code yJ7_fill_53178 cJ7_fill_53178 4 none] ++ wsX20)
def wsX2_dropActs : List Cond := .code yX2_dropActs cX2_dropActs 1 none :: ([.fieldLink RX2 54 "TokenFloor$Graph" "acts" "I", .fieldLink RX2 21 "TokenFloor$Graph" "parameter" "[I", .methodLink RX2 48 yJ7_fill_53178, .static yJ7_fill_53178, .initialized RJ7, .code yJ7_fill_53178 cJ7_fill_53178 4 none] ++ wsX20)
def wsX2_firstWayOf : List Cond := .code yX2_firstWayOf cX2_firstWayOf 3 (some .int) :: ([.fieldLink RX2 33 "TokenFloor$Graph" "firstWay" "[I"] ++ wsX20)
def wsX2_countWays : List Cond := .code yX2_countWays cX2_countWays 5 (some .int) :: ([.fieldLink RX2 30 "TokenFloor$Graph" "nextWay" "[I", .methodLink RX2 90 yX2_firstWayOf, .instanceMethod yX2_firstWayOf, .selects RX2 yX2_firstWayOf yX2_firstWayOf, .initialized RX2, .code yX2_firstWayOf cX2_firstWayOf 3 (some .int), .fieldLink RX2 33 "TokenFloor$Graph" "firstWay" "[I"] ++ wsX20)
def wsX2_countTokens : List Cond := .code yX2_countTokens cX2_countTokens 4 (some .int) :: ([.fieldLink RX2 87 "TokenFloor$Graph" "tokens" "I", .fieldLink RX2 39 "TokenFloor$Graph" "tokenAct" "[I"] ++ wsX20)
def wsX2_parameterFor : List Cond := .code yX2_parameterFor cX2_parameterFor 4 (some .int) :: ([.fieldLink RX2 15 "TokenFloor$Graph" "number" "[I", .fieldLink RX2 21 "TokenFloor$Graph" "parameter" "[I"] ++ wsX20)
def wsX6_init : List Cond := .code yX6_init cX6_init 1 none :: ([.methodLink RX6 3 objectInit, .instanceMethod objectInit, .code objectInit ⟨#[0xb1]⟩ 1 none, .arrayClass .int, .fieldLink RX6 9 "TokenFloor$Store" "rowOfAct" "[I", .arrayClass .long, .fieldLink RX6 15 "TokenFloor$Store" "written" "[J", .fieldLink RX6 19 "TokenFloor$Store" "start" "[I", .fieldLink RX6 22 "TokenFloor$Store" "size" "[I", .fieldLink RX6 25 "TokenFloor$Store" "firstReader" "[I", .fieldLink RX6 28 "TokenFloor$Store" "lastReader" "[I", .fieldLink RX6 31 "TokenFloor$Store" "nextReader" "[I"] ++ wsX60)
def wsX5_init : List Cond := .code yX5_init cX5_init 1 none :: ([.methodLink RX5 3 objectInit, .instanceMethod objectInit, .code objectInit ⟨#[0xb1]⟩ 1 none, .arrayClass .int, .fieldLink RX5 9 "TokenFloor$ReadyRow" "row" "[I"] ++ wsX50)
def wsX4_init_r1 : List Cond := [Cond.methodLink RX4 3 objectInit, Cond.instanceMethod objectInit, Cond.code objectInit ⟨#[0xb1]⟩ 1 none, Cond.classLink RX4 9 RX6, Cond.instantiable RX6 10, Cond.initialized RX6, Cond.fieldLink RX4 12 "TokenFloor$Machine" "store" "LTokenFloor$Store;", Cond.arrayClass .int, Cond.fieldLink RX4 18 "TokenFloor$Machine" "firings" "[I", Cond.arrayClass .long, Cond.fieldLink RX4 22 "TokenFloor$Machine" "ends" "[J", Cond.classLink RX4 26 RX0, Cond.instantiable RX0 6, Cond.initialized RX0, Cond.fieldLink RX4 29 "TokenFloor$Machine" "colours" "LTokenFloor$Colours;", Cond.classLink RX4 33 RX1, Cond.instantiable RX1 8, Cond.initialized RX1, Cond.fieldLink RX4 36 "TokenFloor$Machine" "floor" "LTokenFloor$Floor;", Cond.classLink RX4 40 RX5, Cond.instantiable RX5 3, Cond.initialized RX5, Cond.fieldLink RX4 43 "TokenFloor$Machine" "ready" "LTokenFloor$ReadyRow;", Cond.fieldLink RX4 47 "TokenFloor$Machine" "graph" "LTokenFloor$Graph;"]
def wsX4_init_r2 : List Cond := [Cond.instanceMethod yX6_init, Cond.code yX6_init cX6_init 1 none, Cond.methodLink RX6 3 objectInit, Cond.fieldLink RX6 9 "TokenFloor$Store" "rowOfAct" "[I", Cond.fieldLink RX6 15 "TokenFloor$Store" "written" "[J", Cond.fieldLink RX6 19 "TokenFloor$Store" "start" "[I", Cond.fieldLink RX6 22 "TokenFloor$Store" "size" "[I", Cond.fieldLink RX6 25 "TokenFloor$Store" "firstReader" "[I", Cond.fieldLink RX6 28 "TokenFloor$Store" "lastReader" "[I", Cond.fieldLink RX6 31 "TokenFloor$Store" "nextReader" "[I", Cond.instanceMethod yX0_init, Cond.code yX0_init cX0_init 1 none, Cond.methodLink RX0 5 objectInit, Cond.fieldLink RX0 11 "TokenFloor$Colours" "origin" "[I", Cond.fieldLink RX0 15 "TokenFloor$Colours" "outer" "[I", Cond.fieldLink RX0 18 "TokenFloor$Colours" "key" "[I", Cond.fieldLink RX0 21 "TokenFloor$Colours" "firstReached" "[I", Cond.fieldLink RX0 24 "TokenFloor$Colours" "nextReached" "[I", Cond.instanceMethod yX1_init, Cond.code yX1_init cX1_init 1 none, Cond.methodLink RX1 3 objectInit, Cond.fieldLink RX1 9 "TokenFloor$Floor" "actOf" "[I", Cond.fieldLink RX1 15 "TokenFloor$Floor" "colourOf" "[I", Cond.fieldLink RX1 18 "TokenFloor$Floor" "had" "[I"]
def wsX4_init_r3 : List Cond := [Cond.fieldLink RX1 21 "TokenFloor$Floor" "came" "[J", Cond.fieldLink RX1 25 "TokenFloor$Floor" "firstPair" "[I", Cond.fieldLink RX1 28 "TokenFloor$Floor" "nextPair" "[I", Cond.instanceMethod yX5_init, Cond.code yX5_init cX5_init 1 none, Cond.methodLink RX5 3 objectInit, Cond.fieldLink RX5 9 "TokenFloor$ReadyRow" "row" "[I"]
def wsX4_init : List Cond := .code yX4_init cX4_init 2 none :: ((wsX4_init_r1 ++ (wsX4_init_r2 ++ wsX4_init_r3)) ++ wsX60 ++ wsX40 ++ wsX00 ++ wsX10 ++ wsX50)
def wsX5_reset : List Cond := .code yX5_reset cX5_reset 1 none :: ([.fieldLink RX5 15 "TokenFloor$ReadyRow" "head" "I", .fieldLink RX5 19 "TokenFloor$ReadyRow" "tail" "I"] ++ wsX50)
def wsX6_reset : List Cond := .code yX6_reset cX6_reset 1 none :: ([.fieldLink RX6 34 "TokenFloor$Store" "waiting" "I", .fieldLink RX6 38 "TokenFloor$Store" "rows" "I", .fieldLink RX6 41 "TokenFloor$Store" "cells" "I", .fieldLink RX6 9 "TokenFloor$Store" "rowOfAct" "[I", .methodLink RX6 44 yJ7_fill_53178, .static yJ7_fill_53178, .initialized RJ7, .code yJ7_fill_53178 cJ7_fill_53178 4 none] ++ wsX60)
def wsJ7_fill_d0a16 : List Cond := .code yJ7_fill_d0a16 cJ7_fill_d0a16 5 none :: ([])
def wsX8_ofNumber : List Cond := .code yX8_ofNumber cX8_ofNumber 1 (some .long) :: ([.constantLong RX8 9 (1099511627776), .constantLong RX8 11 (4294967295)])
def wsX4_clashAt : List Cond := .code yX4_clashAt cX4_clashAt 2 none :: ([.fieldLink RX4 78 "TokenFloor$Machine" "how" "I", .fieldLink RX4 102 "TokenFloor$Machine" "clashAct" "I"] ++ wsX40)
def wsX5_add : List Cond := .code yX5_add cX5_add 2 none :: ([.fieldLink RX5 19 "TokenFloor$ReadyRow" "tail" "I", .fieldLink RX5 9 "TokenFloor$ReadyRow" "row" "[I"] ++ wsX50)
def wsX4_arrive_r1 : List Cond := [Cond.fieldLink RX4 36 "TokenFloor$Machine" "floor" "LTokenFloor$Floor;", Cond.fieldLink RX4 78 "TokenFloor$Machine" "how" "I", Cond.fieldLink RX4 47 "TokenFloor$Machine" "graph" "LTokenFloor$Graph;", Cond.fieldLink RX4 258 "TokenFloor$Graph" "ports" "[I", Cond.fieldLink RX4 43 "TokenFloor$Machine" "ready" "LTokenFloor$ReadyRow;", Cond.methodLink RX4 312 yX1_find, Cond.instanceMethod yX1_find, Cond.selects RX1 yX1_find yX1_find, Cond.initialized RX1, Cond.code yX1_find cX1_find 5 (some .int), Cond.fieldLink RX1 25 "TokenFloor$Floor" "firstPair" "[I", Cond.fieldLink RX1 9 "TokenFloor$Floor" "actOf" "[I", Cond.fieldLink RX1 28 "TokenFloor$Floor" "nextPair" "[I", Cond.methodLink RX4 315 yX1_add, Cond.instanceMethod yX1_add, Cond.selects RX1 yX1_add yX1_add, Cond.code yX1_add cX1_add 4 (some .int), Cond.fieldLink RX1 35 "TokenFloor$Floor" "count" "I", Cond.fieldLink RX1 15 "TokenFloor$Floor" "colourOf" "[I", Cond.fieldLink RX1 18 "TokenFloor$Floor" "had" "[I", Cond.methodLink RX4 318 yX1_hadToken, Cond.instanceMethod yX1_hadToken, Cond.selects RX1 yX1_hadToken yX1_hadToken, Cond.code yX1_hadToken cX1_hadToken 3 (some .boolean)]
def wsX4_arrive_r2 : List Cond := [Cond.methodLink RX4 287 yX4_clashAt, Cond.instanceMethod yX4_clashAt, Cond.selects RX4 yX4_clashAt yX4_clashAt, Cond.initialized RX4, Cond.code yX4_clashAt cX4_clashAt 2 none, Cond.fieldLink RX4 102 "TokenFloor$Machine" "clashAct" "I", Cond.methodLink RX4 321 yX1_put, Cond.instanceMethod yX1_put, Cond.selects RX1 yX1_put yX1_put, Cond.code yX1_put cX1_put 7 (some .boolean), Cond.fieldLink RX1 21 "TokenFloor$Floor" "came" "[J", Cond.fieldLink RX1 31 "TokenFloor$Floor" "left" "I", Cond.methodLink RX4 325 yX5_add, Cond.instanceMethod yX5_add, Cond.selects RX5 yX5_add yX5_add, Cond.initialized RX5, Cond.code yX5_add cX5_add 2 none, Cond.fieldLink RX5 19 "TokenFloor$ReadyRow" "tail" "I", Cond.fieldLink RX5 9 "TokenFloor$ReadyRow" "row" "[I"]
def wsX4_arrive : List Cond := .code yX4_arrive cX4_arrive 7 none :: ((wsX4_arrive_r1 ++ wsX4_arrive_r2) ++ wsX40 ++ wsX20 ++ wsX10 ++ wsX50)
def wsX4_begin_r1 : List Cond := [Cond.fieldLink RX4 29 "TokenFloor$Machine" "colours" "LTokenFloor$Colours;", Cond.fieldLink RX4 36 "TokenFloor$Machine" "floor" "LTokenFloor$Floor;", Cond.fieldLink RX4 43 "TokenFloor$Machine" "ready" "LTokenFloor$ReadyRow;", Cond.fieldLink RX4 12 "TokenFloor$Machine" "store" "LTokenFloor$Store;", Cond.fieldLink RX4 18 "TokenFloor$Machine" "firings" "[I", Cond.fieldLink RX4 22 "TokenFloor$Machine" "ends" "[J", Cond.fieldLink RX4 78 "TokenFloor$Machine" "how" "I", Cond.fieldLink RX4 71 "TokenFloor$Machine" "steps" "I", Cond.fieldLink RX4 84 "TokenFloor$Machine" "tickCount" "I", Cond.fieldLink RX4 75 "TokenFloor$Machine" "most" "I", Cond.fieldLink RX4 93 "TokenFloor$Machine" "lost" "I", Cond.fieldLink RX4 96 "TokenFloor$Machine" "strays" "I", Cond.fieldLink RX4 102 "TokenFloor$Machine" "clashAct" "I", Cond.fieldLink RX4 47 "TokenFloor$Machine" "graph" "LTokenFloor$Graph;", Cond.fieldLink RX4 143 "TokenFloor$Graph" "tokens" "I", Cond.fieldLink RX4 148 "TokenFloor$Graph" "tokenValue" "[I", Cond.fieldLink RX4 154 "TokenFloor$Graph" "tokenAct" "[I", Cond.fieldLink RX4 157 "TokenFloor$Graph" "tokenPort" "[I", Cond.methodLink RX4 128 yX0_reset, Cond.instanceMethod yX0_reset, Cond.selects RX0 yX0_reset yX0_reset, Cond.initialized RX0, Cond.code yX0_reset cX0_reset 1 none, Cond.fieldLink RX0 27 "TokenFloor$Colours" "count" "I"]
def wsX4_begin_r2 : List Cond := [Cond.methodLink RX0 31 yX0_add, Cond.instanceMethod yX0_add, Cond.selects RX0 yX0_add yX0_add, Cond.code yX0_add cX0_add 5 (some .int), Cond.fieldLink RX0 18 "TokenFloor$Colours" "key" "[I", Cond.fieldLink RX0 11 "TokenFloor$Colours" "origin" "[I", Cond.fieldLink RX0 15 "TokenFloor$Colours" "outer" "[I", Cond.fieldLink RX0 21 "TokenFloor$Colours" "firstReached" "[I", Cond.fieldLink RX0 24 "TokenFloor$Colours" "nextReached" "[I", Cond.methodLink RX4 131 yX1_reset, Cond.instanceMethod yX1_reset, Cond.selects RX1 yX1_reset yX1_reset, Cond.initialized RX1, Cond.code yX1_reset cX1_reset 1 none, Cond.fieldLink RX1 31 "TokenFloor$Floor" "left" "I", Cond.fieldLink RX1 35 "TokenFloor$Floor" "count" "I", Cond.fieldLink RX1 25 "TokenFloor$Floor" "firstPair" "[I", Cond.methodLink RX1 38 yJ7_fill_53178, Cond.static yJ7_fill_53178, Cond.initialized RJ7, Cond.code yJ7_fill_53178 cJ7_fill_53178 4 none, Cond.methodLink RX4 132 yX5_reset, Cond.instanceMethod yX5_reset, Cond.selects RX5 yX5_reset yX5_reset]
def wsX4_begin_r3 : List Cond := [Cond.initialized RX5, Cond.code yX5_reset cX5_reset 1 none, Cond.fieldLink RX5 15 "TokenFloor$ReadyRow" "head" "I", Cond.fieldLink RX5 19 "TokenFloor$ReadyRow" "tail" "I", Cond.methodLink RX4 133 yX6_reset, Cond.instanceMethod yX6_reset, Cond.selects RX6 yX6_reset yX6_reset, Cond.initialized RX6, Cond.code yX6_reset cX6_reset 1 none, Cond.fieldLink RX6 34 "TokenFloor$Store" "waiting" "I", Cond.fieldLink RX6 38 "TokenFloor$Store" "rows" "I", Cond.fieldLink RX6 41 "TokenFloor$Store" "cells" "I", Cond.fieldLink RX6 9 "TokenFloor$Store" "rowOfAct" "[I", Cond.methodLink RX6 44 yJ7_fill_53178, Cond.methodLink RX4 134 yJ7_fill_53178, Cond.methodLink RX4 140 yJ7_fill_d0a16, Cond.static yJ7_fill_d0a16, Cond.code yJ7_fill_d0a16 cJ7_fill_d0a16 5 none, Cond.methodLink RX4 151 yX8_ofNumber, Cond.static yX8_ofNumber, Cond.initialized RX8, Cond.code yX8_ofNumber cX8_ofNumber 1 (some .long), Cond.constantLong RX8 9 (1099511627776), Cond.constantLong RX8 11 (4294967295)]
def wsX4_begin_r4 : List Cond := [Cond.methodLink RX4 160 yX4_arrive, Cond.instanceMethod yX4_arrive, Cond.selects RX4 yX4_arrive yX4_arrive, Cond.initialized RX4, Cond.code yX4_arrive cX4_arrive 7 none, Cond.fieldLink RX4 258 "TokenFloor$Graph" "ports" "[I", Cond.methodLink RX4 312 yX1_find, Cond.instanceMethod yX1_find, Cond.selects RX1 yX1_find yX1_find, Cond.code yX1_find cX1_find 5 (some .int), Cond.fieldLink RX1 9 "TokenFloor$Floor" "actOf" "[I", Cond.fieldLink RX1 28 "TokenFloor$Floor" "nextPair" "[I", Cond.methodLink RX4 315 yX1_add, Cond.instanceMethod yX1_add, Cond.selects RX1 yX1_add yX1_add, Cond.code yX1_add cX1_add 4 (some .int), Cond.fieldLink RX1 15 "TokenFloor$Floor" "colourOf" "[I", Cond.fieldLink RX1 18 "TokenFloor$Floor" "had" "[I", Cond.methodLink RX4 318 yX1_hadToken, Cond.instanceMethod yX1_hadToken, Cond.selects RX1 yX1_hadToken yX1_hadToken, Cond.code yX1_hadToken cX1_hadToken 3 (some .boolean), Cond.methodLink RX4 287 yX4_clashAt, Cond.instanceMethod yX4_clashAt]
def wsX4_begin_r5 : List Cond := [Cond.selects RX4 yX4_clashAt yX4_clashAt, Cond.code yX4_clashAt cX4_clashAt 2 none, Cond.methodLink RX4 321 yX1_put, Cond.instanceMethod yX1_put, Cond.selects RX1 yX1_put yX1_put, Cond.code yX1_put cX1_put 7 (some .boolean), Cond.fieldLink RX1 21 "TokenFloor$Floor" "came" "[J", Cond.methodLink RX4 325 yX5_add, Cond.instanceMethod yX5_add, Cond.selects RX5 yX5_add yX5_add, Cond.code yX5_add cX5_add 2 none, Cond.fieldLink RX5 9 "TokenFloor$ReadyRow" "row" "[I"]
def wsX4_begin : List Cond := .code yX4_begin cX4_begin 4 none :: ((wsX4_begin_r1 ++ (wsX4_begin_r2 ++ (wsX4_begin_r3 ++ (wsX4_begin_r4 ++ wsX4_begin_r5)))) ++ wsX40 ++ wsX20 ++ wsX00 ++ wsX10 ++ wsX50 ++ wsX60)
def wsX5_size : List Cond := .code yX5_size cX5_size 1 (some .int) :: ([.fieldLink RX5 19 "TokenFloor$ReadyRow" "tail" "I", .fieldLink RX5 15 "TokenFloor$ReadyRow" "head" "I"] ++ wsX50)
def wsX4_mayStep : List Cond := .code yX4_mayStep cX4_mayStep 2 (some .boolean) :: ([.fieldLink RX4 78 "TokenFloor$Machine" "how" "I", .fieldLink RX4 43 "TokenFloor$Machine" "ready" "LTokenFloor$ReadyRow;", .fieldLink RX4 71 "TokenFloor$Machine" "steps" "I", .methodLink RX4 59 yX5_size, .instanceMethod yX5_size, .selects RX5 yX5_size yX5_size, .initialized RX5, .code yX5_size cX5_size 1 (some .int), .fieldLink RX5 19 "TokenFloor$ReadyRow" "tail" "I", .fieldLink RX5 15 "TokenFloor$ReadyRow" "head" "I"] ++ wsX40 ++ wsX50)
def wsX5_take : List Cond := .code yX5_take cX5_take 4 (some .int) :: ([.fieldLink RX5 15 "TokenFloor$ReadyRow" "head" "I", .fieldLink RX5 9 "TokenFloor$ReadyRow" "row" "[I", .fieldLink RX5 19 "TokenFloor$ReadyRow" "tail" "I", .methodLink RX5 26 arraycopyName, .native arraycopyName, .static arraycopyName, .initialized "java/lang/System", .methodLink RX5 22 yX5_size, .instanceMethod yX5_size, .selects RX5 yX5_size yX5_size, .initialized RX5, .code yX5_size cX5_size 1 (some .int)] ++ wsX50)
def wsX8_sortOf : List Cond := .code yX8_sortOf cX8_sortOf 2 (some .int) :: ([])
def wsX8_contentOf : List Cond := .code yX8_contentOf cX8_contentOf 2 (some .int) :: ([])
def wsX4_give_r1 : List Cond := [Cond.fieldLink RX4 47 "TokenFloor$Machine" "graph" "LTokenFloor$Graph;", Cond.fieldLink RX4 78 "TokenFloor$Machine" "how" "I", Cond.fieldLink RX4 303 "TokenFloor$Graph" "wayTo" "[I", Cond.fieldLink RX4 306 "TokenFloor$Graph" "wayPort" "[I", Cond.fieldLink RX4 309 "TokenFloor$Graph" "nextWay" "[I", Cond.methodLink RX4 300 yX2_firstWayOf, Cond.instanceMethod yX2_firstWayOf, Cond.selects RX2 yX2_firstWayOf yX2_firstWayOf, Cond.initialized RX2, Cond.code yX2_firstWayOf cX2_firstWayOf 3 (some .int), Cond.fieldLink RX2 33 "TokenFloor$Graph" "firstWay" "[I", Cond.methodLink RX4 160 yX4_arrive, Cond.instanceMethod yX4_arrive, Cond.selects RX4 yX4_arrive yX4_arrive, Cond.initialized RX4, Cond.code yX4_arrive cX4_arrive 7 none, Cond.fieldLink RX4 36 "TokenFloor$Machine" "floor" "LTokenFloor$Floor;", Cond.fieldLink RX4 258 "TokenFloor$Graph" "ports" "[I", Cond.fieldLink RX4 43 "TokenFloor$Machine" "ready" "LTokenFloor$ReadyRow;", Cond.methodLink RX4 312 yX1_find, Cond.instanceMethod yX1_find, Cond.selects RX1 yX1_find yX1_find, Cond.initialized RX1, Cond.code yX1_find cX1_find 5 (some .int)]
def wsX4_give_r2 : List Cond := [Cond.fieldLink RX1 25 "TokenFloor$Floor" "firstPair" "[I", Cond.fieldLink RX1 9 "TokenFloor$Floor" "actOf" "[I", Cond.fieldLink RX1 28 "TokenFloor$Floor" "nextPair" "[I", Cond.methodLink RX4 315 yX1_add, Cond.instanceMethod yX1_add, Cond.selects RX1 yX1_add yX1_add, Cond.code yX1_add cX1_add 4 (some .int), Cond.fieldLink RX1 35 "TokenFloor$Floor" "count" "I", Cond.fieldLink RX1 15 "TokenFloor$Floor" "colourOf" "[I", Cond.fieldLink RX1 18 "TokenFloor$Floor" "had" "[I", Cond.methodLink RX4 318 yX1_hadToken, Cond.instanceMethod yX1_hadToken, Cond.selects RX1 yX1_hadToken yX1_hadToken, Cond.code yX1_hadToken cX1_hadToken 3 (some .boolean), Cond.methodLink RX4 287 yX4_clashAt, Cond.instanceMethod yX4_clashAt, Cond.selects RX4 yX4_clashAt yX4_clashAt, Cond.code yX4_clashAt cX4_clashAt 2 none, Cond.fieldLink RX4 102 "TokenFloor$Machine" "clashAct" "I", Cond.methodLink RX4 321 yX1_put, Cond.instanceMethod yX1_put, Cond.selects RX1 yX1_put yX1_put, Cond.code yX1_put cX1_put 7 (some .boolean), Cond.fieldLink RX1 21 "TokenFloor$Floor" "came" "[J"]
def wsX4_give_r3 : List Cond := [Cond.fieldLink RX1 31 "TokenFloor$Floor" "left" "I", Cond.methodLink RX4 325 yX5_add, Cond.instanceMethod yX5_add, Cond.selects RX5 yX5_add yX5_add, Cond.initialized RX5, Cond.code yX5_add cX5_add 2 none, Cond.fieldLink RX5 19 "TokenFloor$ReadyRow" "tail" "I", Cond.fieldLink RX5 9 "TokenFloor$ReadyRow" "row" "[I"]
def wsX4_give : List Cond := .code yX4_give cX4_give 8 none :: ((wsX4_give_r1 ++ (wsX4_give_r2 ++ wsX4_give_r3)) ++ wsX40 ++ wsX20 ++ wsX10 ++ wsX50)
def wsX4_goSwitch_r1 : List Cond := [Cond.fieldLink RX4 93 "TokenFloor$Machine" "lost" "I", Cond.methodLink RX4 105 yX8_sortOf, Cond.static yX8_sortOf, Cond.initialized RX8, Cond.code yX8_sortOf cX8_sortOf 2 (some .int), Cond.methodLink RX4 111 yX8_contentOf, Cond.static yX8_contentOf, Cond.code yX8_contentOf cX8_contentOf 2 (some .int), Cond.methodLink RX4 223 yX4_give, Cond.instanceMethod yX4_give, Cond.selects RX4 yX4_give yX4_give, Cond.initialized RX4, Cond.code yX4_give cX4_give 8 none, Cond.fieldLink RX4 47 "TokenFloor$Machine" "graph" "LTokenFloor$Graph;", Cond.fieldLink RX4 78 "TokenFloor$Machine" "how" "I", Cond.fieldLink RX4 303 "TokenFloor$Graph" "wayTo" "[I", Cond.fieldLink RX4 306 "TokenFloor$Graph" "wayPort" "[I", Cond.fieldLink RX4 309 "TokenFloor$Graph" "nextWay" "[I", Cond.methodLink RX4 300 yX2_firstWayOf, Cond.instanceMethod yX2_firstWayOf, Cond.selects RX2 yX2_firstWayOf yX2_firstWayOf, Cond.initialized RX2, Cond.code yX2_firstWayOf cX2_firstWayOf 3 (some .int), Cond.fieldLink RX2 33 "TokenFloor$Graph" "firstWay" "[I"]
def wsX4_goSwitch_r2 : List Cond := [Cond.methodLink RX4 160 yX4_arrive, Cond.instanceMethod yX4_arrive, Cond.selects RX4 yX4_arrive yX4_arrive, Cond.code yX4_arrive cX4_arrive 7 none, Cond.fieldLink RX4 36 "TokenFloor$Machine" "floor" "LTokenFloor$Floor;", Cond.fieldLink RX4 258 "TokenFloor$Graph" "ports" "[I", Cond.fieldLink RX4 43 "TokenFloor$Machine" "ready" "LTokenFloor$ReadyRow;", Cond.methodLink RX4 312 yX1_find, Cond.instanceMethod yX1_find, Cond.selects RX1 yX1_find yX1_find, Cond.initialized RX1, Cond.code yX1_find cX1_find 5 (some .int), Cond.fieldLink RX1 25 "TokenFloor$Floor" "firstPair" "[I", Cond.fieldLink RX1 9 "TokenFloor$Floor" "actOf" "[I", Cond.fieldLink RX1 28 "TokenFloor$Floor" "nextPair" "[I", Cond.methodLink RX4 315 yX1_add, Cond.instanceMethod yX1_add, Cond.selects RX1 yX1_add yX1_add, Cond.code yX1_add cX1_add 4 (some .int), Cond.fieldLink RX1 35 "TokenFloor$Floor" "count" "I", Cond.fieldLink RX1 15 "TokenFloor$Floor" "colourOf" "[I", Cond.fieldLink RX1 18 "TokenFloor$Floor" "had" "[I", Cond.methodLink RX4 318 yX1_hadToken, Cond.instanceMethod yX1_hadToken]
def wsX4_goSwitch_r3 : List Cond := [Cond.selects RX1 yX1_hadToken yX1_hadToken, Cond.code yX1_hadToken cX1_hadToken 3 (some .boolean), Cond.methodLink RX4 287 yX4_clashAt, Cond.instanceMethod yX4_clashAt, Cond.selects RX4 yX4_clashAt yX4_clashAt, Cond.code yX4_clashAt cX4_clashAt 2 none, Cond.fieldLink RX4 102 "TokenFloor$Machine" "clashAct" "I", Cond.methodLink RX4 321 yX1_put, Cond.instanceMethod yX1_put, Cond.selects RX1 yX1_put yX1_put, Cond.code yX1_put cX1_put 7 (some .boolean), Cond.fieldLink RX1 21 "TokenFloor$Floor" "came" "[J", Cond.fieldLink RX1 31 "TokenFloor$Floor" "left" "I", Cond.methodLink RX4 325 yX5_add, Cond.instanceMethod yX5_add, Cond.selects RX5 yX5_add yX5_add, Cond.initialized RX5, Cond.code yX5_add cX5_add 2 none, Cond.fieldLink RX5 19 "TokenFloor$ReadyRow" "tail" "I", Cond.fieldLink RX5 9 "TokenFloor$ReadyRow" "row" "[I"]
def wsX4_goSwitch : List Cond := .code yX4_goSwitch cX4_goSwitch 7 none :: ((wsX4_goSwitch_r1 ++ (wsX4_goSwitch_r2 ++ wsX4_goSwitch_r3)) ++ wsX40 ++ wsX20 ++ wsX10 ++ wsX50)
def wsX4_giveInside_r1 : List Cond := [Cond.fieldLink RX4 78 "TokenFloor$Machine" "how" "I", Cond.methodLink RX4 223 yX4_give, Cond.instanceMethod yX4_give, Cond.selects RX4 yX4_give yX4_give, Cond.initialized RX4, Cond.code yX4_give cX4_give 8 none, Cond.fieldLink RX4 47 "TokenFloor$Machine" "graph" "LTokenFloor$Graph;", Cond.fieldLink RX4 303 "TokenFloor$Graph" "wayTo" "[I", Cond.fieldLink RX4 306 "TokenFloor$Graph" "wayPort" "[I", Cond.fieldLink RX4 309 "TokenFloor$Graph" "nextWay" "[I", Cond.methodLink RX4 300 yX2_firstWayOf, Cond.instanceMethod yX2_firstWayOf, Cond.selects RX2 yX2_firstWayOf yX2_firstWayOf, Cond.initialized RX2, Cond.code yX2_firstWayOf cX2_firstWayOf 3 (some .int), Cond.fieldLink RX2 33 "TokenFloor$Graph" "firstWay" "[I", Cond.methodLink RX4 160 yX4_arrive, Cond.instanceMethod yX4_arrive, Cond.selects RX4 yX4_arrive yX4_arrive, Cond.code yX4_arrive cX4_arrive 7 none, Cond.fieldLink RX4 36 "TokenFloor$Machine" "floor" "LTokenFloor$Floor;", Cond.fieldLink RX4 258 "TokenFloor$Graph" "ports" "[I", Cond.fieldLink RX4 43 "TokenFloor$Machine" "ready" "LTokenFloor$ReadyRow;", Cond.methodLink RX4 312 yX1_find]
def wsX4_giveInside_r2 : List Cond := [Cond.instanceMethod yX1_find, Cond.selects RX1 yX1_find yX1_find, Cond.initialized RX1, Cond.code yX1_find cX1_find 5 (some .int), Cond.fieldLink RX1 25 "TokenFloor$Floor" "firstPair" "[I", Cond.fieldLink RX1 9 "TokenFloor$Floor" "actOf" "[I", Cond.fieldLink RX1 28 "TokenFloor$Floor" "nextPair" "[I", Cond.methodLink RX4 315 yX1_add, Cond.instanceMethod yX1_add, Cond.selects RX1 yX1_add yX1_add, Cond.code yX1_add cX1_add 4 (some .int), Cond.fieldLink RX1 35 "TokenFloor$Floor" "count" "I", Cond.fieldLink RX1 15 "TokenFloor$Floor" "colourOf" "[I", Cond.fieldLink RX1 18 "TokenFloor$Floor" "had" "[I", Cond.methodLink RX4 318 yX1_hadToken, Cond.instanceMethod yX1_hadToken, Cond.selects RX1 yX1_hadToken yX1_hadToken, Cond.code yX1_hadToken cX1_hadToken 3 (some .boolean), Cond.methodLink RX4 287 yX4_clashAt, Cond.instanceMethod yX4_clashAt, Cond.selects RX4 yX4_clashAt yX4_clashAt, Cond.code yX4_clashAt cX4_clashAt 2 none, Cond.fieldLink RX4 102 "TokenFloor$Machine" "clashAct" "I", Cond.methodLink RX4 321 yX1_put]
def wsX4_giveInside_r3 : List Cond := [Cond.instanceMethod yX1_put, Cond.selects RX1 yX1_put yX1_put, Cond.code yX1_put cX1_put 7 (some .boolean), Cond.fieldLink RX1 21 "TokenFloor$Floor" "came" "[J", Cond.fieldLink RX1 31 "TokenFloor$Floor" "left" "I", Cond.methodLink RX4 325 yX5_add, Cond.instanceMethod yX5_add, Cond.selects RX5 yX5_add yX5_add, Cond.initialized RX5, Cond.code yX5_add cX5_add 2 none, Cond.fieldLink RX5 19 "TokenFloor$ReadyRow" "tail" "I", Cond.fieldLink RX5 9 "TokenFloor$ReadyRow" "row" "[I"]
def wsX4_giveInside : List Cond := .code yX4_giveInside cX4_giveInside 5 none :: ((wsX4_giveInside_r1 ++ (wsX4_giveInside_r2 ++ wsX4_giveInside_r3)) ++ wsX40 ++ wsX20 ++ wsX10 ++ wsX50)
def wsX8_ofFault : List Cond := .code yX8_ofFault cX8_ofFault 2 (some .long) :: ([.constantLong RX8 19 (3298534883328), .constantLong RX8 11 (4294967295)])
def wsX4_goTurn_r1 : List Cond := [Cond.fieldLink RX4 29 "TokenFloor$Machine" "colours" "LTokenFloor$Colours;", Cond.fieldLink RX4 47 "TokenFloor$Machine" "graph" "LTokenFloor$Graph;", Cond.fieldLink RX4 186 "TokenFloor$Graph" "number" "[I", Cond.fieldLink RX4 179 "TokenFloor$Graph" "kind" "[I", Cond.methodLink RX4 240 yX0_isTurnOf, Cond.instanceMethod yX0_isTurnOf, Cond.selects RX0 yX0_isTurnOf yX0_isTurnOf, Cond.initialized RX0, Cond.code yX0_isTurnOf cX0_isTurnOf 3 (some .boolean), Cond.fieldLink RX0 11 "TokenFloor$Colours" "origin" "[I", Cond.methodLink RX4 244 yX8_ofFault, Cond.static yX8_ofFault, Cond.initialized RX8, Cond.code yX8_ofFault cX8_ofFault 2 (some .long), Cond.constantLong RX8 19 (3298534883328), Cond.constantLong RX8 11 (4294967295), Cond.methodLink RX4 223 yX4_give, Cond.instanceMethod yX4_give, Cond.selects RX4 yX4_give yX4_give, Cond.initialized RX4, Cond.code yX4_give cX4_give 8 none, Cond.fieldLink RX4 78 "TokenFloor$Machine" "how" "I", Cond.fieldLink RX4 303 "TokenFloor$Graph" "wayTo" "[I", Cond.fieldLink RX4 306 "TokenFloor$Graph" "wayPort" "[I"]
def wsX4_goTurn_r2 : List Cond := [Cond.fieldLink RX4 309 "TokenFloor$Graph" "nextWay" "[I", Cond.methodLink RX4 300 yX2_firstWayOf, Cond.instanceMethod yX2_firstWayOf, Cond.selects RX2 yX2_firstWayOf yX2_firstWayOf, Cond.initialized RX2, Cond.code yX2_firstWayOf cX2_firstWayOf 3 (some .int), Cond.fieldLink RX2 33 "TokenFloor$Graph" "firstWay" "[I", Cond.methodLink RX4 160 yX4_arrive, Cond.instanceMethod yX4_arrive, Cond.selects RX4 yX4_arrive yX4_arrive, Cond.code yX4_arrive cX4_arrive 7 none, Cond.fieldLink RX4 36 "TokenFloor$Machine" "floor" "LTokenFloor$Floor;", Cond.fieldLink RX4 258 "TokenFloor$Graph" "ports" "[I", Cond.fieldLink RX4 43 "TokenFloor$Machine" "ready" "LTokenFloor$ReadyRow;", Cond.methodLink RX4 312 yX1_find, Cond.instanceMethod yX1_find, Cond.selects RX1 yX1_find yX1_find, Cond.initialized RX1, Cond.code yX1_find cX1_find 5 (some .int), Cond.fieldLink RX1 25 "TokenFloor$Floor" "firstPair" "[I", Cond.fieldLink RX1 9 "TokenFloor$Floor" "actOf" "[I", Cond.fieldLink RX1 28 "TokenFloor$Floor" "nextPair" "[I", Cond.methodLink RX4 315 yX1_add, Cond.instanceMethod yX1_add]
def wsX4_goTurn_r3 : List Cond := [Cond.selects RX1 yX1_add yX1_add, Cond.code yX1_add cX1_add 4 (some .int), Cond.fieldLink RX1 35 "TokenFloor$Floor" "count" "I", Cond.fieldLink RX1 15 "TokenFloor$Floor" "colourOf" "[I", Cond.fieldLink RX1 18 "TokenFloor$Floor" "had" "[I", Cond.methodLink RX4 318 yX1_hadToken, Cond.instanceMethod yX1_hadToken, Cond.selects RX1 yX1_hadToken yX1_hadToken, Cond.code yX1_hadToken cX1_hadToken 3 (some .boolean), Cond.methodLink RX4 287 yX4_clashAt, Cond.instanceMethod yX4_clashAt, Cond.selects RX4 yX4_clashAt yX4_clashAt, Cond.code yX4_clashAt cX4_clashAt 2 none, Cond.fieldLink RX4 102 "TokenFloor$Machine" "clashAct" "I", Cond.methodLink RX4 321 yX1_put, Cond.instanceMethod yX1_put, Cond.selects RX1 yX1_put yX1_put, Cond.code yX1_put cX1_put 7 (some .boolean), Cond.fieldLink RX1 21 "TokenFloor$Floor" "came" "[J", Cond.fieldLink RX1 31 "TokenFloor$Floor" "left" "I", Cond.methodLink RX4 325 yX5_add, Cond.instanceMethod yX5_add, Cond.selects RX5 yX5_add yX5_add, Cond.initialized RX5]
def wsX4_goTurn_r4 : List Cond := [Cond.code yX5_add cX5_add 2 none, Cond.fieldLink RX5 19 "TokenFloor$ReadyRow" "tail" "I", Cond.fieldLink RX5 9 "TokenFloor$ReadyRow" "row" "[I", Cond.methodLink RX4 249 yX0_nextTurn, Cond.instanceMethod yX0_nextTurn, Cond.selects RX0 yX0_nextTurn yX0_nextTurn, Cond.code yX0_nextTurn cX0_nextTurn 2 (some .int), Cond.fieldLink RX0 15 "TokenFloor$Colours" "outer" "[I", Cond.methodLink RX0 35 yX0_reach, Cond.instanceMethod yX0_reach, Cond.selects RX0 yX0_reach yX0_reach, Cond.code yX0_reach cX0_reach 7 (some .int), Cond.fieldLink RX0 21 "TokenFloor$Colours" "firstReached" "[I", Cond.fieldLink RX0 18 "TokenFloor$Colours" "key" "[I", Cond.fieldLink RX0 24 "TokenFloor$Colours" "nextReached" "[I", Cond.fieldLink RX0 27 "TokenFloor$Colours" "count" "I", Cond.methodLink RX0 31 yX0_add, Cond.instanceMethod yX0_add, Cond.selects RX0 yX0_add yX0_add, Cond.code yX0_add cX0_add 5 (some .int), Cond.methodLink RX4 192 yX4_giveInside, Cond.instanceMethod yX4_giveInside, Cond.selects RX4 yX4_giveInside yX4_giveInside, Cond.code yX4_giveInside cX4_giveInside 5 none]
def wsX4_goTurn_r5 : List Cond := [Cond.methodLink RX4 252 yX0_outerOf, Cond.instanceMethod yX0_outerOf, Cond.selects RX0 yX0_outerOf yX0_outerOf, Cond.code yX0_outerOf cX0_outerOf 2 (some .int)]
def wsX4_goTurn : List Cond := .code yX4_goTurn cX4_goTurn 5 none :: ((wsX4_goTurn_r1 ++ (wsX4_goTurn_r2 ++ (wsX4_goTurn_r3 ++ (wsX4_goTurn_r4 ++ wsX4_goTurn_r5)))) ++ wsX40 ++ wsX20 ++ wsX00 ++ wsX10 ++ wsX50)
def wsX4_goCall_r1 : List Cond := [Cond.fieldLink RX4 29 "TokenFloor$Machine" "colours" "LTokenFloor$Colours;", Cond.fieldLink RX4 78 "TokenFloor$Machine" "how" "I", Cond.fieldLink RX4 47 "TokenFloor$Machine" "graph" "LTokenFloor$Graph;", Cond.fieldLink RX4 258 "TokenFloor$Graph" "ports" "[I", Cond.fieldLink RX4 36 "TokenFloor$Machine" "floor" "LTokenFloor$Floor;", Cond.methodLink RX4 255 yX0_callBy, Cond.instanceMethod yX0_callBy, Cond.selects RX0 yX0_callBy yX0_callBy, Cond.initialized RX0, Cond.code yX0_callBy cX0_callBy 3 (some .int), Cond.methodLink RX0 35 yX0_reach, Cond.instanceMethod yX0_reach, Cond.selects RX0 yX0_reach yX0_reach, Cond.code yX0_reach cX0_reach 7 (some .int), Cond.fieldLink RX0 21 "TokenFloor$Colours" "firstReached" "[I", Cond.fieldLink RX0 18 "TokenFloor$Colours" "key" "[I", Cond.fieldLink RX0 24 "TokenFloor$Colours" "nextReached" "[I", Cond.fieldLink RX0 27 "TokenFloor$Colours" "count" "I", Cond.methodLink RX0 31 yX0_add, Cond.instanceMethod yX0_add, Cond.selects RX0 yX0_add yX0_add, Cond.code yX0_add cX0_add 5 (some .int), Cond.fieldLink RX0 11 "TokenFloor$Colours" "origin" "[I", Cond.fieldLink RX0 15 "TokenFloor$Colours" "outer" "[I"]
def wsX4_goCall_r2 : List Cond := [Cond.methodLink RX4 261 yX2_parameterFor, Cond.instanceMethod yX2_parameterFor, Cond.selects RX2 yX2_parameterFor yX2_parameterFor, Cond.initialized RX2, Cond.code yX2_parameterFor cX2_parameterFor 4 (some .int), Cond.fieldLink RX2 15 "TokenFloor$Graph" "number" "[I", Cond.fieldLink RX2 21 "TokenFloor$Graph" "parameter" "[I", Cond.methodLink RX4 175 yX1_cameTo, Cond.instanceMethod yX1_cameTo, Cond.selects RX1 yX1_cameTo yX1_cameTo, Cond.initialized RX1, Cond.code yX1_cameTo cX1_cameTo 3 (some .long), Cond.fieldLink RX1 21 "TokenFloor$Floor" "came" "[J", Cond.methodLink RX4 160 yX4_arrive, Cond.instanceMethod yX4_arrive, Cond.selects RX4 yX4_arrive yX4_arrive, Cond.initialized RX4, Cond.code yX4_arrive cX4_arrive 7 none, Cond.fieldLink RX4 43 "TokenFloor$Machine" "ready" "LTokenFloor$ReadyRow;", Cond.methodLink RX4 312 yX1_find, Cond.instanceMethod yX1_find, Cond.selects RX1 yX1_find yX1_find, Cond.code yX1_find cX1_find 5 (some .int), Cond.fieldLink RX1 25 "TokenFloor$Floor" "firstPair" "[I"]
def wsX4_goCall_r3 : List Cond := [Cond.fieldLink RX1 9 "TokenFloor$Floor" "actOf" "[I", Cond.fieldLink RX1 28 "TokenFloor$Floor" "nextPair" "[I", Cond.methodLink RX4 315 yX1_add, Cond.instanceMethod yX1_add, Cond.selects RX1 yX1_add yX1_add, Cond.code yX1_add cX1_add 4 (some .int), Cond.fieldLink RX1 35 "TokenFloor$Floor" "count" "I", Cond.fieldLink RX1 15 "TokenFloor$Floor" "colourOf" "[I", Cond.fieldLink RX1 18 "TokenFloor$Floor" "had" "[I", Cond.methodLink RX4 318 yX1_hadToken, Cond.instanceMethod yX1_hadToken, Cond.selects RX1 yX1_hadToken yX1_hadToken, Cond.code yX1_hadToken cX1_hadToken 3 (some .boolean), Cond.methodLink RX4 287 yX4_clashAt, Cond.instanceMethod yX4_clashAt, Cond.selects RX4 yX4_clashAt yX4_clashAt, Cond.code yX4_clashAt cX4_clashAt 2 none, Cond.fieldLink RX4 102 "TokenFloor$Machine" "clashAct" "I", Cond.methodLink RX4 321 yX1_put, Cond.instanceMethod yX1_put, Cond.selects RX1 yX1_put yX1_put, Cond.code yX1_put cX1_put 7 (some .boolean), Cond.fieldLink RX1 31 "TokenFloor$Floor" "left" "I", Cond.methodLink RX4 325 yX5_add]
def wsX4_goCall_r4 : List Cond := [Cond.instanceMethod yX5_add, Cond.selects RX5 yX5_add yX5_add, Cond.initialized RX5, Cond.code yX5_add cX5_add 2 none, Cond.fieldLink RX5 19 "TokenFloor$ReadyRow" "tail" "I", Cond.fieldLink RX5 9 "TokenFloor$ReadyRow" "row" "[I"]
def wsX4_goCall : List Cond := .code yX4_goCall cX4_goCall 7 none :: ((wsX4_goCall_r1 ++ (wsX4_goCall_r2 ++ (wsX4_goCall_r3 ++ wsX4_goCall_r4))) ++ wsX40 ++ wsX20 ++ wsX00 ++ wsX10 ++ wsX50)
def wsX4_goReturn_r1 : List Cond := [Cond.fieldLink RX4 29 "TokenFloor$Machine" "colours" "LTokenFloor$Colours;", Cond.fieldLink RX4 93 "TokenFloor$Machine" "lost" "I", Cond.methodLink RX4 264 yX0_callerOf, Cond.instanceMethod yX0_callerOf, Cond.selects RX0 yX0_callerOf yX0_callerOf, Cond.initialized RX0, Cond.code yX0_callerOf cX0_callerOf 2 (some .int), Cond.fieldLink RX0 11 "TokenFloor$Colours" "origin" "[I", Cond.methodLink RX4 252 yX0_outerOf, Cond.instanceMethod yX0_outerOf, Cond.selects RX0 yX0_outerOf yX0_outerOf, Cond.code yX0_outerOf cX0_outerOf 2 (some .int), Cond.fieldLink RX0 15 "TokenFloor$Colours" "outer" "[I", Cond.methodLink RX4 223 yX4_give, Cond.instanceMethod yX4_give, Cond.selects RX4 yX4_give yX4_give, Cond.initialized RX4, Cond.code yX4_give cX4_give 8 none, Cond.fieldLink RX4 47 "TokenFloor$Machine" "graph" "LTokenFloor$Graph;", Cond.fieldLink RX4 78 "TokenFloor$Machine" "how" "I", Cond.fieldLink RX4 303 "TokenFloor$Graph" "wayTo" "[I", Cond.fieldLink RX4 306 "TokenFloor$Graph" "wayPort" "[I", Cond.fieldLink RX4 309 "TokenFloor$Graph" "nextWay" "[I", Cond.methodLink RX4 300 yX2_firstWayOf]
def wsX4_goReturn_r2 : List Cond := [Cond.instanceMethod yX2_firstWayOf, Cond.selects RX2 yX2_firstWayOf yX2_firstWayOf, Cond.initialized RX2, Cond.code yX2_firstWayOf cX2_firstWayOf 3 (some .int), Cond.fieldLink RX2 33 "TokenFloor$Graph" "firstWay" "[I", Cond.methodLink RX4 160 yX4_arrive, Cond.instanceMethod yX4_arrive, Cond.selects RX4 yX4_arrive yX4_arrive, Cond.code yX4_arrive cX4_arrive 7 none, Cond.fieldLink RX4 36 "TokenFloor$Machine" "floor" "LTokenFloor$Floor;", Cond.fieldLink RX4 258 "TokenFloor$Graph" "ports" "[I", Cond.fieldLink RX4 43 "TokenFloor$Machine" "ready" "LTokenFloor$ReadyRow;", Cond.methodLink RX4 312 yX1_find, Cond.instanceMethod yX1_find, Cond.selects RX1 yX1_find yX1_find, Cond.initialized RX1, Cond.code yX1_find cX1_find 5 (some .int), Cond.fieldLink RX1 25 "TokenFloor$Floor" "firstPair" "[I", Cond.fieldLink RX1 9 "TokenFloor$Floor" "actOf" "[I", Cond.fieldLink RX1 28 "TokenFloor$Floor" "nextPair" "[I", Cond.methodLink RX4 315 yX1_add, Cond.instanceMethod yX1_add, Cond.selects RX1 yX1_add yX1_add, Cond.code yX1_add cX1_add 4 (some .int)]
def wsX4_goReturn_r3 : List Cond := [Cond.fieldLink RX1 35 "TokenFloor$Floor" "count" "I", Cond.fieldLink RX1 15 "TokenFloor$Floor" "colourOf" "[I", Cond.fieldLink RX1 18 "TokenFloor$Floor" "had" "[I", Cond.methodLink RX4 318 yX1_hadToken, Cond.instanceMethod yX1_hadToken, Cond.selects RX1 yX1_hadToken yX1_hadToken, Cond.code yX1_hadToken cX1_hadToken 3 (some .boolean), Cond.methodLink RX4 287 yX4_clashAt, Cond.instanceMethod yX4_clashAt, Cond.selects RX4 yX4_clashAt yX4_clashAt, Cond.code yX4_clashAt cX4_clashAt 2 none, Cond.fieldLink RX4 102 "TokenFloor$Machine" "clashAct" "I", Cond.methodLink RX4 321 yX1_put, Cond.instanceMethod yX1_put, Cond.selects RX1 yX1_put yX1_put, Cond.code yX1_put cX1_put 7 (some .boolean), Cond.fieldLink RX1 21 "TokenFloor$Floor" "came" "[J", Cond.fieldLink RX1 31 "TokenFloor$Floor" "left" "I", Cond.methodLink RX4 325 yX5_add, Cond.instanceMethod yX5_add, Cond.selects RX5 yX5_add yX5_add, Cond.initialized RX5, Cond.code yX5_add cX5_add 2 none, Cond.fieldLink RX5 19 "TokenFloor$ReadyRow" "tail" "I"]
def wsX4_goReturn_r4 : List Cond := [Cond.fieldLink RX5 9 "TokenFloor$ReadyRow" "row" "[I"]
def wsX4_goReturn : List Cond := .code yX4_goReturn cX4_goReturn 5 none :: ((wsX4_goReturn_r1 ++ (wsX4_goReturn_r2 ++ (wsX4_goReturn_r3 ++ wsX4_goReturn_r4))) ++ wsX40 ++ wsX00 ++ wsX20 ++ wsX10 ++ wsX50)
def wsX8_refuse : List Cond := .code yX8_refuse cX8_refuse 5 (some .long) :: ([.methodLink RX8 21 yX8_sortOf, .static yX8_sortOf, .initialized RX8, .code yX8_sortOf cX8_sortOf 2 (some .int), .methodLink RX8 25 yX8_ofFault, .static yX8_ofFault, .code yX8_ofFault cX8_ofFault 2 (some .long), .constantLong RX8 19 (3298534883328), .constantLong RX8 11 (4294967295)])
def wsX6_make : List Cond := .code yX6_make cX6_make 4 (some .int) :: ([.fieldLink RX6 38 "TokenFloor$Store" "rows" "I", .fieldLink RX6 41 "TokenFloor$Store" "cells" "I", .fieldLink RX6 19 "TokenFloor$Store" "start" "[I", .fieldLink RX6 22 "TokenFloor$Store" "size" "[I", .fieldLink RX6 15 "TokenFloor$Store" "written" "[J", .fieldLink RX6 25 "TokenFloor$Store" "firstReader" "[I", .fieldLink RX6 28 "TokenFloor$Store" "lastReader" "[I"] ++ wsX60)
def wsX8_ofRow : List Cond := .code yX8_ofRow cX8_ofRow 1 (some .long) :: ([.constantLong RX8 17 (2199023255552), .constantLong RX8 11 (4294967295)])
def wsX4_goMake_r1 : List Cond := [Cond.fieldLink RX4 12 "TokenFloor$Machine" "store" "LTokenFloor$Store;", Cond.fieldLink RX4 78 "TokenFloor$Machine" "how" "I", Cond.fieldLink RX4 270 "TokenFloor$Store" "rowOfAct" "[I", Cond.methodLink RX4 232 yX8_refuse, Cond.static yX8_refuse, Cond.initialized RX8, Cond.code yX8_refuse cX8_refuse 5 (some .long), Cond.methodLink RX8 21 yX8_sortOf, Cond.static yX8_sortOf, Cond.code yX8_sortOf cX8_sortOf 2 (some .int), Cond.methodLink RX8 25 yX8_ofFault, Cond.static yX8_ofFault, Cond.code yX8_ofFault cX8_ofFault 2 (some .long), Cond.constantLong RX8 19 (3298534883328), Cond.constantLong RX8 11 (4294967295), Cond.methodLink RX4 111 yX8_contentOf, Cond.static yX8_contentOf, Cond.code yX8_contentOf cX8_contentOf 2 (some .int), Cond.methodLink RX4 244 yX8_ofFault, Cond.methodLink RX4 223 yX4_give, Cond.instanceMethod yX4_give, Cond.selects RX4 yX4_give yX4_give, Cond.initialized RX4, Cond.code yX4_give cX4_give 8 none]
def wsX4_goMake_r2 : List Cond := [Cond.fieldLink RX4 47 "TokenFloor$Machine" "graph" "LTokenFloor$Graph;", Cond.fieldLink RX4 303 "TokenFloor$Graph" "wayTo" "[I", Cond.fieldLink RX4 306 "TokenFloor$Graph" "wayPort" "[I", Cond.fieldLink RX4 309 "TokenFloor$Graph" "nextWay" "[I", Cond.methodLink RX4 300 yX2_firstWayOf, Cond.instanceMethod yX2_firstWayOf, Cond.selects RX2 yX2_firstWayOf yX2_firstWayOf, Cond.initialized RX2, Cond.code yX2_firstWayOf cX2_firstWayOf 3 (some .int), Cond.fieldLink RX2 33 "TokenFloor$Graph" "firstWay" "[I", Cond.methodLink RX4 160 yX4_arrive, Cond.instanceMethod yX4_arrive, Cond.selects RX4 yX4_arrive yX4_arrive, Cond.code yX4_arrive cX4_arrive 7 none, Cond.fieldLink RX4 36 "TokenFloor$Machine" "floor" "LTokenFloor$Floor;", Cond.fieldLink RX4 258 "TokenFloor$Graph" "ports" "[I", Cond.fieldLink RX4 43 "TokenFloor$Machine" "ready" "LTokenFloor$ReadyRow;", Cond.methodLink RX4 312 yX1_find, Cond.instanceMethod yX1_find, Cond.selects RX1 yX1_find yX1_find, Cond.initialized RX1, Cond.code yX1_find cX1_find 5 (some .int), Cond.fieldLink RX1 25 "TokenFloor$Floor" "firstPair" "[I", Cond.fieldLink RX1 9 "TokenFloor$Floor" "actOf" "[I"]
def wsX4_goMake_r3 : List Cond := [Cond.fieldLink RX1 28 "TokenFloor$Floor" "nextPair" "[I", Cond.methodLink RX4 315 yX1_add, Cond.instanceMethod yX1_add, Cond.selects RX1 yX1_add yX1_add, Cond.code yX1_add cX1_add 4 (some .int), Cond.fieldLink RX1 35 "TokenFloor$Floor" "count" "I", Cond.fieldLink RX1 15 "TokenFloor$Floor" "colourOf" "[I", Cond.fieldLink RX1 18 "TokenFloor$Floor" "had" "[I", Cond.methodLink RX4 318 yX1_hadToken, Cond.instanceMethod yX1_hadToken, Cond.selects RX1 yX1_hadToken yX1_hadToken, Cond.code yX1_hadToken cX1_hadToken 3 (some .boolean), Cond.methodLink RX4 287 yX4_clashAt, Cond.instanceMethod yX4_clashAt, Cond.selects RX4 yX4_clashAt yX4_clashAt, Cond.code yX4_clashAt cX4_clashAt 2 none, Cond.fieldLink RX4 102 "TokenFloor$Machine" "clashAct" "I", Cond.methodLink RX4 321 yX1_put, Cond.instanceMethod yX1_put, Cond.selects RX1 yX1_put yX1_put, Cond.code yX1_put cX1_put 7 (some .boolean), Cond.fieldLink RX1 21 "TokenFloor$Floor" "came" "[J", Cond.fieldLink RX1 31 "TokenFloor$Floor" "left" "I", Cond.methodLink RX4 325 yX5_add]
def wsX4_goMake_r4 : List Cond := [Cond.instanceMethod yX5_add, Cond.selects RX5 yX5_add yX5_add, Cond.initialized RX5, Cond.code yX5_add cX5_add 2 none, Cond.fieldLink RX5 19 "TokenFloor$ReadyRow" "tail" "I", Cond.fieldLink RX5 9 "TokenFloor$ReadyRow" "row" "[I", Cond.methodLink RX4 267 yX6_make, Cond.instanceMethod yX6_make, Cond.selects RX6 yX6_make yX6_make, Cond.initialized RX6, Cond.code yX6_make cX6_make 4 (some .int), Cond.fieldLink RX6 38 "TokenFloor$Store" "rows" "I", Cond.fieldLink RX6 41 "TokenFloor$Store" "cells" "I", Cond.fieldLink RX6 19 "TokenFloor$Store" "start" "[I", Cond.fieldLink RX6 22 "TokenFloor$Store" "size" "[I", Cond.fieldLink RX6 15 "TokenFloor$Store" "written" "[J", Cond.fieldLink RX6 25 "TokenFloor$Store" "firstReader" "[I", Cond.fieldLink RX6 28 "TokenFloor$Store" "lastReader" "[I", Cond.methodLink RX4 124 yX8_ofRow, Cond.static yX8_ofRow, Cond.code yX8_ofRow cX8_ofRow 1 (some .long), Cond.constantLong RX8 17 (2199023255552)]
def wsX4_goMake : List Cond := .code yX4_goMake cX4_goMake 9 none :: ((wsX4_goMake_r1 ++ (wsX4_goMake_r2 ++ (wsX4_goMake_r3 ++ wsX4_goMake_r4))) ++ wsX40 ++ wsX60 ++ wsX20 ++ wsX10 ++ wsX50)
def wsX6_sizeOf : List Cond := .code yX6_sizeOf cX6_sizeOf 2 (some .int) :: ([.fieldLink RX6 38 "TokenFloor$Store" "rows" "I", .fieldLink RX6 22 "TokenFloor$Store" "size" "[I"] ++ wsX60)
def wsX6_placeIn : List Cond := .code yX6_placeIn cX6_placeIn 3 (some .int) :: ([.fieldLink RX6 19 "TokenFloor$Store" "start" "[I", .methodLink RX6 52 yX6_sizeOf, .instanceMethod yX6_sizeOf, .selects RX6 yX6_sizeOf yX6_sizeOf, .initialized RX6, .code yX6_sizeOf cX6_sizeOf 2 (some .int), .fieldLink RX6 38 "TokenFloor$Store" "rows" "I", .fieldLink RX6 22 "TokenFloor$Store" "size" "[I"] ++ wsX60)
def wsX4_placeAsked : List Cond := .code yX4_placeAsked cX4_placeAsked 3 (some .int) :: ([.fieldLink RX4 36 "TokenFloor$Machine" "floor" "LTokenFloor$Floor;", .fieldLink RX4 12 "TokenFloor$Machine" "store" "LTokenFloor$Store;", .methodLink RX4 175 yX1_cameTo, .instanceMethod yX1_cameTo, .selects RX1 yX1_cameTo yX1_cameTo, .initialized RX1, .code yX1_cameTo cX1_cameTo 3 (some .long), .fieldLink RX1 21 "TokenFloor$Floor" "came" "[J", .methodLink RX4 111 yX8_contentOf, .static yX8_contentOf, .initialized RX8, .code yX8_contentOf cX8_contentOf 2 (some .int), .methodLink RX4 297 yX6_placeIn, .instanceMethod yX6_placeIn, .selects RX6 yX6_placeIn yX6_placeIn, .initialized RX6, .code yX6_placeIn cX6_placeIn 3 (some .int), .fieldLink RX6 19 "TokenFloor$Store" "start" "[I", .methodLink RX6 52 yX6_sizeOf, .instanceMethod yX6_sizeOf, .selects RX6 yX6_sizeOf yX6_sizeOf, .code yX6_sizeOf cX6_sizeOf 2 (some .int), .fieldLink RX6 38 "TokenFloor$Store" "rows" "I", .fieldLink RX6 22 "TokenFloor$Store" "size" "[I"] ++ wsX40 ++ wsX10 ++ wsX60)
def wsX8_refuseTwo : List Cond := .code yX8_refuseTwo cX8_refuseTwo 8 (some .long) :: ([.methodLink RX8 21 yX8_sortOf, .static yX8_sortOf, .initialized RX8, .code yX8_sortOf cX8_sortOf 2 (some .int), .methodLink RX8 25 yX8_ofFault, .static yX8_ofFault, .code yX8_ofFault cX8_ofFault 2 (some .long), .constantLong RX8 19 (3298534883328), .constantLong RX8 11 (4294967295)])
def wsX4_refuseCell : List Cond := .code yX4_refuseCell cX4_refuseCell 10 (some .long) :: ([.fieldLink RX4 36 "TokenFloor$Machine" "floor" "LTokenFloor$Floor;", .methodLink RX4 175 yX1_cameTo, .instanceMethod yX1_cameTo, .selects RX1 yX1_cameTo yX1_cameTo, .initialized RX1, .code yX1_cameTo cX1_cameTo 3 (some .long), .fieldLink RX1 21 "TokenFloor$Floor" "came" "[J", .methodLink RX4 293 yX8_refuseTwo, .static yX8_refuseTwo, .initialized RX8, .code yX8_refuseTwo cX8_refuseTwo 8 (some .long), .methodLink RX8 21 yX8_sortOf, .static yX8_sortOf, .code yX8_sortOf cX8_sortOf 2 (some .int), .methodLink RX8 25 yX8_ofFault, .static yX8_ofFault, .code yX8_ofFault cX8_ofFault 2 (some .long), .constantLong RX8 19 (3298534883328), .constantLong RX8 11 (4294967295), .methodLink RX4 244 yX8_ofFault] ++ wsX40 ++ wsX10)
def wsX6_addReader : List Cond := .code yX6_addReader cX6_addReader 4 none :: ([.fieldLink RX6 31 "TokenFloor$Store" "nextReader" "[I", .fieldLink RX6 28 "TokenFloor$Store" "lastReader" "[I", .fieldLink RX6 25 "TokenFloor$Store" "firstReader" "[I", .fieldLink RX6 34 "TokenFloor$Store" "waiting" "I"] ++ wsX60)
def wsX4_goRead_r1 : List Cond := [Cond.fieldLink RX4 12 "TokenFloor$Machine" "store" "LTokenFloor$Store;", Cond.fieldLink RX4 280 "TokenFloor$Store" "written" "[J", Cond.methodLink RX4 273 yX4_placeAsked, Cond.instanceMethod yX4_placeAsked, Cond.selects RX4 yX4_placeAsked yX4_placeAsked, Cond.initialized RX4, Cond.code yX4_placeAsked cX4_placeAsked 3 (some .int), Cond.fieldLink RX4 36 "TokenFloor$Machine" "floor" "LTokenFloor$Floor;", Cond.methodLink RX4 175 yX1_cameTo, Cond.instanceMethod yX1_cameTo, Cond.selects RX1 yX1_cameTo yX1_cameTo, Cond.initialized RX1, Cond.code yX1_cameTo cX1_cameTo 3 (some .long), Cond.fieldLink RX1 21 "TokenFloor$Floor" "came" "[J", Cond.methodLink RX4 111 yX8_contentOf, Cond.static yX8_contentOf, Cond.initialized RX8, Cond.code yX8_contentOf cX8_contentOf 2 (some .int), Cond.methodLink RX4 297 yX6_placeIn, Cond.instanceMethod yX6_placeIn, Cond.selects RX6 yX6_placeIn yX6_placeIn, Cond.initialized RX6, Cond.code yX6_placeIn cX6_placeIn 3 (some .int), Cond.fieldLink RX6 19 "TokenFloor$Store" "start" "[I"]
def wsX4_goRead_r2 : List Cond := [Cond.methodLink RX6 52 yX6_sizeOf, Cond.instanceMethod yX6_sizeOf, Cond.selects RX6 yX6_sizeOf yX6_sizeOf, Cond.code yX6_sizeOf cX6_sizeOf 2 (some .int), Cond.fieldLink RX6 38 "TokenFloor$Store" "rows" "I", Cond.fieldLink RX6 22 "TokenFloor$Store" "size" "[I", Cond.methodLink RX4 276 yX4_refuseCell, Cond.instanceMethod yX4_refuseCell, Cond.selects RX4 yX4_refuseCell yX4_refuseCell, Cond.code yX4_refuseCell cX4_refuseCell 10 (some .long), Cond.methodLink RX4 293 yX8_refuseTwo, Cond.static yX8_refuseTwo, Cond.code yX8_refuseTwo cX8_refuseTwo 8 (some .long), Cond.methodLink RX8 21 yX8_sortOf, Cond.static yX8_sortOf, Cond.code yX8_sortOf cX8_sortOf 2 (some .int), Cond.methodLink RX8 25 yX8_ofFault, Cond.static yX8_ofFault, Cond.code yX8_ofFault cX8_ofFault 2 (some .long), Cond.constantLong RX8 19 (3298534883328), Cond.constantLong RX8 11 (4294967295), Cond.methodLink RX4 244 yX8_ofFault, Cond.methodLink RX4 223 yX4_give, Cond.instanceMethod yX4_give]
def wsX4_goRead_r3 : List Cond := [Cond.selects RX4 yX4_give yX4_give, Cond.code yX4_give cX4_give 8 none, Cond.fieldLink RX4 47 "TokenFloor$Machine" "graph" "LTokenFloor$Graph;", Cond.fieldLink RX4 78 "TokenFloor$Machine" "how" "I", Cond.fieldLink RX4 303 "TokenFloor$Graph" "wayTo" "[I", Cond.fieldLink RX4 306 "TokenFloor$Graph" "wayPort" "[I", Cond.fieldLink RX4 309 "TokenFloor$Graph" "nextWay" "[I", Cond.methodLink RX4 300 yX2_firstWayOf, Cond.instanceMethod yX2_firstWayOf, Cond.selects RX2 yX2_firstWayOf yX2_firstWayOf, Cond.initialized RX2, Cond.code yX2_firstWayOf cX2_firstWayOf 3 (some .int), Cond.fieldLink RX2 33 "TokenFloor$Graph" "firstWay" "[I", Cond.methodLink RX4 160 yX4_arrive, Cond.instanceMethod yX4_arrive, Cond.selects RX4 yX4_arrive yX4_arrive, Cond.code yX4_arrive cX4_arrive 7 none, Cond.fieldLink RX4 258 "TokenFloor$Graph" "ports" "[I", Cond.fieldLink RX4 43 "TokenFloor$Machine" "ready" "LTokenFloor$ReadyRow;", Cond.methodLink RX4 312 yX1_find, Cond.instanceMethod yX1_find, Cond.selects RX1 yX1_find yX1_find, Cond.code yX1_find cX1_find 5 (some .int), Cond.fieldLink RX1 25 "TokenFloor$Floor" "firstPair" "[I"]
def wsX4_goRead_r4 : List Cond := [Cond.fieldLink RX1 9 "TokenFloor$Floor" "actOf" "[I", Cond.fieldLink RX1 28 "TokenFloor$Floor" "nextPair" "[I", Cond.methodLink RX4 315 yX1_add, Cond.instanceMethod yX1_add, Cond.selects RX1 yX1_add yX1_add, Cond.code yX1_add cX1_add 4 (some .int), Cond.fieldLink RX1 35 "TokenFloor$Floor" "count" "I", Cond.fieldLink RX1 15 "TokenFloor$Floor" "colourOf" "[I", Cond.fieldLink RX1 18 "TokenFloor$Floor" "had" "[I", Cond.methodLink RX4 318 yX1_hadToken, Cond.instanceMethod yX1_hadToken, Cond.selects RX1 yX1_hadToken yX1_hadToken, Cond.code yX1_hadToken cX1_hadToken 3 (some .boolean), Cond.methodLink RX4 287 yX4_clashAt, Cond.instanceMethod yX4_clashAt, Cond.selects RX4 yX4_clashAt yX4_clashAt, Cond.code yX4_clashAt cX4_clashAt 2 none, Cond.fieldLink RX4 102 "TokenFloor$Machine" "clashAct" "I", Cond.methodLink RX4 321 yX1_put, Cond.instanceMethod yX1_put, Cond.selects RX1 yX1_put yX1_put, Cond.code yX1_put cX1_put 7 (some .boolean), Cond.fieldLink RX1 31 "TokenFloor$Floor" "left" "I", Cond.methodLink RX4 325 yX5_add]
def wsX4_goRead_r5 : List Cond := [Cond.instanceMethod yX5_add, Cond.selects RX5 yX5_add yX5_add, Cond.initialized RX5, Cond.code yX5_add cX5_add 2 none, Cond.fieldLink RX5 19 "TokenFloor$ReadyRow" "tail" "I", Cond.fieldLink RX5 9 "TokenFloor$ReadyRow" "row" "[I", Cond.methodLink RX4 283 yX6_addReader, Cond.instanceMethod yX6_addReader, Cond.selects RX6 yX6_addReader yX6_addReader, Cond.code yX6_addReader cX6_addReader 4 none, Cond.fieldLink RX6 31 "TokenFloor$Store" "nextReader" "[I", Cond.fieldLink RX6 28 "TokenFloor$Store" "lastReader" "[I", Cond.fieldLink RX6 25 "TokenFloor$Store" "firstReader" "[I", Cond.fieldLink RX6 34 "TokenFloor$Store" "waiting" "I"]
def wsX4_goRead : List Cond := .code yX4_goRead cX4_goRead 9 none :: ((wsX4_goRead_r1 ++ (wsX4_goRead_r2 ++ (wsX4_goRead_r3 ++ (wsX4_goRead_r4 ++ wsX4_goRead_r5)))) ++ wsX40 ++ wsX60 ++ wsX10 ++ wsX20 ++ wsX50)
def wsX6_takeReader : List Cond := .code yX6_takeReader cX6_takeReader 3 (some .int) :: ([.fieldLink RX6 25 "TokenFloor$Store" "firstReader" "[I", .fieldLink RX6 31 "TokenFloor$Store" "nextReader" "[I", .fieldLink RX6 34 "TokenFloor$Store" "waiting" "I"] ++ wsX60)
def wsX4_goWrite_r1 : List Cond := [Cond.fieldLink RX4 12 "TokenFloor$Machine" "store" "LTokenFloor$Store;", Cond.fieldLink RX4 280 "TokenFloor$Store" "written" "[J", Cond.fieldLink RX4 36 "TokenFloor$Machine" "floor" "LTokenFloor$Floor;", Cond.fieldLink RX4 170 "TokenFloor$Floor" "actOf" "[I", Cond.fieldLink RX4 172 "TokenFloor$Floor" "colourOf" "[I", Cond.fieldLink RX4 78 "TokenFloor$Machine" "how" "I", Cond.methodLink RX4 273 yX4_placeAsked, Cond.instanceMethod yX4_placeAsked, Cond.selects RX4 yX4_placeAsked yX4_placeAsked, Cond.initialized RX4, Cond.code yX4_placeAsked cX4_placeAsked 3 (some .int), Cond.methodLink RX4 175 yX1_cameTo, Cond.instanceMethod yX1_cameTo, Cond.selects RX1 yX1_cameTo yX1_cameTo, Cond.initialized RX1, Cond.code yX1_cameTo cX1_cameTo 3 (some .long), Cond.fieldLink RX1 21 "TokenFloor$Floor" "came" "[J", Cond.methodLink RX4 111 yX8_contentOf, Cond.static yX8_contentOf, Cond.initialized RX8, Cond.code yX8_contentOf cX8_contentOf 2 (some .int), Cond.methodLink RX4 297 yX6_placeIn, Cond.instanceMethod yX6_placeIn, Cond.selects RX6 yX6_placeIn yX6_placeIn]
def wsX4_goWrite_r2 : List Cond := [Cond.initialized RX6, Cond.code yX6_placeIn cX6_placeIn 3 (some .int), Cond.fieldLink RX6 19 "TokenFloor$Store" "start" "[I", Cond.methodLink RX6 52 yX6_sizeOf, Cond.instanceMethod yX6_sizeOf, Cond.selects RX6 yX6_sizeOf yX6_sizeOf, Cond.code yX6_sizeOf cX6_sizeOf 2 (some .int), Cond.fieldLink RX6 38 "TokenFloor$Store" "rows" "I", Cond.fieldLink RX6 22 "TokenFloor$Store" "size" "[I", Cond.methodLink RX4 276 yX4_refuseCell, Cond.instanceMethod yX4_refuseCell, Cond.selects RX4 yX4_refuseCell yX4_refuseCell, Cond.code yX4_refuseCell cX4_refuseCell 10 (some .long), Cond.methodLink RX4 293 yX8_refuseTwo, Cond.static yX8_refuseTwo, Cond.code yX8_refuseTwo cX8_refuseTwo 8 (some .long), Cond.methodLink RX8 21 yX8_sortOf, Cond.static yX8_sortOf, Cond.code yX8_sortOf cX8_sortOf 2 (some .int), Cond.methodLink RX8 25 yX8_ofFault, Cond.static yX8_ofFault, Cond.code yX8_ofFault cX8_ofFault 2 (some .long), Cond.constantLong RX8 19 (3298534883328), Cond.constantLong RX8 11 (4294967295)]
def wsX4_goWrite_r3 : List Cond := [Cond.methodLink RX4 244 yX8_ofFault, Cond.methodLink RX4 223 yX4_give, Cond.instanceMethod yX4_give, Cond.selects RX4 yX4_give yX4_give, Cond.code yX4_give cX4_give 8 none, Cond.fieldLink RX4 47 "TokenFloor$Machine" "graph" "LTokenFloor$Graph;", Cond.fieldLink RX4 303 "TokenFloor$Graph" "wayTo" "[I", Cond.fieldLink RX4 306 "TokenFloor$Graph" "wayPort" "[I", Cond.fieldLink RX4 309 "TokenFloor$Graph" "nextWay" "[I", Cond.methodLink RX4 300 yX2_firstWayOf, Cond.instanceMethod yX2_firstWayOf, Cond.selects RX2 yX2_firstWayOf yX2_firstWayOf, Cond.initialized RX2, Cond.code yX2_firstWayOf cX2_firstWayOf 3 (some .int), Cond.fieldLink RX2 33 "TokenFloor$Graph" "firstWay" "[I", Cond.methodLink RX4 160 yX4_arrive, Cond.instanceMethod yX4_arrive, Cond.selects RX4 yX4_arrive yX4_arrive, Cond.code yX4_arrive cX4_arrive 7 none, Cond.fieldLink RX4 258 "TokenFloor$Graph" "ports" "[I", Cond.fieldLink RX4 43 "TokenFloor$Machine" "ready" "LTokenFloor$ReadyRow;", Cond.methodLink RX4 312 yX1_find, Cond.instanceMethod yX1_find, Cond.selects RX1 yX1_find yX1_find]
def wsX4_goWrite_r4 : List Cond := [Cond.code yX1_find cX1_find 5 (some .int), Cond.fieldLink RX1 25 "TokenFloor$Floor" "firstPair" "[I", Cond.fieldLink RX1 9 "TokenFloor$Floor" "actOf" "[I", Cond.fieldLink RX1 28 "TokenFloor$Floor" "nextPair" "[I", Cond.methodLink RX4 315 yX1_add, Cond.instanceMethod yX1_add, Cond.selects RX1 yX1_add yX1_add, Cond.code yX1_add cX1_add 4 (some .int), Cond.fieldLink RX1 35 "TokenFloor$Floor" "count" "I", Cond.fieldLink RX1 15 "TokenFloor$Floor" "colourOf" "[I", Cond.fieldLink RX1 18 "TokenFloor$Floor" "had" "[I", Cond.methodLink RX4 318 yX1_hadToken, Cond.instanceMethod yX1_hadToken, Cond.selects RX1 yX1_hadToken yX1_hadToken, Cond.code yX1_hadToken cX1_hadToken 3 (some .boolean), Cond.methodLink RX4 287 yX4_clashAt, Cond.instanceMethod yX4_clashAt, Cond.selects RX4 yX4_clashAt yX4_clashAt, Cond.code yX4_clashAt cX4_clashAt 2 none, Cond.fieldLink RX4 102 "TokenFloor$Machine" "clashAct" "I", Cond.methodLink RX4 321 yX1_put, Cond.instanceMethod yX1_put, Cond.selects RX1 yX1_put yX1_put, Cond.code yX1_put cX1_put 7 (some .boolean)]
def wsX4_goWrite_r5 : List Cond := [Cond.fieldLink RX1 31 "TokenFloor$Floor" "left" "I", Cond.methodLink RX4 325 yX5_add, Cond.instanceMethod yX5_add, Cond.selects RX5 yX5_add yX5_add, Cond.initialized RX5, Cond.code yX5_add cX5_add 2 none, Cond.fieldLink RX5 19 "TokenFloor$ReadyRow" "tail" "I", Cond.fieldLink RX5 9 "TokenFloor$ReadyRow" "row" "[I", Cond.methodLink RX4 290 yX6_takeReader, Cond.instanceMethod yX6_takeReader, Cond.selects RX6 yX6_takeReader yX6_takeReader, Cond.code yX6_takeReader cX6_takeReader 3 (some .int), Cond.fieldLink RX6 25 "TokenFloor$Store" "firstReader" "[I", Cond.fieldLink RX6 31 "TokenFloor$Store" "nextReader" "[I", Cond.fieldLink RX6 34 "TokenFloor$Store" "waiting" "I"]
def wsX4_goWrite : List Cond := .code yX4_goWrite cX4_goWrite 11 none :: ((wsX4_goWrite_r1 ++ (wsX4_goWrite_r2 ++ (wsX4_goWrite_r3 ++ (wsX4_goWrite_r4 ++ wsX4_goWrite_r5)))) ++ wsX40 ++ wsX60 ++ wsX10 ++ wsX20 ++ wsX50)
def wsX4_goEnd : List Cond := .code yX4_goEnd cX4_goEnd 6 none :: ([.fieldLink RX4 47 "TokenFloor$Machine" "graph" "LTokenFloor$Graph;", .fieldLink RX4 186 "TokenFloor$Graph" "number" "[I", .fieldLink RX4 96 "TokenFloor$Machine" "strays" "I", .fieldLink RX4 22 "TokenFloor$Machine" "ends" "[J", .methodLink RX4 287 yX4_clashAt, .instanceMethod yX4_clashAt, .selects RX4 yX4_clashAt yX4_clashAt, .initialized RX4, .code yX4_clashAt cX4_clashAt 2 none, .fieldLink RX4 78 "TokenFloor$Machine" "how" "I", .fieldLink RX4 102 "TokenFloor$Machine" "clashAct" "I"] ++ wsX40 ++ wsX20)
def wsX8_ofTruth : List Cond := .code yX8_ofTruth cX8_ofTruth 1 (some .long) :: ([.methodLink RX8 13 yX8_ofNumber, .static yX8_ofNumber, .initialized RX8, .code yX8_ofNumber cX8_ofNumber 1 (some .long), .constantLong RX8 9 (1099511627776), .constantLong RX8 11 (4294967295)])
def wsX7_not : List Cond := .code yX7_not cX7_not 5 (some .long) :: ([.methodLink RX7 34 yX8_refuse, .static yX8_refuse, .initialized RX8, .code yX8_refuse cX8_refuse 5 (some .long), .methodLink RX8 21 yX8_sortOf, .static yX8_sortOf, .code yX8_sortOf cX8_sortOf 2 (some .int), .methodLink RX8 25 yX8_ofFault, .static yX8_ofFault, .code yX8_ofFault cX8_ofFault 2 (some .long), .constantLong RX8 19 (3298534883328), .constantLong RX8 11 (4294967295), .methodLink RX7 19 yX8_contentOf, .static yX8_contentOf, .code yX8_contentOf cX8_contentOf 2 (some .int), .methodLink RX7 30 yX8_ofTruth, .static yX8_ofTruth, .code yX8_ofTruth cX8_ofTruth 1 (some .long), .methodLink RX8 13 yX8_ofNumber, .static yX8_ofNumber, .code yX8_ofNumber cX8_ofNumber 1 (some .long), .constantLong RX8 9 (1099511627776)])
def wsX7_ofTwo_r1 : List Cond := [Cond.methodLink RX7 9 yX8_sortOf, Cond.static yX8_sortOf, Cond.initialized RX8, Cond.code yX8_sortOf cX8_sortOf 2 (some .int), Cond.methodLink RX7 15 yX8_refuseTwo, Cond.static yX8_refuseTwo, Cond.code yX8_refuseTwo cX8_refuseTwo 8 (some .long), Cond.methodLink RX8 21 yX8_sortOf, Cond.methodLink RX8 25 yX8_ofFault, Cond.static yX8_ofFault, Cond.code yX8_ofFault cX8_ofFault 2 (some .long), Cond.constantLong RX8 19 (3298534883328), Cond.constantLong RX8 11 (4294967295), Cond.methodLink RX7 19 yX8_contentOf, Cond.static yX8_contentOf, Cond.code yX8_contentOf cX8_contentOf 2 (some .int), Cond.methodLink RX7 22 yX8_ofNumber, Cond.static yX8_ofNumber, Cond.code yX8_ofNumber cX8_ofNumber 1 (some .long), Cond.constantLong RX8 9 (1099511627776), Cond.methodLink RX7 26 yX8_ofFault, Cond.methodLink RX7 30 yX8_ofTruth, Cond.static yX8_ofTruth, Cond.code yX8_ofTruth cX8_ofTruth 1 (some .long)]
def wsX7_ofTwo_r2 : List Cond := [Cond.methodLink RX8 13 yX8_ofNumber]
def wsX7_ofTwo : List Cond := .code yX7_ofTwo cX7_ofTwo 11 (some .long) :: ((wsX7_ofTwo_r1 ++ wsX7_ofTwo_r2))
def wsX4_plainResult_r1 : List Cond := [Cond.fieldLink RX4 47 "TokenFloor$Machine" "graph" "LTokenFloor$Graph;", Cond.fieldLink RX4 179 "TokenFloor$Graph" "kind" "[I", Cond.fieldLink RX4 186 "TokenFloor$Graph" "number" "[I", Cond.fieldLink RX4 12 "TokenFloor$Machine" "store" "LTokenFloor$Store;", Cond.fieldLink RX4 36 "TokenFloor$Machine" "floor" "LTokenFloor$Floor;", Cond.methodLink RX4 151 yX8_ofNumber, Cond.static yX8_ofNumber, Cond.initialized RX8, Cond.code yX8_ofNumber cX8_ofNumber 1 (some .long), Cond.constantLong RX8 9 (1099511627776), Cond.constantLong RX8 11 (4294967295), Cond.methodLink RX4 226 yX7_not, Cond.static yX7_not, Cond.initialized RX7, Cond.code yX7_not cX7_not 5 (some .long), Cond.methodLink RX7 34 yX8_refuse, Cond.static yX8_refuse, Cond.code yX8_refuse cX8_refuse 5 (some .long), Cond.methodLink RX8 21 yX8_sortOf, Cond.static yX8_sortOf, Cond.code yX8_sortOf cX8_sortOf 2 (some .int), Cond.methodLink RX8 25 yX8_ofFault, Cond.static yX8_ofFault, Cond.code yX8_ofFault cX8_ofFault 2 (some .long)]
def wsX4_plainResult_r2 : List Cond := [Cond.constantLong RX8 19 (3298534883328), Cond.methodLink RX7 19 yX8_contentOf, Cond.static yX8_contentOf, Cond.code yX8_contentOf cX8_contentOf 2 (some .int), Cond.methodLink RX7 30 yX8_ofTruth, Cond.static yX8_ofTruth, Cond.code yX8_ofTruth cX8_ofTruth 1 (some .long), Cond.methodLink RX8 13 yX8_ofNumber, Cond.methodLink RX4 232 yX8_refuse, Cond.methodLink RX4 111 yX8_contentOf, Cond.methodLink RX4 114 yX6_sizeOf, Cond.instanceMethod yX6_sizeOf, Cond.selects RX6 yX6_sizeOf yX6_sizeOf, Cond.initialized RX6, Cond.code yX6_sizeOf cX6_sizeOf 2 (some .int), Cond.fieldLink RX6 38 "TokenFloor$Store" "rows" "I", Cond.fieldLink RX6 22 "TokenFloor$Store" "size" "[I", Cond.methodLink RX4 175 yX1_cameTo, Cond.instanceMethod yX1_cameTo, Cond.selects RX1 yX1_cameTo yX1_cameTo, Cond.initialized RX1, Cond.code yX1_cameTo cX1_cameTo 3 (some .long), Cond.fieldLink RX1 21 "TokenFloor$Floor" "came" "[J", Cond.methodLink RX4 236 yX7_ofTwo]
def wsX4_plainResult_r3 : List Cond := [Cond.static yX7_ofTwo, Cond.code yX7_ofTwo cX7_ofTwo 11 (some .long), Cond.methodLink RX7 9 yX8_sortOf, Cond.methodLink RX7 15 yX8_refuseTwo, Cond.static yX8_refuseTwo, Cond.code yX8_refuseTwo cX8_refuseTwo 8 (some .long), Cond.methodLink RX7 22 yX8_ofNumber, Cond.methodLink RX7 26 yX8_ofFault]
def wsX4_plainResult : List Cond := .code yX4_plainResult cX4_plainResult 9 (some .long) :: ((wsX4_plainResult_r1 ++ (wsX4_plainResult_r2 ++ wsX4_plainResult_r3)) ++ wsX40 ++ wsX20 ++ wsX60 ++ wsX10)
def wsX4_goOff_r1 : List Cond := [Cond.fieldLink RX4 36 "TokenFloor$Machine" "floor" "LTokenFloor$Floor;", Cond.fieldLink RX4 170 "TokenFloor$Floor" "actOf" "[I", Cond.fieldLink RX4 172 "TokenFloor$Floor" "colourOf" "[I", Cond.fieldLink RX4 71 "TokenFloor$Machine" "steps" "I", Cond.fieldLink RX4 18 "TokenFloor$Machine" "firings" "[I", Cond.fieldLink RX4 47 "TokenFloor$Machine" "graph" "LTokenFloor$Graph;", Cond.fieldLink RX4 179 "TokenFloor$Graph" "kind" "[I", Cond.fieldLink RX4 29 "TokenFloor$Machine" "colours" "LTokenFloor$Colours;", Cond.fieldLink RX4 186 "TokenFloor$Graph" "number" "[I", Cond.methodLink RX4 175 yX1_cameTo, Cond.instanceMethod yX1_cameTo, Cond.selects RX1 yX1_cameTo yX1_cameTo, Cond.initialized RX1, Cond.code yX1_cameTo cX1_cameTo 3 (some .long), Cond.fieldLink RX1 21 "TokenFloor$Floor" "came" "[J", Cond.methodLink RX4 182 yX4_goSwitch, Cond.instanceMethod yX4_goSwitch, Cond.selects RX4 yX4_goSwitch yX4_goSwitch, Cond.initialized RX4, Cond.code yX4_goSwitch cX4_goSwitch 7 none, Cond.fieldLink RX4 93 "TokenFloor$Machine" "lost" "I", Cond.methodLink RX4 105 yX8_sortOf, Cond.static yX8_sortOf, Cond.initialized RX8]
def wsX4_goOff_r2 : List Cond := [Cond.code yX8_sortOf cX8_sortOf 2 (some .int), Cond.methodLink RX4 111 yX8_contentOf, Cond.static yX8_contentOf, Cond.code yX8_contentOf cX8_contentOf 2 (some .int), Cond.methodLink RX4 223 yX4_give, Cond.instanceMethod yX4_give, Cond.selects RX4 yX4_give yX4_give, Cond.code yX4_give cX4_give 8 none, Cond.fieldLink RX4 78 "TokenFloor$Machine" "how" "I", Cond.fieldLink RX4 303 "TokenFloor$Graph" "wayTo" "[I", Cond.fieldLink RX4 306 "TokenFloor$Graph" "wayPort" "[I", Cond.fieldLink RX4 309 "TokenFloor$Graph" "nextWay" "[I", Cond.methodLink RX4 300 yX2_firstWayOf, Cond.instanceMethod yX2_firstWayOf, Cond.selects RX2 yX2_firstWayOf yX2_firstWayOf, Cond.initialized RX2, Cond.code yX2_firstWayOf cX2_firstWayOf 3 (some .int), Cond.fieldLink RX2 33 "TokenFloor$Graph" "firstWay" "[I", Cond.methodLink RX4 160 yX4_arrive, Cond.instanceMethod yX4_arrive, Cond.selects RX4 yX4_arrive yX4_arrive, Cond.code yX4_arrive cX4_arrive 7 none, Cond.fieldLink RX4 258 "TokenFloor$Graph" "ports" "[I", Cond.fieldLink RX4 43 "TokenFloor$Machine" "ready" "LTokenFloor$ReadyRow;"]
def wsX4_goOff_r3 : List Cond := [Cond.methodLink RX4 312 yX1_find, Cond.instanceMethod yX1_find, Cond.selects RX1 yX1_find yX1_find, Cond.code yX1_find cX1_find 5 (some .int), Cond.fieldLink RX1 25 "TokenFloor$Floor" "firstPair" "[I", Cond.fieldLink RX1 9 "TokenFloor$Floor" "actOf" "[I", Cond.fieldLink RX1 28 "TokenFloor$Floor" "nextPair" "[I", Cond.methodLink RX4 315 yX1_add, Cond.instanceMethod yX1_add, Cond.selects RX1 yX1_add yX1_add, Cond.code yX1_add cX1_add 4 (some .int), Cond.fieldLink RX1 35 "TokenFloor$Floor" "count" "I", Cond.fieldLink RX1 15 "TokenFloor$Floor" "colourOf" "[I", Cond.fieldLink RX1 18 "TokenFloor$Floor" "had" "[I", Cond.methodLink RX4 318 yX1_hadToken, Cond.instanceMethod yX1_hadToken, Cond.selects RX1 yX1_hadToken yX1_hadToken, Cond.code yX1_hadToken cX1_hadToken 3 (some .boolean), Cond.methodLink RX4 287 yX4_clashAt, Cond.instanceMethod yX4_clashAt, Cond.selects RX4 yX4_clashAt yX4_clashAt, Cond.code yX4_clashAt cX4_clashAt 2 none, Cond.fieldLink RX4 102 "TokenFloor$Machine" "clashAct" "I", Cond.methodLink RX4 321 yX1_put]
def wsX4_goOff_r4 : List Cond := [Cond.instanceMethod yX1_put, Cond.selects RX1 yX1_put yX1_put, Cond.code yX1_put cX1_put 7 (some .boolean), Cond.fieldLink RX1 31 "TokenFloor$Floor" "left" "I", Cond.methodLink RX4 325 yX5_add, Cond.instanceMethod yX5_add, Cond.selects RX5 yX5_add yX5_add, Cond.initialized RX5, Cond.code yX5_add cX5_add 2 none, Cond.fieldLink RX5 19 "TokenFloor$ReadyRow" "tail" "I", Cond.fieldLink RX5 9 "TokenFloor$ReadyRow" "row" "[I", Cond.methodLink RX4 189 yX0_enter, Cond.instanceMethod yX0_enter, Cond.selects RX0 yX0_enter yX0_enter, Cond.initialized RX0, Cond.code yX0_enter cX0_enter 3 (some .int), Cond.methodLink RX0 35 yX0_reach, Cond.instanceMethod yX0_reach, Cond.selects RX0 yX0_reach yX0_reach, Cond.code yX0_reach cX0_reach 7 (some .int), Cond.fieldLink RX0 21 "TokenFloor$Colours" "firstReached" "[I", Cond.fieldLink RX0 18 "TokenFloor$Colours" "key" "[I", Cond.fieldLink RX0 24 "TokenFloor$Colours" "nextReached" "[I", Cond.fieldLink RX0 27 "TokenFloor$Colours" "count" "I"]
def wsX4_goOff_r5 : List Cond := [Cond.methodLink RX0 31 yX0_add, Cond.instanceMethod yX0_add, Cond.selects RX0 yX0_add yX0_add, Cond.code yX0_add cX0_add 5 (some .int), Cond.fieldLink RX0 11 "TokenFloor$Colours" "origin" "[I", Cond.fieldLink RX0 15 "TokenFloor$Colours" "outer" "[I", Cond.methodLink RX4 192 yX4_giveInside, Cond.instanceMethod yX4_giveInside, Cond.selects RX4 yX4_giveInside yX4_giveInside, Cond.code yX4_giveInside cX4_giveInside 5 none, Cond.methodLink RX4 196 yX4_goTurn, Cond.instanceMethod yX4_goTurn, Cond.selects RX4 yX4_goTurn yX4_goTurn, Cond.code yX4_goTurn cX4_goTurn 5 none, Cond.methodLink RX4 240 yX0_isTurnOf, Cond.instanceMethod yX0_isTurnOf, Cond.selects RX0 yX0_isTurnOf yX0_isTurnOf, Cond.code yX0_isTurnOf cX0_isTurnOf 3 (some .boolean), Cond.methodLink RX4 244 yX8_ofFault, Cond.static yX8_ofFault, Cond.code yX8_ofFault cX8_ofFault 2 (some .long), Cond.constantLong RX8 19 (3298534883328), Cond.constantLong RX8 11 (4294967295), Cond.methodLink RX4 249 yX0_nextTurn]
def wsX4_goOff_r6 : List Cond := [Cond.instanceMethod yX0_nextTurn, Cond.selects RX0 yX0_nextTurn yX0_nextTurn, Cond.code yX0_nextTurn cX0_nextTurn 2 (some .int), Cond.methodLink RX4 252 yX0_outerOf, Cond.instanceMethod yX0_outerOf, Cond.selects RX0 yX0_outerOf yX0_outerOf, Cond.code yX0_outerOf cX0_outerOf 2 (some .int), Cond.methodLink RX4 199 yX4_goCall, Cond.instanceMethod yX4_goCall, Cond.selects RX4 yX4_goCall yX4_goCall, Cond.code yX4_goCall cX4_goCall 7 none, Cond.methodLink RX4 255 yX0_callBy, Cond.instanceMethod yX0_callBy, Cond.selects RX0 yX0_callBy yX0_callBy, Cond.code yX0_callBy cX0_callBy 3 (some .int), Cond.methodLink RX4 261 yX2_parameterFor, Cond.instanceMethod yX2_parameterFor, Cond.selects RX2 yX2_parameterFor yX2_parameterFor, Cond.code yX2_parameterFor cX2_parameterFor 4 (some .int), Cond.fieldLink RX2 15 "TokenFloor$Graph" "number" "[I", Cond.fieldLink RX2 21 "TokenFloor$Graph" "parameter" "[I", Cond.methodLink RX4 203 yX4_goReturn, Cond.instanceMethod yX4_goReturn, Cond.selects RX4 yX4_goReturn yX4_goReturn]
def wsX4_goOff_r7 : List Cond := [Cond.code yX4_goReturn cX4_goReturn 5 none, Cond.methodLink RX4 264 yX0_callerOf, Cond.instanceMethod yX0_callerOf, Cond.selects RX0 yX0_callerOf yX0_callerOf, Cond.code yX0_callerOf cX0_callerOf 2 (some .int), Cond.methodLink RX4 207 yX4_goMake, Cond.instanceMethod yX4_goMake, Cond.selects RX4 yX4_goMake yX4_goMake, Cond.code yX4_goMake cX4_goMake 9 none, Cond.fieldLink RX4 12 "TokenFloor$Machine" "store" "LTokenFloor$Store;", Cond.fieldLink RX4 270 "TokenFloor$Store" "rowOfAct" "[I", Cond.methodLink RX4 232 yX8_refuse, Cond.static yX8_refuse, Cond.code yX8_refuse cX8_refuse 5 (some .long), Cond.methodLink RX8 21 yX8_sortOf, Cond.methodLink RX8 25 yX8_ofFault, Cond.methodLink RX4 267 yX6_make, Cond.instanceMethod yX6_make, Cond.selects RX6 yX6_make yX6_make, Cond.initialized RX6, Cond.code yX6_make cX6_make 4 (some .int), Cond.fieldLink RX6 38 "TokenFloor$Store" "rows" "I", Cond.fieldLink RX6 41 "TokenFloor$Store" "cells" "I", Cond.fieldLink RX6 19 "TokenFloor$Store" "start" "[I"]
def wsX4_goOff_r8 : List Cond := [Cond.fieldLink RX6 22 "TokenFloor$Store" "size" "[I", Cond.fieldLink RX6 15 "TokenFloor$Store" "written" "[J", Cond.fieldLink RX6 25 "TokenFloor$Store" "firstReader" "[I", Cond.fieldLink RX6 28 "TokenFloor$Store" "lastReader" "[I", Cond.methodLink RX4 124 yX8_ofRow, Cond.static yX8_ofRow, Cond.code yX8_ofRow cX8_ofRow 1 (some .long), Cond.constantLong RX8 17 (2199023255552), Cond.methodLink RX4 210 yX4_goRead, Cond.instanceMethod yX4_goRead, Cond.selects RX4 yX4_goRead yX4_goRead, Cond.code yX4_goRead cX4_goRead 9 none, Cond.fieldLink RX4 280 "TokenFloor$Store" "written" "[J", Cond.methodLink RX4 273 yX4_placeAsked, Cond.instanceMethod yX4_placeAsked, Cond.selects RX4 yX4_placeAsked yX4_placeAsked, Cond.code yX4_placeAsked cX4_placeAsked 3 (some .int), Cond.methodLink RX4 297 yX6_placeIn, Cond.instanceMethod yX6_placeIn, Cond.selects RX6 yX6_placeIn yX6_placeIn, Cond.code yX6_placeIn cX6_placeIn 3 (some .int), Cond.methodLink RX6 52 yX6_sizeOf, Cond.instanceMethod yX6_sizeOf, Cond.selects RX6 yX6_sizeOf yX6_sizeOf]
def wsX4_goOff_r9 : List Cond := [Cond.code yX6_sizeOf cX6_sizeOf 2 (some .int), Cond.methodLink RX4 276 yX4_refuseCell, Cond.instanceMethod yX4_refuseCell, Cond.selects RX4 yX4_refuseCell yX4_refuseCell, Cond.code yX4_refuseCell cX4_refuseCell 10 (some .long), Cond.methodLink RX4 293 yX8_refuseTwo, Cond.static yX8_refuseTwo, Cond.code yX8_refuseTwo cX8_refuseTwo 8 (some .long), Cond.methodLink RX4 283 yX6_addReader, Cond.instanceMethod yX6_addReader, Cond.selects RX6 yX6_addReader yX6_addReader, Cond.code yX6_addReader cX6_addReader 4 none, Cond.fieldLink RX6 31 "TokenFloor$Store" "nextReader" "[I", Cond.fieldLink RX6 34 "TokenFloor$Store" "waiting" "I", Cond.methodLink RX4 213 yX4_goWrite, Cond.instanceMethod yX4_goWrite, Cond.selects RX4 yX4_goWrite yX4_goWrite, Cond.code yX4_goWrite cX4_goWrite 11 none, Cond.methodLink RX4 290 yX6_takeReader, Cond.instanceMethod yX6_takeReader, Cond.selects RX6 yX6_takeReader yX6_takeReader, Cond.code yX6_takeReader cX6_takeReader 3 (some .int), Cond.methodLink RX4 216 yX4_goEnd, Cond.instanceMethod yX4_goEnd]
def wsX4_goOff_r10 : List Cond := [Cond.selects RX4 yX4_goEnd yX4_goEnd, Cond.code yX4_goEnd cX4_goEnd 6 none, Cond.fieldLink RX4 96 "TokenFloor$Machine" "strays" "I", Cond.fieldLink RX4 22 "TokenFloor$Machine" "ends" "[J", Cond.methodLink RX4 219 yX4_plainResult, Cond.instanceMethod yX4_plainResult, Cond.selects RX4 yX4_plainResult yX4_plainResult, Cond.code yX4_plainResult cX4_plainResult 9 (some .long), Cond.methodLink RX4 151 yX8_ofNumber, Cond.static yX8_ofNumber, Cond.code yX8_ofNumber cX8_ofNumber 1 (some .long), Cond.constantLong RX8 9 (1099511627776), Cond.methodLink RX4 226 yX7_not, Cond.static yX7_not, Cond.initialized RX7, Cond.code yX7_not cX7_not 5 (some .long), Cond.methodLink RX7 34 yX8_refuse, Cond.methodLink RX7 19 yX8_contentOf, Cond.methodLink RX7 30 yX8_ofTruth, Cond.static yX8_ofTruth, Cond.code yX8_ofTruth cX8_ofTruth 1 (some .long), Cond.methodLink RX8 13 yX8_ofNumber, Cond.methodLink RX4 114 yX6_sizeOf, Cond.methodLink RX4 236 yX7_ofTwo]
def wsX4_goOff_r11 : List Cond := [Cond.static yX7_ofTwo, Cond.code yX7_ofTwo cX7_ofTwo 11 (some .long), Cond.methodLink RX7 9 yX8_sortOf, Cond.methodLink RX7 15 yX8_refuseTwo, Cond.methodLink RX7 22 yX8_ofNumber, Cond.methodLink RX7 26 yX8_ofFault]
def wsX4_goOff : List Cond := .code yX4_goOff cX4_goOff 6 none :: ((wsX4_goOff_r1 ++ (wsX4_goOff_r2 ++ (wsX4_goOff_r3 ++ (wsX4_goOff_r4 ++ (wsX4_goOff_r5 ++ (wsX4_goOff_r6 ++ (wsX4_goOff_r7 ++ (wsX4_goOff_r8 ++ (wsX4_goOff_r9 ++ (wsX4_goOff_r10 ++ wsX4_goOff_r11)))))))))) ++ wsX40 ++ wsX10 ++ wsX20 ++ wsX50 ++ wsX00 ++ wsX60)
def wsX4_goBySeed_r1 : List Cond := [Cond.constant RX4 58 (1103515245), Cond.fieldLink RX4 43 "TokenFloor$Machine" "ready" "LTokenFloor$ReadyRow;", Cond.fieldLink RX4 71 "TokenFloor$Machine" "steps" "I", Cond.fieldLink RX4 75 "TokenFloor$Machine" "most" "I", Cond.fieldLink RX4 78 "TokenFloor$Machine" "how" "I", Cond.methodLink RX4 51 yX4_begin, Cond.instanceMethod yX4_begin, Cond.selects RX4 yX4_begin yX4_begin, Cond.initialized RX4, Cond.code yX4_begin cX4_begin 4 none, Cond.fieldLink RX4 29 "TokenFloor$Machine" "colours" "LTokenFloor$Colours;", Cond.fieldLink RX4 36 "TokenFloor$Machine" "floor" "LTokenFloor$Floor;", Cond.fieldLink RX4 12 "TokenFloor$Machine" "store" "LTokenFloor$Store;", Cond.fieldLink RX4 18 "TokenFloor$Machine" "firings" "[I", Cond.fieldLink RX4 22 "TokenFloor$Machine" "ends" "[J", Cond.fieldLink RX4 84 "TokenFloor$Machine" "tickCount" "I", Cond.fieldLink RX4 93 "TokenFloor$Machine" "lost" "I", Cond.fieldLink RX4 96 "TokenFloor$Machine" "strays" "I", Cond.fieldLink RX4 102 "TokenFloor$Machine" "clashAct" "I", Cond.fieldLink RX4 47 "TokenFloor$Machine" "graph" "LTokenFloor$Graph;", Cond.fieldLink RX4 143 "TokenFloor$Graph" "tokens" "I", Cond.fieldLink RX4 148 "TokenFloor$Graph" "tokenValue" "[I", Cond.fieldLink RX4 154 "TokenFloor$Graph" "tokenAct" "[I", Cond.fieldLink RX4 157 "TokenFloor$Graph" "tokenPort" "[I"]
def wsX4_goBySeed_r2 : List Cond := [Cond.methodLink RX4 128 yX0_reset, Cond.instanceMethod yX0_reset, Cond.selects RX0 yX0_reset yX0_reset, Cond.initialized RX0, Cond.code yX0_reset cX0_reset 1 none, Cond.fieldLink RX0 27 "TokenFloor$Colours" "count" "I", Cond.methodLink RX0 31 yX0_add, Cond.instanceMethod yX0_add, Cond.selects RX0 yX0_add yX0_add, Cond.code yX0_add cX0_add 5 (some .int), Cond.fieldLink RX0 18 "TokenFloor$Colours" "key" "[I", Cond.fieldLink RX0 11 "TokenFloor$Colours" "origin" "[I", Cond.fieldLink RX0 15 "TokenFloor$Colours" "outer" "[I", Cond.fieldLink RX0 21 "TokenFloor$Colours" "firstReached" "[I", Cond.fieldLink RX0 24 "TokenFloor$Colours" "nextReached" "[I", Cond.methodLink RX4 131 yX1_reset, Cond.instanceMethod yX1_reset, Cond.selects RX1 yX1_reset yX1_reset, Cond.initialized RX1, Cond.code yX1_reset cX1_reset 1 none, Cond.fieldLink RX1 31 "TokenFloor$Floor" "left" "I", Cond.fieldLink RX1 35 "TokenFloor$Floor" "count" "I", Cond.fieldLink RX1 25 "TokenFloor$Floor" "firstPair" "[I", Cond.methodLink RX1 38 yJ7_fill_53178]
def wsX4_goBySeed_r3 : List Cond := [Cond.static yJ7_fill_53178, Cond.initialized RJ7, Cond.code yJ7_fill_53178 cJ7_fill_53178 4 none, Cond.methodLink RX4 132 yX5_reset, Cond.instanceMethod yX5_reset, Cond.selects RX5 yX5_reset yX5_reset, Cond.initialized RX5, Cond.code yX5_reset cX5_reset 1 none, Cond.fieldLink RX5 15 "TokenFloor$ReadyRow" "head" "I", Cond.fieldLink RX5 19 "TokenFloor$ReadyRow" "tail" "I", Cond.methodLink RX4 133 yX6_reset, Cond.instanceMethod yX6_reset, Cond.selects RX6 yX6_reset yX6_reset, Cond.initialized RX6, Cond.code yX6_reset cX6_reset 1 none, Cond.fieldLink RX6 34 "TokenFloor$Store" "waiting" "I", Cond.fieldLink RX6 38 "TokenFloor$Store" "rows" "I", Cond.fieldLink RX6 41 "TokenFloor$Store" "cells" "I", Cond.fieldLink RX6 9 "TokenFloor$Store" "rowOfAct" "[I", Cond.methodLink RX6 44 yJ7_fill_53178, Cond.methodLink RX4 134 yJ7_fill_53178, Cond.methodLink RX4 140 yJ7_fill_d0a16, Cond.static yJ7_fill_d0a16, Cond.code yJ7_fill_d0a16 cJ7_fill_d0a16 5 none]
def wsX4_goBySeed_r4 : List Cond := [Cond.methodLink RX4 151 yX8_ofNumber, Cond.static yX8_ofNumber, Cond.initialized RX8, Cond.code yX8_ofNumber cX8_ofNumber 1 (some .long), Cond.constantLong RX8 9 (1099511627776), Cond.constantLong RX8 11 (4294967295), Cond.methodLink RX4 160 yX4_arrive, Cond.instanceMethod yX4_arrive, Cond.selects RX4 yX4_arrive yX4_arrive, Cond.code yX4_arrive cX4_arrive 7 none, Cond.fieldLink RX4 258 "TokenFloor$Graph" "ports" "[I", Cond.methodLink RX4 312 yX1_find, Cond.instanceMethod yX1_find, Cond.selects RX1 yX1_find yX1_find, Cond.code yX1_find cX1_find 5 (some .int), Cond.fieldLink RX1 9 "TokenFloor$Floor" "actOf" "[I", Cond.fieldLink RX1 28 "TokenFloor$Floor" "nextPair" "[I", Cond.methodLink RX4 315 yX1_add, Cond.instanceMethod yX1_add, Cond.selects RX1 yX1_add yX1_add, Cond.code yX1_add cX1_add 4 (some .int), Cond.fieldLink RX1 15 "TokenFloor$Floor" "colourOf" "[I", Cond.fieldLink RX1 18 "TokenFloor$Floor" "had" "[I", Cond.methodLink RX4 318 yX1_hadToken]
def wsX4_goBySeed_r5 : List Cond := [Cond.instanceMethod yX1_hadToken, Cond.selects RX1 yX1_hadToken yX1_hadToken, Cond.code yX1_hadToken cX1_hadToken 3 (some .boolean), Cond.methodLink RX4 287 yX4_clashAt, Cond.instanceMethod yX4_clashAt, Cond.selects RX4 yX4_clashAt yX4_clashAt, Cond.code yX4_clashAt cX4_clashAt 2 none, Cond.methodLink RX4 321 yX1_put, Cond.instanceMethod yX1_put, Cond.selects RX1 yX1_put yX1_put, Cond.code yX1_put cX1_put 7 (some .boolean), Cond.fieldLink RX1 21 "TokenFloor$Floor" "came" "[J", Cond.methodLink RX4 325 yX5_add, Cond.instanceMethod yX5_add, Cond.selects RX5 yX5_add yX5_add, Cond.code yX5_add cX5_add 2 none, Cond.fieldLink RX5 9 "TokenFloor$ReadyRow" "row" "[I", Cond.methodLink RX4 54 yX4_mayStep, Cond.instanceMethod yX4_mayStep, Cond.selects RX4 yX4_mayStep yX4_mayStep, Cond.code yX4_mayStep cX4_mayStep 2 (some .boolean), Cond.methodLink RX4 59 yX5_size, Cond.instanceMethod yX5_size, Cond.selects RX5 yX5_size yX5_size]
def wsX4_goBySeed_r6 : List Cond := [Cond.code yX5_size cX5_size 1 (some .int), Cond.methodLink RX4 63 yX5_take, Cond.instanceMethod yX5_take, Cond.selects RX5 yX5_take yX5_take, Cond.code yX5_take cX5_take 4 (some .int), Cond.methodLink RX5 26 arraycopyName, Cond.native arraycopyName, Cond.static arraycopyName, Cond.initialized "java/lang/System", Cond.methodLink RX5 22 yX5_size, Cond.methodLink RX4 67 yX4_goOff, Cond.instanceMethod yX4_goOff, Cond.selects RX4 yX4_goOff yX4_goOff, Cond.code yX4_goOff cX4_goOff 6 none, Cond.fieldLink RX4 170 "TokenFloor$Floor" "actOf" "[I", Cond.fieldLink RX4 172 "TokenFloor$Floor" "colourOf" "[I", Cond.fieldLink RX4 179 "TokenFloor$Graph" "kind" "[I", Cond.fieldLink RX4 186 "TokenFloor$Graph" "number" "[I", Cond.methodLink RX4 175 yX1_cameTo, Cond.instanceMethod yX1_cameTo, Cond.selects RX1 yX1_cameTo yX1_cameTo, Cond.code yX1_cameTo cX1_cameTo 3 (some .long), Cond.methodLink RX4 182 yX4_goSwitch, Cond.instanceMethod yX4_goSwitch]
def wsX4_goBySeed_r7 : List Cond := [Cond.selects RX4 yX4_goSwitch yX4_goSwitch, Cond.code yX4_goSwitch cX4_goSwitch 7 none, Cond.methodLink RX4 105 yX8_sortOf, Cond.static yX8_sortOf, Cond.code yX8_sortOf cX8_sortOf 2 (some .int), Cond.methodLink RX4 111 yX8_contentOf, Cond.static yX8_contentOf, Cond.code yX8_contentOf cX8_contentOf 2 (some .int), Cond.methodLink RX4 223 yX4_give, Cond.instanceMethod yX4_give, Cond.selects RX4 yX4_give yX4_give, Cond.code yX4_give cX4_give 8 none, Cond.fieldLink RX4 303 "TokenFloor$Graph" "wayTo" "[I", Cond.fieldLink RX4 306 "TokenFloor$Graph" "wayPort" "[I", Cond.fieldLink RX4 309 "TokenFloor$Graph" "nextWay" "[I", Cond.methodLink RX4 300 yX2_firstWayOf, Cond.instanceMethod yX2_firstWayOf, Cond.selects RX2 yX2_firstWayOf yX2_firstWayOf, Cond.initialized RX2, Cond.code yX2_firstWayOf cX2_firstWayOf 3 (some .int), Cond.fieldLink RX2 33 "TokenFloor$Graph" "firstWay" "[I", Cond.methodLink RX4 189 yX0_enter, Cond.instanceMethod yX0_enter, Cond.selects RX0 yX0_enter yX0_enter]
def wsX4_goBySeed_r8 : List Cond := [Cond.code yX0_enter cX0_enter 3 (some .int), Cond.methodLink RX0 35 yX0_reach, Cond.instanceMethod yX0_reach, Cond.selects RX0 yX0_reach yX0_reach, Cond.code yX0_reach cX0_reach 7 (some .int), Cond.methodLink RX4 192 yX4_giveInside, Cond.instanceMethod yX4_giveInside, Cond.selects RX4 yX4_giveInside yX4_giveInside, Cond.code yX4_giveInside cX4_giveInside 5 none, Cond.methodLink RX4 196 yX4_goTurn, Cond.instanceMethod yX4_goTurn, Cond.selects RX4 yX4_goTurn yX4_goTurn, Cond.code yX4_goTurn cX4_goTurn 5 none, Cond.methodLink RX4 240 yX0_isTurnOf, Cond.instanceMethod yX0_isTurnOf, Cond.selects RX0 yX0_isTurnOf yX0_isTurnOf, Cond.code yX0_isTurnOf cX0_isTurnOf 3 (some .boolean), Cond.methodLink RX4 244 yX8_ofFault, Cond.static yX8_ofFault, Cond.code yX8_ofFault cX8_ofFault 2 (some .long), Cond.constantLong RX8 19 (3298534883328), Cond.methodLink RX4 249 yX0_nextTurn, Cond.instanceMethod yX0_nextTurn, Cond.selects RX0 yX0_nextTurn yX0_nextTurn]
def wsX4_goBySeed_r9 : List Cond := [Cond.code yX0_nextTurn cX0_nextTurn 2 (some .int), Cond.methodLink RX4 252 yX0_outerOf, Cond.instanceMethod yX0_outerOf, Cond.selects RX0 yX0_outerOf yX0_outerOf, Cond.code yX0_outerOf cX0_outerOf 2 (some .int), Cond.methodLink RX4 199 yX4_goCall, Cond.instanceMethod yX4_goCall, Cond.selects RX4 yX4_goCall yX4_goCall, Cond.code yX4_goCall cX4_goCall 7 none, Cond.methodLink RX4 255 yX0_callBy, Cond.instanceMethod yX0_callBy, Cond.selects RX0 yX0_callBy yX0_callBy, Cond.code yX0_callBy cX0_callBy 3 (some .int), Cond.methodLink RX4 261 yX2_parameterFor, Cond.instanceMethod yX2_parameterFor, Cond.selects RX2 yX2_parameterFor yX2_parameterFor, Cond.code yX2_parameterFor cX2_parameterFor 4 (some .int), Cond.fieldLink RX2 15 "TokenFloor$Graph" "number" "[I", Cond.fieldLink RX2 21 "TokenFloor$Graph" "parameter" "[I", Cond.methodLink RX4 203 yX4_goReturn, Cond.instanceMethod yX4_goReturn, Cond.selects RX4 yX4_goReturn yX4_goReturn, Cond.code yX4_goReturn cX4_goReturn 5 none, Cond.methodLink RX4 264 yX0_callerOf]
def wsX4_goBySeed_r10 : List Cond := [Cond.instanceMethod yX0_callerOf, Cond.selects RX0 yX0_callerOf yX0_callerOf, Cond.code yX0_callerOf cX0_callerOf 2 (some .int), Cond.methodLink RX4 207 yX4_goMake, Cond.instanceMethod yX4_goMake, Cond.selects RX4 yX4_goMake yX4_goMake, Cond.code yX4_goMake cX4_goMake 9 none, Cond.fieldLink RX4 270 "TokenFloor$Store" "rowOfAct" "[I", Cond.methodLink RX4 232 yX8_refuse, Cond.static yX8_refuse, Cond.code yX8_refuse cX8_refuse 5 (some .long), Cond.methodLink RX8 21 yX8_sortOf, Cond.methodLink RX8 25 yX8_ofFault, Cond.methodLink RX4 267 yX6_make, Cond.instanceMethod yX6_make, Cond.selects RX6 yX6_make yX6_make, Cond.code yX6_make cX6_make 4 (some .int), Cond.fieldLink RX6 19 "TokenFloor$Store" "start" "[I", Cond.fieldLink RX6 22 "TokenFloor$Store" "size" "[I", Cond.fieldLink RX6 15 "TokenFloor$Store" "written" "[J", Cond.fieldLink RX6 25 "TokenFloor$Store" "firstReader" "[I", Cond.fieldLink RX6 28 "TokenFloor$Store" "lastReader" "[I", Cond.methodLink RX4 124 yX8_ofRow, Cond.static yX8_ofRow]
def wsX4_goBySeed_r11 : List Cond := [Cond.code yX8_ofRow cX8_ofRow 1 (some .long), Cond.constantLong RX8 17 (2199023255552), Cond.methodLink RX4 210 yX4_goRead, Cond.instanceMethod yX4_goRead, Cond.selects RX4 yX4_goRead yX4_goRead, Cond.code yX4_goRead cX4_goRead 9 none, Cond.fieldLink RX4 280 "TokenFloor$Store" "written" "[J", Cond.methodLink RX4 273 yX4_placeAsked, Cond.instanceMethod yX4_placeAsked, Cond.selects RX4 yX4_placeAsked yX4_placeAsked, Cond.code yX4_placeAsked cX4_placeAsked 3 (some .int), Cond.methodLink RX4 297 yX6_placeIn, Cond.instanceMethod yX6_placeIn, Cond.selects RX6 yX6_placeIn yX6_placeIn, Cond.code yX6_placeIn cX6_placeIn 3 (some .int), Cond.methodLink RX6 52 yX6_sizeOf, Cond.instanceMethod yX6_sizeOf, Cond.selects RX6 yX6_sizeOf yX6_sizeOf, Cond.code yX6_sizeOf cX6_sizeOf 2 (some .int), Cond.methodLink RX4 276 yX4_refuseCell, Cond.instanceMethod yX4_refuseCell, Cond.selects RX4 yX4_refuseCell yX4_refuseCell, Cond.code yX4_refuseCell cX4_refuseCell 10 (some .long), Cond.methodLink RX4 293 yX8_refuseTwo]
def wsX4_goBySeed_r12 : List Cond := [Cond.static yX8_refuseTwo, Cond.code yX8_refuseTwo cX8_refuseTwo 8 (some .long), Cond.methodLink RX4 283 yX6_addReader, Cond.instanceMethod yX6_addReader, Cond.selects RX6 yX6_addReader yX6_addReader, Cond.code yX6_addReader cX6_addReader 4 none, Cond.fieldLink RX6 31 "TokenFloor$Store" "nextReader" "[I", Cond.methodLink RX4 213 yX4_goWrite, Cond.instanceMethod yX4_goWrite, Cond.selects RX4 yX4_goWrite yX4_goWrite, Cond.code yX4_goWrite cX4_goWrite 11 none, Cond.methodLink RX4 290 yX6_takeReader, Cond.instanceMethod yX6_takeReader, Cond.selects RX6 yX6_takeReader yX6_takeReader, Cond.code yX6_takeReader cX6_takeReader 3 (some .int), Cond.methodLink RX4 216 yX4_goEnd, Cond.instanceMethod yX4_goEnd, Cond.selects RX4 yX4_goEnd yX4_goEnd, Cond.code yX4_goEnd cX4_goEnd 6 none, Cond.methodLink RX4 219 yX4_plainResult, Cond.instanceMethod yX4_plainResult, Cond.selects RX4 yX4_plainResult yX4_plainResult, Cond.code yX4_plainResult cX4_plainResult 9 (some .long), Cond.methodLink RX4 226 yX7_not]
def wsX4_goBySeed_r13 : List Cond := [Cond.static yX7_not, Cond.initialized RX7, Cond.code yX7_not cX7_not 5 (some .long), Cond.methodLink RX7 34 yX8_refuse, Cond.methodLink RX7 19 yX8_contentOf, Cond.methodLink RX7 30 yX8_ofTruth, Cond.static yX8_ofTruth, Cond.code yX8_ofTruth cX8_ofTruth 1 (some .long), Cond.methodLink RX8 13 yX8_ofNumber, Cond.methodLink RX4 114 yX6_sizeOf, Cond.methodLink RX4 236 yX7_ofTwo, Cond.static yX7_ofTwo, Cond.code yX7_ofTwo cX7_ofTwo 11 (some .long), Cond.methodLink RX7 9 yX8_sortOf, Cond.methodLink RX7 15 yX8_refuseTwo, Cond.methodLink RX7 22 yX8_ofNumber, Cond.methodLink RX7 26 yX8_ofFault]
def wsX4_goBySeed : List Cond := .code yX4_goBySeed cX4_goBySeed 6 (some .int) :: ((wsX4_goBySeed_r1 ++ (wsX4_goBySeed_r2 ++ (wsX4_goBySeed_r3 ++ (wsX4_goBySeed_r4 ++ (wsX4_goBySeed_r5 ++ (wsX4_goBySeed_r6 ++ (wsX4_goBySeed_r7 ++ (wsX4_goBySeed_r8 ++ (wsX4_goBySeed_r9 ++ (wsX4_goBySeed_r10 ++ (wsX4_goBySeed_r11 ++ (wsX4_goBySeed_r12 ++ wsX4_goBySeed_r13)))))))))))) ++ wsX40 ++ wsX20 ++ wsX00 ++ wsX10 ++ wsX50 ++ wsX60)
def wsX4_goTick_r1 : List Cond := [Cond.fieldLink RX4 43 "TokenFloor$Machine" "ready" "LTokenFloor$ReadyRow;", Cond.fieldLink RX4 84 "TokenFloor$Machine" "tickCount" "I", Cond.fieldLink RX4 75 "TokenFloor$Machine" "most" "I", Cond.methodLink RX4 164 Lib.Math.max.name, Cond.static Lib.Math.max.name, Cond.initialized "java/lang/Math", Cond.code Lib.Math.max.name Lib.Math.max.code 2 (some .int), Cond.methodLink RX4 59 yX5_size, Cond.instanceMethod yX5_size, Cond.selects RX5 yX5_size yX5_size, Cond.initialized RX5, Cond.code yX5_size cX5_size 1 (some .int), Cond.fieldLink RX5 19 "TokenFloor$ReadyRow" "tail" "I", Cond.fieldLink RX5 15 "TokenFloor$ReadyRow" "head" "I", Cond.methodLink RX4 54 yX4_mayStep, Cond.instanceMethod yX4_mayStep, Cond.selects RX4 yX4_mayStep yX4_mayStep, Cond.initialized RX4, Cond.code yX4_mayStep cX4_mayStep 2 (some .boolean), Cond.fieldLink RX4 78 "TokenFloor$Machine" "how" "I", Cond.fieldLink RX4 71 "TokenFloor$Machine" "steps" "I", Cond.methodLink RX4 63 yX5_take, Cond.instanceMethod yX5_take, Cond.selects RX5 yX5_take yX5_take]
def wsX4_goTick_r2 : List Cond := [Cond.code yX5_take cX5_take 4 (some .int), Cond.fieldLink RX5 9 "TokenFloor$ReadyRow" "row" "[I", Cond.methodLink RX5 26 arraycopyName, Cond.native arraycopyName, Cond.static arraycopyName, Cond.initialized "java/lang/System", Cond.methodLink RX5 22 yX5_size, Cond.methodLink RX4 67 yX4_goOff, Cond.instanceMethod yX4_goOff, Cond.selects RX4 yX4_goOff yX4_goOff, Cond.code yX4_goOff cX4_goOff 6 none, Cond.fieldLink RX4 36 "TokenFloor$Machine" "floor" "LTokenFloor$Floor;", Cond.fieldLink RX4 170 "TokenFloor$Floor" "actOf" "[I", Cond.fieldLink RX4 172 "TokenFloor$Floor" "colourOf" "[I", Cond.fieldLink RX4 18 "TokenFloor$Machine" "firings" "[I", Cond.fieldLink RX4 47 "TokenFloor$Machine" "graph" "LTokenFloor$Graph;", Cond.fieldLink RX4 179 "TokenFloor$Graph" "kind" "[I", Cond.fieldLink RX4 29 "TokenFloor$Machine" "colours" "LTokenFloor$Colours;", Cond.fieldLink RX4 186 "TokenFloor$Graph" "number" "[I", Cond.methodLink RX4 175 yX1_cameTo, Cond.instanceMethod yX1_cameTo, Cond.selects RX1 yX1_cameTo yX1_cameTo, Cond.initialized RX1, Cond.code yX1_cameTo cX1_cameTo 3 (some .long)]
def wsX4_goTick_r3 : List Cond := [Cond.fieldLink RX1 21 "TokenFloor$Floor" "came" "[J", Cond.methodLink RX4 182 yX4_goSwitch, Cond.instanceMethod yX4_goSwitch, Cond.selects RX4 yX4_goSwitch yX4_goSwitch, Cond.code yX4_goSwitch cX4_goSwitch 7 none, Cond.fieldLink RX4 93 "TokenFloor$Machine" "lost" "I", Cond.methodLink RX4 105 yX8_sortOf, Cond.static yX8_sortOf, Cond.initialized RX8, Cond.code yX8_sortOf cX8_sortOf 2 (some .int), Cond.methodLink RX4 111 yX8_contentOf, Cond.static yX8_contentOf, Cond.code yX8_contentOf cX8_contentOf 2 (some .int), Cond.methodLink RX4 223 yX4_give, Cond.instanceMethod yX4_give, Cond.selects RX4 yX4_give yX4_give, Cond.code yX4_give cX4_give 8 none, Cond.fieldLink RX4 303 "TokenFloor$Graph" "wayTo" "[I", Cond.fieldLink RX4 306 "TokenFloor$Graph" "wayPort" "[I", Cond.fieldLink RX4 309 "TokenFloor$Graph" "nextWay" "[I", Cond.methodLink RX4 300 yX2_firstWayOf, Cond.instanceMethod yX2_firstWayOf, Cond.selects RX2 yX2_firstWayOf yX2_firstWayOf, Cond.initialized RX2]
def wsX4_goTick_r4 : List Cond := [Cond.code yX2_firstWayOf cX2_firstWayOf 3 (some .int), Cond.fieldLink RX2 33 "TokenFloor$Graph" "firstWay" "[I", Cond.methodLink RX4 160 yX4_arrive, Cond.instanceMethod yX4_arrive, Cond.selects RX4 yX4_arrive yX4_arrive, Cond.code yX4_arrive cX4_arrive 7 none, Cond.fieldLink RX4 258 "TokenFloor$Graph" "ports" "[I", Cond.methodLink RX4 312 yX1_find, Cond.instanceMethod yX1_find, Cond.selects RX1 yX1_find yX1_find, Cond.code yX1_find cX1_find 5 (some .int), Cond.fieldLink RX1 25 "TokenFloor$Floor" "firstPair" "[I", Cond.fieldLink RX1 9 "TokenFloor$Floor" "actOf" "[I", Cond.fieldLink RX1 28 "TokenFloor$Floor" "nextPair" "[I", Cond.methodLink RX4 315 yX1_add, Cond.instanceMethod yX1_add, Cond.selects RX1 yX1_add yX1_add, Cond.code yX1_add cX1_add 4 (some .int), Cond.fieldLink RX1 35 "TokenFloor$Floor" "count" "I", Cond.fieldLink RX1 15 "TokenFloor$Floor" "colourOf" "[I", Cond.fieldLink RX1 18 "TokenFloor$Floor" "had" "[I", Cond.methodLink RX4 318 yX1_hadToken, Cond.instanceMethod yX1_hadToken, Cond.selects RX1 yX1_hadToken yX1_hadToken]
def wsX4_goTick_r5 : List Cond := [Cond.code yX1_hadToken cX1_hadToken 3 (some .boolean), Cond.methodLink RX4 287 yX4_clashAt, Cond.instanceMethod yX4_clashAt, Cond.selects RX4 yX4_clashAt yX4_clashAt, Cond.code yX4_clashAt cX4_clashAt 2 none, Cond.fieldLink RX4 102 "TokenFloor$Machine" "clashAct" "I", Cond.methodLink RX4 321 yX1_put, Cond.instanceMethod yX1_put, Cond.selects RX1 yX1_put yX1_put, Cond.code yX1_put cX1_put 7 (some .boolean), Cond.fieldLink RX1 31 "TokenFloor$Floor" "left" "I", Cond.methodLink RX4 325 yX5_add, Cond.instanceMethod yX5_add, Cond.selects RX5 yX5_add yX5_add, Cond.code yX5_add cX5_add 2 none, Cond.methodLink RX4 189 yX0_enter, Cond.instanceMethod yX0_enter, Cond.selects RX0 yX0_enter yX0_enter, Cond.initialized RX0, Cond.code yX0_enter cX0_enter 3 (some .int), Cond.methodLink RX0 35 yX0_reach, Cond.instanceMethod yX0_reach, Cond.selects RX0 yX0_reach yX0_reach, Cond.code yX0_reach cX0_reach 7 (some .int)]
def wsX4_goTick_r6 : List Cond := [Cond.fieldLink RX0 21 "TokenFloor$Colours" "firstReached" "[I", Cond.fieldLink RX0 18 "TokenFloor$Colours" "key" "[I", Cond.fieldLink RX0 24 "TokenFloor$Colours" "nextReached" "[I", Cond.fieldLink RX0 27 "TokenFloor$Colours" "count" "I", Cond.methodLink RX0 31 yX0_add, Cond.instanceMethod yX0_add, Cond.selects RX0 yX0_add yX0_add, Cond.code yX0_add cX0_add 5 (some .int), Cond.fieldLink RX0 11 "TokenFloor$Colours" "origin" "[I", Cond.fieldLink RX0 15 "TokenFloor$Colours" "outer" "[I", Cond.methodLink RX4 192 yX4_giveInside, Cond.instanceMethod yX4_giveInside, Cond.selects RX4 yX4_giveInside yX4_giveInside, Cond.code yX4_giveInside cX4_giveInside 5 none, Cond.methodLink RX4 196 yX4_goTurn, Cond.instanceMethod yX4_goTurn, Cond.selects RX4 yX4_goTurn yX4_goTurn, Cond.code yX4_goTurn cX4_goTurn 5 none, Cond.methodLink RX4 240 yX0_isTurnOf, Cond.instanceMethod yX0_isTurnOf, Cond.selects RX0 yX0_isTurnOf yX0_isTurnOf, Cond.code yX0_isTurnOf cX0_isTurnOf 3 (some .boolean), Cond.methodLink RX4 244 yX8_ofFault, Cond.static yX8_ofFault]
def wsX4_goTick_r7 : List Cond := [Cond.code yX8_ofFault cX8_ofFault 2 (some .long), Cond.constantLong RX8 19 (3298534883328), Cond.constantLong RX8 11 (4294967295), Cond.methodLink RX4 249 yX0_nextTurn, Cond.instanceMethod yX0_nextTurn, Cond.selects RX0 yX0_nextTurn yX0_nextTurn, Cond.code yX0_nextTurn cX0_nextTurn 2 (some .int), Cond.methodLink RX4 252 yX0_outerOf, Cond.instanceMethod yX0_outerOf, Cond.selects RX0 yX0_outerOf yX0_outerOf, Cond.code yX0_outerOf cX0_outerOf 2 (some .int), Cond.methodLink RX4 199 yX4_goCall, Cond.instanceMethod yX4_goCall, Cond.selects RX4 yX4_goCall yX4_goCall, Cond.code yX4_goCall cX4_goCall 7 none, Cond.methodLink RX4 255 yX0_callBy, Cond.instanceMethod yX0_callBy, Cond.selects RX0 yX0_callBy yX0_callBy, Cond.code yX0_callBy cX0_callBy 3 (some .int), Cond.methodLink RX4 261 yX2_parameterFor, Cond.instanceMethod yX2_parameterFor, Cond.selects RX2 yX2_parameterFor yX2_parameterFor, Cond.code yX2_parameterFor cX2_parameterFor 4 (some .int), Cond.fieldLink RX2 15 "TokenFloor$Graph" "number" "[I"]
def wsX4_goTick_r8 : List Cond := [Cond.fieldLink RX2 21 "TokenFloor$Graph" "parameter" "[I", Cond.methodLink RX4 203 yX4_goReturn, Cond.instanceMethod yX4_goReturn, Cond.selects RX4 yX4_goReturn yX4_goReturn, Cond.code yX4_goReturn cX4_goReturn 5 none, Cond.methodLink RX4 264 yX0_callerOf, Cond.instanceMethod yX0_callerOf, Cond.selects RX0 yX0_callerOf yX0_callerOf, Cond.code yX0_callerOf cX0_callerOf 2 (some .int), Cond.methodLink RX4 207 yX4_goMake, Cond.instanceMethod yX4_goMake, Cond.selects RX4 yX4_goMake yX4_goMake, Cond.code yX4_goMake cX4_goMake 9 none, Cond.fieldLink RX4 12 "TokenFloor$Machine" "store" "LTokenFloor$Store;", Cond.fieldLink RX4 270 "TokenFloor$Store" "rowOfAct" "[I", Cond.methodLink RX4 232 yX8_refuse, Cond.static yX8_refuse, Cond.code yX8_refuse cX8_refuse 5 (some .long), Cond.methodLink RX8 21 yX8_sortOf, Cond.methodLink RX8 25 yX8_ofFault, Cond.methodLink RX4 267 yX6_make, Cond.instanceMethod yX6_make, Cond.selects RX6 yX6_make yX6_make, Cond.initialized RX6]
def wsX4_goTick_r9 : List Cond := [Cond.code yX6_make cX6_make 4 (some .int), Cond.fieldLink RX6 38 "TokenFloor$Store" "rows" "I", Cond.fieldLink RX6 41 "TokenFloor$Store" "cells" "I", Cond.fieldLink RX6 19 "TokenFloor$Store" "start" "[I", Cond.fieldLink RX6 22 "TokenFloor$Store" "size" "[I", Cond.fieldLink RX6 15 "TokenFloor$Store" "written" "[J", Cond.fieldLink RX6 25 "TokenFloor$Store" "firstReader" "[I", Cond.fieldLink RX6 28 "TokenFloor$Store" "lastReader" "[I", Cond.methodLink RX4 124 yX8_ofRow, Cond.static yX8_ofRow, Cond.code yX8_ofRow cX8_ofRow 1 (some .long), Cond.constantLong RX8 17 (2199023255552), Cond.methodLink RX4 210 yX4_goRead, Cond.instanceMethod yX4_goRead, Cond.selects RX4 yX4_goRead yX4_goRead, Cond.code yX4_goRead cX4_goRead 9 none, Cond.fieldLink RX4 280 "TokenFloor$Store" "written" "[J", Cond.methodLink RX4 273 yX4_placeAsked, Cond.instanceMethod yX4_placeAsked, Cond.selects RX4 yX4_placeAsked yX4_placeAsked, Cond.code yX4_placeAsked cX4_placeAsked 3 (some .int), Cond.methodLink RX4 297 yX6_placeIn, Cond.instanceMethod yX6_placeIn, Cond.selects RX6 yX6_placeIn yX6_placeIn]
def wsX4_goTick_r10 : List Cond := [Cond.code yX6_placeIn cX6_placeIn 3 (some .int), Cond.methodLink RX6 52 yX6_sizeOf, Cond.instanceMethod yX6_sizeOf, Cond.selects RX6 yX6_sizeOf yX6_sizeOf, Cond.code yX6_sizeOf cX6_sizeOf 2 (some .int), Cond.methodLink RX4 276 yX4_refuseCell, Cond.instanceMethod yX4_refuseCell, Cond.selects RX4 yX4_refuseCell yX4_refuseCell, Cond.code yX4_refuseCell cX4_refuseCell 10 (some .long), Cond.methodLink RX4 293 yX8_refuseTwo, Cond.static yX8_refuseTwo, Cond.code yX8_refuseTwo cX8_refuseTwo 8 (some .long), Cond.methodLink RX4 283 yX6_addReader, Cond.instanceMethod yX6_addReader, Cond.selects RX6 yX6_addReader yX6_addReader, Cond.code yX6_addReader cX6_addReader 4 none, Cond.fieldLink RX6 31 "TokenFloor$Store" "nextReader" "[I", Cond.fieldLink RX6 34 "TokenFloor$Store" "waiting" "I", Cond.methodLink RX4 213 yX4_goWrite, Cond.instanceMethod yX4_goWrite, Cond.selects RX4 yX4_goWrite yX4_goWrite, Cond.code yX4_goWrite cX4_goWrite 11 none, Cond.methodLink RX4 290 yX6_takeReader, Cond.instanceMethod yX6_takeReader]
def wsX4_goTick_r11 : List Cond := [Cond.selects RX6 yX6_takeReader yX6_takeReader, Cond.code yX6_takeReader cX6_takeReader 3 (some .int), Cond.methodLink RX4 216 yX4_goEnd, Cond.instanceMethod yX4_goEnd, Cond.selects RX4 yX4_goEnd yX4_goEnd, Cond.code yX4_goEnd cX4_goEnd 6 none, Cond.fieldLink RX4 96 "TokenFloor$Machine" "strays" "I", Cond.fieldLink RX4 22 "TokenFloor$Machine" "ends" "[J", Cond.methodLink RX4 219 yX4_plainResult, Cond.instanceMethod yX4_plainResult, Cond.selects RX4 yX4_plainResult yX4_plainResult, Cond.code yX4_plainResult cX4_plainResult 9 (some .long), Cond.methodLink RX4 151 yX8_ofNumber, Cond.static yX8_ofNumber, Cond.code yX8_ofNumber cX8_ofNumber 1 (some .long), Cond.constantLong RX8 9 (1099511627776), Cond.methodLink RX4 226 yX7_not, Cond.static yX7_not, Cond.initialized RX7, Cond.code yX7_not cX7_not 5 (some .long), Cond.methodLink RX7 34 yX8_refuse, Cond.methodLink RX7 19 yX8_contentOf, Cond.methodLink RX7 30 yX8_ofTruth, Cond.static yX8_ofTruth]
def wsX4_goTick_r12 : List Cond := [Cond.code yX8_ofTruth cX8_ofTruth 1 (some .long), Cond.methodLink RX8 13 yX8_ofNumber, Cond.methodLink RX4 114 yX6_sizeOf, Cond.methodLink RX4 236 yX7_ofTwo, Cond.static yX7_ofTwo, Cond.code yX7_ofTwo cX7_ofTwo 11 (some .long), Cond.methodLink RX7 9 yX8_sortOf, Cond.methodLink RX7 15 yX8_refuseTwo, Cond.methodLink RX7 22 yX8_ofNumber, Cond.methodLink RX7 26 yX8_ofFault]
def wsX4_goTick : List Cond := .code yX4_goTick cX4_goTick 4 none :: ((wsX4_goTick_r1 ++ (wsX4_goTick_r2 ++ (wsX4_goTick_r3 ++ (wsX4_goTick_r4 ++ (wsX4_goTick_r5 ++ (wsX4_goTick_r6 ++ (wsX4_goTick_r7 ++ (wsX4_goTick_r8 ++ (wsX4_goTick_r9 ++ (wsX4_goTick_r10 ++ (wsX4_goTick_r11 ++ wsX4_goTick_r12))))))))))) ++ wsX40 ++ wsX50 ++ wsX10 ++ wsX20 ++ wsX00 ++ wsX60)
def wsX4_goByTicks_r1 : List Cond := [Cond.fieldLink RX4 78 "TokenFloor$Machine" "how" "I", Cond.methodLink RX4 51 yX4_begin, Cond.instanceMethod yX4_begin, Cond.selects RX4 yX4_begin yX4_begin, Cond.initialized RX4, Cond.code yX4_begin cX4_begin 4 none, Cond.fieldLink RX4 29 "TokenFloor$Machine" "colours" "LTokenFloor$Colours;", Cond.fieldLink RX4 36 "TokenFloor$Machine" "floor" "LTokenFloor$Floor;", Cond.fieldLink RX4 43 "TokenFloor$Machine" "ready" "LTokenFloor$ReadyRow;", Cond.fieldLink RX4 12 "TokenFloor$Machine" "store" "LTokenFloor$Store;", Cond.fieldLink RX4 18 "TokenFloor$Machine" "firings" "[I", Cond.fieldLink RX4 22 "TokenFloor$Machine" "ends" "[J", Cond.fieldLink RX4 71 "TokenFloor$Machine" "steps" "I", Cond.fieldLink RX4 84 "TokenFloor$Machine" "tickCount" "I", Cond.fieldLink RX4 75 "TokenFloor$Machine" "most" "I", Cond.fieldLink RX4 93 "TokenFloor$Machine" "lost" "I", Cond.fieldLink RX4 96 "TokenFloor$Machine" "strays" "I", Cond.fieldLink RX4 102 "TokenFloor$Machine" "clashAct" "I", Cond.fieldLink RX4 47 "TokenFloor$Machine" "graph" "LTokenFloor$Graph;", Cond.fieldLink RX4 143 "TokenFloor$Graph" "tokens" "I", Cond.fieldLink RX4 148 "TokenFloor$Graph" "tokenValue" "[I", Cond.fieldLink RX4 154 "TokenFloor$Graph" "tokenAct" "[I", Cond.fieldLink RX4 157 "TokenFloor$Graph" "tokenPort" "[I", Cond.methodLink RX4 128 yX0_reset]
def wsX4_goByTicks_r2 : List Cond := [Cond.instanceMethod yX0_reset, Cond.selects RX0 yX0_reset yX0_reset, Cond.initialized RX0, Cond.code yX0_reset cX0_reset 1 none, Cond.fieldLink RX0 27 "TokenFloor$Colours" "count" "I", Cond.methodLink RX0 31 yX0_add, Cond.instanceMethod yX0_add, Cond.selects RX0 yX0_add yX0_add, Cond.code yX0_add cX0_add 5 (some .int), Cond.fieldLink RX0 18 "TokenFloor$Colours" "key" "[I", Cond.fieldLink RX0 11 "TokenFloor$Colours" "origin" "[I", Cond.fieldLink RX0 15 "TokenFloor$Colours" "outer" "[I", Cond.fieldLink RX0 21 "TokenFloor$Colours" "firstReached" "[I", Cond.fieldLink RX0 24 "TokenFloor$Colours" "nextReached" "[I", Cond.methodLink RX4 131 yX1_reset, Cond.instanceMethod yX1_reset, Cond.selects RX1 yX1_reset yX1_reset, Cond.initialized RX1, Cond.code yX1_reset cX1_reset 1 none, Cond.fieldLink RX1 31 "TokenFloor$Floor" "left" "I", Cond.fieldLink RX1 35 "TokenFloor$Floor" "count" "I", Cond.fieldLink RX1 25 "TokenFloor$Floor" "firstPair" "[I", Cond.methodLink RX1 38 yJ7_fill_53178, Cond.static yJ7_fill_53178]
def wsX4_goByTicks_r3 : List Cond := [Cond.initialized RJ7, Cond.code yJ7_fill_53178 cJ7_fill_53178 4 none, Cond.methodLink RX4 132 yX5_reset, Cond.instanceMethod yX5_reset, Cond.selects RX5 yX5_reset yX5_reset, Cond.initialized RX5, Cond.code yX5_reset cX5_reset 1 none, Cond.fieldLink RX5 15 "TokenFloor$ReadyRow" "head" "I", Cond.fieldLink RX5 19 "TokenFloor$ReadyRow" "tail" "I", Cond.methodLink RX4 133 yX6_reset, Cond.instanceMethod yX6_reset, Cond.selects RX6 yX6_reset yX6_reset, Cond.initialized RX6, Cond.code yX6_reset cX6_reset 1 none, Cond.fieldLink RX6 34 "TokenFloor$Store" "waiting" "I", Cond.fieldLink RX6 38 "TokenFloor$Store" "rows" "I", Cond.fieldLink RX6 41 "TokenFloor$Store" "cells" "I", Cond.fieldLink RX6 9 "TokenFloor$Store" "rowOfAct" "[I", Cond.methodLink RX6 44 yJ7_fill_53178, Cond.methodLink RX4 134 yJ7_fill_53178, Cond.methodLink RX4 140 yJ7_fill_d0a16, Cond.static yJ7_fill_d0a16, Cond.code yJ7_fill_d0a16 cJ7_fill_d0a16 5 none, Cond.methodLink RX4 151 yX8_ofNumber]
def wsX4_goByTicks_r4 : List Cond := [Cond.static yX8_ofNumber, Cond.initialized RX8, Cond.code yX8_ofNumber cX8_ofNumber 1 (some .long), Cond.constantLong RX8 9 (1099511627776), Cond.constantLong RX8 11 (4294967295), Cond.methodLink RX4 160 yX4_arrive, Cond.instanceMethod yX4_arrive, Cond.selects RX4 yX4_arrive yX4_arrive, Cond.code yX4_arrive cX4_arrive 7 none, Cond.fieldLink RX4 258 "TokenFloor$Graph" "ports" "[I", Cond.methodLink RX4 312 yX1_find, Cond.instanceMethod yX1_find, Cond.selects RX1 yX1_find yX1_find, Cond.code yX1_find cX1_find 5 (some .int), Cond.fieldLink RX1 9 "TokenFloor$Floor" "actOf" "[I", Cond.fieldLink RX1 28 "TokenFloor$Floor" "nextPair" "[I", Cond.methodLink RX4 315 yX1_add, Cond.instanceMethod yX1_add, Cond.selects RX1 yX1_add yX1_add, Cond.code yX1_add cX1_add 4 (some .int), Cond.fieldLink RX1 15 "TokenFloor$Floor" "colourOf" "[I", Cond.fieldLink RX1 18 "TokenFloor$Floor" "had" "[I", Cond.methodLink RX4 318 yX1_hadToken, Cond.instanceMethod yX1_hadToken]
def wsX4_goByTicks_r5 : List Cond := [Cond.selects RX1 yX1_hadToken yX1_hadToken, Cond.code yX1_hadToken cX1_hadToken 3 (some .boolean), Cond.methodLink RX4 287 yX4_clashAt, Cond.instanceMethod yX4_clashAt, Cond.selects RX4 yX4_clashAt yX4_clashAt, Cond.code yX4_clashAt cX4_clashAt 2 none, Cond.methodLink RX4 321 yX1_put, Cond.instanceMethod yX1_put, Cond.selects RX1 yX1_put yX1_put, Cond.code yX1_put cX1_put 7 (some .boolean), Cond.fieldLink RX1 21 "TokenFloor$Floor" "came" "[J", Cond.methodLink RX4 325 yX5_add, Cond.instanceMethod yX5_add, Cond.selects RX5 yX5_add yX5_add, Cond.code yX5_add cX5_add 2 none, Cond.fieldLink RX5 9 "TokenFloor$ReadyRow" "row" "[I", Cond.methodLink RX4 54 yX4_mayStep, Cond.instanceMethod yX4_mayStep, Cond.selects RX4 yX4_mayStep yX4_mayStep, Cond.code yX4_mayStep cX4_mayStep 2 (some .boolean), Cond.methodLink RX4 59 yX5_size, Cond.instanceMethod yX5_size, Cond.selects RX5 yX5_size yX5_size, Cond.code yX5_size cX5_size 1 (some .int)]
def wsX4_goByTicks_r6 : List Cond := [Cond.methodLink RX4 81 yX4_goTick, Cond.instanceMethod yX4_goTick, Cond.selects RX4 yX4_goTick yX4_goTick, Cond.code yX4_goTick cX4_goTick 4 none, Cond.methodLink RX4 164 Lib.Math.max.name, Cond.static Lib.Math.max.name, Cond.initialized "java/lang/Math", Cond.code Lib.Math.max.name Lib.Math.max.code 2 (some .int), Cond.methodLink RX4 63 yX5_take, Cond.instanceMethod yX5_take, Cond.selects RX5 yX5_take yX5_take, Cond.code yX5_take cX5_take 4 (some .int), Cond.methodLink RX5 26 arraycopyName, Cond.native arraycopyName, Cond.static arraycopyName, Cond.initialized "java/lang/System", Cond.methodLink RX5 22 yX5_size, Cond.methodLink RX4 67 yX4_goOff, Cond.instanceMethod yX4_goOff, Cond.selects RX4 yX4_goOff yX4_goOff, Cond.code yX4_goOff cX4_goOff 6 none, Cond.fieldLink RX4 170 "TokenFloor$Floor" "actOf" "[I", Cond.fieldLink RX4 172 "TokenFloor$Floor" "colourOf" "[I", Cond.fieldLink RX4 179 "TokenFloor$Graph" "kind" "[I"]
def wsX4_goByTicks_r7 : List Cond := [Cond.fieldLink RX4 186 "TokenFloor$Graph" "number" "[I", Cond.methodLink RX4 175 yX1_cameTo, Cond.instanceMethod yX1_cameTo, Cond.selects RX1 yX1_cameTo yX1_cameTo, Cond.code yX1_cameTo cX1_cameTo 3 (some .long), Cond.methodLink RX4 182 yX4_goSwitch, Cond.instanceMethod yX4_goSwitch, Cond.selects RX4 yX4_goSwitch yX4_goSwitch, Cond.code yX4_goSwitch cX4_goSwitch 7 none, Cond.methodLink RX4 105 yX8_sortOf, Cond.static yX8_sortOf, Cond.code yX8_sortOf cX8_sortOf 2 (some .int), Cond.methodLink RX4 111 yX8_contentOf, Cond.static yX8_contentOf, Cond.code yX8_contentOf cX8_contentOf 2 (some .int), Cond.methodLink RX4 223 yX4_give, Cond.instanceMethod yX4_give, Cond.selects RX4 yX4_give yX4_give, Cond.code yX4_give cX4_give 8 none, Cond.fieldLink RX4 303 "TokenFloor$Graph" "wayTo" "[I", Cond.fieldLink RX4 306 "TokenFloor$Graph" "wayPort" "[I", Cond.fieldLink RX4 309 "TokenFloor$Graph" "nextWay" "[I", Cond.methodLink RX4 300 yX2_firstWayOf, Cond.instanceMethod yX2_firstWayOf]
def wsX4_goByTicks_r8 : List Cond := [Cond.selects RX2 yX2_firstWayOf yX2_firstWayOf, Cond.initialized RX2, Cond.code yX2_firstWayOf cX2_firstWayOf 3 (some .int), Cond.fieldLink RX2 33 "TokenFloor$Graph" "firstWay" "[I", Cond.methodLink RX4 189 yX0_enter, Cond.instanceMethod yX0_enter, Cond.selects RX0 yX0_enter yX0_enter, Cond.code yX0_enter cX0_enter 3 (some .int), Cond.methodLink RX0 35 yX0_reach, Cond.instanceMethod yX0_reach, Cond.selects RX0 yX0_reach yX0_reach, Cond.code yX0_reach cX0_reach 7 (some .int), Cond.methodLink RX4 192 yX4_giveInside, Cond.instanceMethod yX4_giveInside, Cond.selects RX4 yX4_giveInside yX4_giveInside, Cond.code yX4_giveInside cX4_giveInside 5 none, Cond.methodLink RX4 196 yX4_goTurn, Cond.instanceMethod yX4_goTurn, Cond.selects RX4 yX4_goTurn yX4_goTurn, Cond.code yX4_goTurn cX4_goTurn 5 none, Cond.methodLink RX4 240 yX0_isTurnOf, Cond.instanceMethod yX0_isTurnOf, Cond.selects RX0 yX0_isTurnOf yX0_isTurnOf, Cond.code yX0_isTurnOf cX0_isTurnOf 3 (some .boolean)]
def wsX4_goByTicks_r9 : List Cond := [Cond.methodLink RX4 244 yX8_ofFault, Cond.static yX8_ofFault, Cond.code yX8_ofFault cX8_ofFault 2 (some .long), Cond.constantLong RX8 19 (3298534883328), Cond.methodLink RX4 249 yX0_nextTurn, Cond.instanceMethod yX0_nextTurn, Cond.selects RX0 yX0_nextTurn yX0_nextTurn, Cond.code yX0_nextTurn cX0_nextTurn 2 (some .int), Cond.methodLink RX4 252 yX0_outerOf, Cond.instanceMethod yX0_outerOf, Cond.selects RX0 yX0_outerOf yX0_outerOf, Cond.code yX0_outerOf cX0_outerOf 2 (some .int), Cond.methodLink RX4 199 yX4_goCall, Cond.instanceMethod yX4_goCall, Cond.selects RX4 yX4_goCall yX4_goCall, Cond.code yX4_goCall cX4_goCall 7 none, Cond.methodLink RX4 255 yX0_callBy, Cond.instanceMethod yX0_callBy, Cond.selects RX0 yX0_callBy yX0_callBy, Cond.code yX0_callBy cX0_callBy 3 (some .int), Cond.methodLink RX4 261 yX2_parameterFor, Cond.instanceMethod yX2_parameterFor, Cond.selects RX2 yX2_parameterFor yX2_parameterFor, Cond.code yX2_parameterFor cX2_parameterFor 4 (some .int)]
def wsX4_goByTicks_r10 : List Cond := [Cond.fieldLink RX2 15 "TokenFloor$Graph" "number" "[I", Cond.fieldLink RX2 21 "TokenFloor$Graph" "parameter" "[I", Cond.methodLink RX4 203 yX4_goReturn, Cond.instanceMethod yX4_goReturn, Cond.selects RX4 yX4_goReturn yX4_goReturn, Cond.code yX4_goReturn cX4_goReturn 5 none, Cond.methodLink RX4 264 yX0_callerOf, Cond.instanceMethod yX0_callerOf, Cond.selects RX0 yX0_callerOf yX0_callerOf, Cond.code yX0_callerOf cX0_callerOf 2 (some .int), Cond.methodLink RX4 207 yX4_goMake, Cond.instanceMethod yX4_goMake, Cond.selects RX4 yX4_goMake yX4_goMake, Cond.code yX4_goMake cX4_goMake 9 none, Cond.fieldLink RX4 270 "TokenFloor$Store" "rowOfAct" "[I", Cond.methodLink RX4 232 yX8_refuse, Cond.static yX8_refuse, Cond.code yX8_refuse cX8_refuse 5 (some .long), Cond.methodLink RX8 21 yX8_sortOf, Cond.methodLink RX8 25 yX8_ofFault, Cond.methodLink RX4 267 yX6_make, Cond.instanceMethod yX6_make, Cond.selects RX6 yX6_make yX6_make, Cond.code yX6_make cX6_make 4 (some .int)]
def wsX4_goByTicks_r11 : List Cond := [Cond.fieldLink RX6 19 "TokenFloor$Store" "start" "[I", Cond.fieldLink RX6 22 "TokenFloor$Store" "size" "[I", Cond.fieldLink RX6 15 "TokenFloor$Store" "written" "[J", Cond.fieldLink RX6 25 "TokenFloor$Store" "firstReader" "[I", Cond.fieldLink RX6 28 "TokenFloor$Store" "lastReader" "[I", Cond.methodLink RX4 124 yX8_ofRow, Cond.static yX8_ofRow, Cond.code yX8_ofRow cX8_ofRow 1 (some .long), Cond.constantLong RX8 17 (2199023255552), Cond.methodLink RX4 210 yX4_goRead, Cond.instanceMethod yX4_goRead, Cond.selects RX4 yX4_goRead yX4_goRead, Cond.code yX4_goRead cX4_goRead 9 none, Cond.fieldLink RX4 280 "TokenFloor$Store" "written" "[J", Cond.methodLink RX4 273 yX4_placeAsked, Cond.instanceMethod yX4_placeAsked, Cond.selects RX4 yX4_placeAsked yX4_placeAsked, Cond.code yX4_placeAsked cX4_placeAsked 3 (some .int), Cond.methodLink RX4 297 yX6_placeIn, Cond.instanceMethod yX6_placeIn, Cond.selects RX6 yX6_placeIn yX6_placeIn, Cond.code yX6_placeIn cX6_placeIn 3 (some .int), Cond.methodLink RX6 52 yX6_sizeOf, Cond.instanceMethod yX6_sizeOf]
def wsX4_goByTicks_r12 : List Cond := [Cond.selects RX6 yX6_sizeOf yX6_sizeOf, Cond.code yX6_sizeOf cX6_sizeOf 2 (some .int), Cond.methodLink RX4 276 yX4_refuseCell, Cond.instanceMethod yX4_refuseCell, Cond.selects RX4 yX4_refuseCell yX4_refuseCell, Cond.code yX4_refuseCell cX4_refuseCell 10 (some .long), Cond.methodLink RX4 293 yX8_refuseTwo, Cond.static yX8_refuseTwo, Cond.code yX8_refuseTwo cX8_refuseTwo 8 (some .long), Cond.methodLink RX4 283 yX6_addReader, Cond.instanceMethod yX6_addReader, Cond.selects RX6 yX6_addReader yX6_addReader, Cond.code yX6_addReader cX6_addReader 4 none, Cond.fieldLink RX6 31 "TokenFloor$Store" "nextReader" "[I", Cond.methodLink RX4 213 yX4_goWrite, Cond.instanceMethod yX4_goWrite, Cond.selects RX4 yX4_goWrite yX4_goWrite, Cond.code yX4_goWrite cX4_goWrite 11 none, Cond.methodLink RX4 290 yX6_takeReader, Cond.instanceMethod yX6_takeReader, Cond.selects RX6 yX6_takeReader yX6_takeReader, Cond.code yX6_takeReader cX6_takeReader 3 (some .int), Cond.methodLink RX4 216 yX4_goEnd, Cond.instanceMethod yX4_goEnd]
def wsX4_goByTicks_r13 : List Cond := [Cond.selects RX4 yX4_goEnd yX4_goEnd, Cond.code yX4_goEnd cX4_goEnd 6 none, Cond.methodLink RX4 219 yX4_plainResult, Cond.instanceMethod yX4_plainResult, Cond.selects RX4 yX4_plainResult yX4_plainResult, Cond.code yX4_plainResult cX4_plainResult 9 (some .long), Cond.methodLink RX4 226 yX7_not, Cond.static yX7_not, Cond.initialized RX7, Cond.code yX7_not cX7_not 5 (some .long), Cond.methodLink RX7 34 yX8_refuse, Cond.methodLink RX7 19 yX8_contentOf, Cond.methodLink RX7 30 yX8_ofTruth, Cond.static yX8_ofTruth, Cond.code yX8_ofTruth cX8_ofTruth 1 (some .long), Cond.methodLink RX8 13 yX8_ofNumber, Cond.methodLink RX4 114 yX6_sizeOf, Cond.methodLink RX4 236 yX7_ofTwo, Cond.static yX7_ofTwo, Cond.code yX7_ofTwo cX7_ofTwo 11 (some .long), Cond.methodLink RX7 9 yX8_sortOf, Cond.methodLink RX7 15 yX8_refuseTwo, Cond.methodLink RX7 22 yX8_ofNumber, Cond.methodLink RX7 26 yX8_ofFault]
def wsX4_goByTicks : List Cond := .code yX4_goByTicks cX4_goByTicks 3 (some .int) :: ((wsX4_goByTicks_r1 ++ (wsX4_goByTicks_r2 ++ (wsX4_goByTicks_r3 ++ (wsX4_goByTicks_r4 ++ (wsX4_goByTicks_r5 ++ (wsX4_goByTicks_r6 ++ (wsX4_goByTicks_r7 ++ (wsX4_goByTicks_r8 ++ (wsX4_goByTicks_r9 ++ (wsX4_goByTicks_r10 ++ (wsX4_goByTicks_r11 ++ (wsX4_goByTicks_r12 ++ wsX4_goByTicks_r13)))))))))))) ++ wsX40 ++ wsX20 ++ wsX00 ++ wsX10 ++ wsX50 ++ wsX60)
def wsX4_figure : List Cond := .code yX4_figure cX4_figure 2 (some .int) :: ([.fieldLink RX4 78 "TokenFloor$Machine" "how" "I", .fieldLink RX4 71 "TokenFloor$Machine" "steps" "I", .fieldLink RX4 84 "TokenFloor$Machine" "tickCount" "I", .fieldLink RX4 75 "TokenFloor$Machine" "most" "I", .fieldLink RX4 36 "TokenFloor$Machine" "floor" "LTokenFloor$Floor;", .fieldLink RX4 87 "TokenFloor$Floor" "left" "I", .fieldLink RX4 12 "TokenFloor$Machine" "store" "LTokenFloor$Store;", .fieldLink RX4 90 "TokenFloor$Store" "waiting" "I", .fieldLink RX4 93 "TokenFloor$Machine" "lost" "I", .fieldLink RX4 96 "TokenFloor$Machine" "strays" "I", .fieldLink RX4 29 "TokenFloor$Machine" "colours" "LTokenFloor$Colours;", .fieldLink RX4 99 "TokenFloor$Colours" "count" "I", .fieldLink RX4 102 "TokenFloor$Machine" "clashAct" "I", .fieldLink RX4 43 "TokenFloor$Machine" "ready" "LTokenFloor$ReadyRow;", .methodLink RX4 59 yX5_size, .instanceMethod yX5_size, .selects RX5 yX5_size yX5_size, .initialized RX5, .code yX5_size cX5_size 1 (some .int), .fieldLink RX5 19 "TokenFloor$ReadyRow" "tail" "I", .fieldLink RX5 15 "TokenFloor$ReadyRow" "head" "I"] ++ wsX40 ++ wsX10 ++ wsX60 ++ wsX00 ++ wsX50)
def wsX8_actOf : List Cond := .code yX8_actOf cX8_actOf 2 (some .int) :: ([])
def wsX4_describe : List Cond := .code yX4_describe cX4_describe 6 (some .int) :: ([.fieldLink RX4 12 "TokenFloor$Machine" "store" "LTokenFloor$Store;", .methodLink RX4 105 yX8_sortOf, .static yX8_sortOf, .initialized RX8, .code yX8_sortOf cX8_sortOf 2 (some .int), .methodLink RX4 111 yX8_contentOf, .static yX8_contentOf, .code yX8_contentOf cX8_contentOf 2 (some .int), .methodLink RX4 114 yX6_sizeOf, .instanceMethod yX6_sizeOf, .selects RX6 yX6_sizeOf yX6_sizeOf, .initialized RX6, .code yX6_sizeOf cX6_sizeOf 2 (some .int), .fieldLink RX6 38 "TokenFloor$Store" "rows" "I", .fieldLink RX6 22 "TokenFloor$Store" "size" "[I", .methodLink RX4 117 yX8_actOf, .static yX8_actOf, .code yX8_actOf cX8_actOf 2 (some .int)] ++ wsX40 ++ wsX60)
def wsX4_comparable : List Cond := .code yX4_comparable cX4_comparable 3 (some .long) :: ([.fieldLink RX4 12 "TokenFloor$Machine" "store" "LTokenFloor$Store;", .methodLink RX4 105 yX8_sortOf, .static yX8_sortOf, .initialized RX8, .code yX8_sortOf cX8_sortOf 2 (some .int), .methodLink RX4 111 yX8_contentOf, .static yX8_contentOf, .code yX8_contentOf cX8_contentOf 2 (some .int), .methodLink RX4 114 yX6_sizeOf, .instanceMethod yX6_sizeOf, .selects RX6 yX6_sizeOf yX6_sizeOf, .initialized RX6, .code yX6_sizeOf cX6_sizeOf 2 (some .int), .fieldLink RX6 38 "TokenFloor$Store" "rows" "I", .fieldLink RX6 22 "TokenFloor$Store" "size" "[I", .methodLink RX4 124 yX8_ofRow, .static yX8_ofRow, .code yX8_ofRow cX8_ofRow 1 (some .long), .constantLong RX8 17 (2199023255552), .constantLong RX8 11 (4294967295)] ++ wsX40 ++ wsX60)
def wsX4_copyFigures_r1 : List Cond := [Cond.fieldLink RX4 78 "TokenFloor$Machine" "how" "I", Cond.fieldLink RX4 71 "TokenFloor$Machine" "steps" "I", Cond.fieldLink RX4 36 "TokenFloor$Machine" "floor" "LTokenFloor$Floor;", Cond.fieldLink RX4 87 "TokenFloor$Floor" "left" "I", Cond.fieldLink RX4 12 "TokenFloor$Machine" "store" "LTokenFloor$Store;", Cond.fieldLink RX4 90 "TokenFloor$Store" "waiting" "I", Cond.fieldLink RX4 93 "TokenFloor$Machine" "lost" "I", Cond.fieldLink RX4 96 "TokenFloor$Machine" "strays" "I", Cond.fieldLink RX4 22 "TokenFloor$Machine" "ends" "[J", Cond.fieldLink RX4 18 "TokenFloor$Machine" "firings" "[I", Cond.methodLink RX4 120 yX4_comparable, Cond.instanceMethod yX4_comparable, Cond.selects RX4 yX4_comparable yX4_comparable, Cond.initialized RX4, Cond.code yX4_comparable cX4_comparable 3 (some .long), Cond.methodLink RX4 105 yX8_sortOf, Cond.static yX8_sortOf, Cond.initialized RX8, Cond.code yX8_sortOf cX8_sortOf 2 (some .int), Cond.methodLink RX4 111 yX8_contentOf, Cond.static yX8_contentOf, Cond.code yX8_contentOf cX8_contentOf 2 (some .int), Cond.methodLink RX4 114 yX6_sizeOf, Cond.instanceMethod yX6_sizeOf]
def wsX4_copyFigures_r2 : List Cond := [Cond.selects RX6 yX6_sizeOf yX6_sizeOf, Cond.initialized RX6, Cond.code yX6_sizeOf cX6_sizeOf 2 (some .int), Cond.fieldLink RX6 38 "TokenFloor$Store" "rows" "I", Cond.fieldLink RX6 22 "TokenFloor$Store" "size" "[I", Cond.methodLink RX4 124 yX8_ofRow, Cond.static yX8_ofRow, Cond.code yX8_ofRow cX8_ofRow 1 (some .long), Cond.constantLong RX8 17 (2199023255552), Cond.constantLong RX8 11 (4294967295)]
def wsX4_copyFigures : List Cond := .code yX4_copyFigures cX4_copyFigures 3 none :: ((wsX4_copyFigures_r1 ++ wsX4_copyFigures_r2) ++ wsX40 ++ wsX10 ++ wsX60)
def wsX9_init_r1 : List Cond := [Cond.methodLink RX9 1 objectInit, Cond.instanceMethod objectInit, Cond.code objectInit ⟨#[0xb1]⟩ 1 none, Cond.classLink RX9 7 RX2, Cond.instantiable RX2 15, Cond.initialized RX2, Cond.fieldLink RX9 10 "TokenFloor" "graph" "LTokenFloor$Graph;", Cond.classLink RX9 16 RX4, Cond.instantiable RX4 14, Cond.initialized RX4, Cond.fieldLink RX9 21 "TokenFloor" "machine" "LTokenFloor$Machine;", Cond.arrayClass .long, Cond.fieldLink RX9 25 "TokenFloor" "figuresA" "[J", Cond.fieldLink RX9 29 "TokenFloor" "figuresB" "[J", Cond.fieldLink RX9 32 "TokenFloor" "hasRun" "Z", Cond.methodLink RX9 9 yX2_init, Cond.instanceMethod yX2_init, Cond.code yX2_init cX2_init 1 none, Cond.methodLink RX2 3 objectInit, Cond.arrayClass .int, Cond.fieldLink RX2 9 "TokenFloor$Graph" "kind" "[I", Cond.fieldLink RX2 15 "TokenFloor$Graph" "number" "[I", Cond.fieldLink RX2 18 "TokenFloor$Graph" "ports" "[I", Cond.fieldLink RX2 21 "TokenFloor$Graph" "parameter" "[I"]
def wsX9_init_r2 : List Cond := [Cond.fieldLink RX2 24 "TokenFloor$Graph" "wayTo" "[I", Cond.fieldLink RX2 27 "TokenFloor$Graph" "wayPort" "[I", Cond.fieldLink RX2 30 "TokenFloor$Graph" "nextWay" "[I", Cond.fieldLink RX2 33 "TokenFloor$Graph" "firstWay" "[I", Cond.fieldLink RX2 36 "TokenFloor$Graph" "lastWay" "[I", Cond.fieldLink RX2 39 "TokenFloor$Graph" "tokenAct" "[I", Cond.fieldLink RX2 42 "TokenFloor$Graph" "tokenPort" "[I", Cond.fieldLink RX2 45 "TokenFloor$Graph" "tokenValue" "[I", Cond.methodLink RX2 48 yJ7_fill_53178, Cond.static yJ7_fill_53178, Cond.initialized RJ7, Cond.code yJ7_fill_53178 cJ7_fill_53178 4 none, Cond.methodLink RX9 18 yX4_init, Cond.instanceMethod yX4_init, Cond.code yX4_init cX4_init 2 none, Cond.methodLink RX4 3 objectInit, Cond.classLink RX4 9 RX6, Cond.instantiable RX6 10, Cond.initialized RX6, Cond.fieldLink RX4 12 "TokenFloor$Machine" "store" "LTokenFloor$Store;", Cond.fieldLink RX4 18 "TokenFloor$Machine" "firings" "[I", Cond.fieldLink RX4 22 "TokenFloor$Machine" "ends" "[J", Cond.classLink RX4 26 RX0, Cond.instantiable RX0 6]
def wsX9_init_r3 : List Cond := [Cond.initialized RX0, Cond.fieldLink RX4 29 "TokenFloor$Machine" "colours" "LTokenFloor$Colours;", Cond.classLink RX4 33 RX1, Cond.instantiable RX1 8, Cond.initialized RX1, Cond.fieldLink RX4 36 "TokenFloor$Machine" "floor" "LTokenFloor$Floor;", Cond.classLink RX4 40 RX5, Cond.instantiable RX5 3, Cond.initialized RX5, Cond.fieldLink RX4 43 "TokenFloor$Machine" "ready" "LTokenFloor$ReadyRow;", Cond.fieldLink RX4 47 "TokenFloor$Machine" "graph" "LTokenFloor$Graph;", Cond.instanceMethod yX6_init, Cond.code yX6_init cX6_init 1 none, Cond.methodLink RX6 3 objectInit, Cond.fieldLink RX6 9 "TokenFloor$Store" "rowOfAct" "[I", Cond.fieldLink RX6 15 "TokenFloor$Store" "written" "[J", Cond.fieldLink RX6 19 "TokenFloor$Store" "start" "[I", Cond.fieldLink RX6 22 "TokenFloor$Store" "size" "[I", Cond.fieldLink RX6 25 "TokenFloor$Store" "firstReader" "[I", Cond.fieldLink RX6 28 "TokenFloor$Store" "lastReader" "[I", Cond.fieldLink RX6 31 "TokenFloor$Store" "nextReader" "[I", Cond.instanceMethod yX0_init, Cond.code yX0_init cX0_init 1 none, Cond.methodLink RX0 5 objectInit]
def wsX9_init_r4 : List Cond := [Cond.fieldLink RX0 11 "TokenFloor$Colours" "origin" "[I", Cond.fieldLink RX0 15 "TokenFloor$Colours" "outer" "[I", Cond.fieldLink RX0 18 "TokenFloor$Colours" "key" "[I", Cond.fieldLink RX0 21 "TokenFloor$Colours" "firstReached" "[I", Cond.fieldLink RX0 24 "TokenFloor$Colours" "nextReached" "[I", Cond.instanceMethod yX1_init, Cond.code yX1_init cX1_init 1 none, Cond.methodLink RX1 3 objectInit, Cond.fieldLink RX1 9 "TokenFloor$Floor" "actOf" "[I", Cond.fieldLink RX1 15 "TokenFloor$Floor" "colourOf" "[I", Cond.fieldLink RX1 18 "TokenFloor$Floor" "had" "[I", Cond.fieldLink RX1 21 "TokenFloor$Floor" "came" "[J", Cond.fieldLink RX1 25 "TokenFloor$Floor" "firstPair" "[I", Cond.fieldLink RX1 28 "TokenFloor$Floor" "nextPair" "[I", Cond.instanceMethod yX5_init, Cond.code yX5_init cX5_init 1 none, Cond.methodLink RX5 3 objectInit, Cond.fieldLink RX5 9 "TokenFloor$ReadyRow" "row" "[I"]
def wsX9_init : List Cond := .code yX9_init cX9_init 1 none :: ((wsX9_init_r1 ++ (wsX9_init_r2 ++ (wsX9_init_r3 ++ wsX9_init_r4))) ++ wsX20 ++ wsX90 ++ wsX40 ++ wsX60 ++ wsX00 ++ wsX10 ++ wsX50)
def wsX9_act_r1 : List Cond := [Cond.fieldLink RX9 10 "TokenFloor" "graph" "LTokenFloor$Graph;", Cond.methodLink RX9 36 yX2_addAct, Cond.instanceMethod yX2_addAct, Cond.selects RX2 yX2_addAct yX2_addAct, Cond.initialized RX2, Cond.code yX2_addAct cX2_addAct 6 (some .int), Cond.fieldLink RX2 54 "TokenFloor$Graph" "acts" "I", Cond.fieldLink RX2 9 "TokenFloor$Graph" "kind" "[I", Cond.fieldLink RX2 15 "TokenFloor$Graph" "number" "[I", Cond.fieldLink RX2 18 "TokenFloor$Graph" "ports" "[I", Cond.fieldLink RX2 21 "TokenFloor$Graph" "parameter" "[I", Cond.methodLink RX2 62 yX3_exists, Cond.static yX3_exists, Cond.initialized RX3, Cond.code yX3_exists cX3_exists 1 (some .boolean), Cond.methodLink RX2 67 yX3_allowsNumber, Cond.static yX3_allowsNumber, Cond.code yX3_allowsNumber cX3_allowsNumber 2 (some .boolean), Cond.methodLink RX2 71 yX3_allowsPorts, Cond.static yX3_allowsPorts, Cond.code yX3_allowsPorts cX3_allowsPorts 2 (some .boolean), Cond.methodLink RX2 74 yX3_portsOf, Cond.static yX3_portsOf, Cond.code yX3_portsOf cX3_portsOf 2 (some .int)]
def wsX9_act_r2 : List Cond := [Cond.fieldLink RX3 15 "TokenFloor$Kind" "PORTS" "[I", Cond.methodLink RX3 11 yX3_exists]
def wsX9_act : List Cond := .code yX9_act cX9_act 4 (some .int) :: ((wsX9_act_r1 ++ wsX9_act_r2) ++ wsX90 ++ wsX20)
def wsX9_way_r1 : List Cond := [Cond.fieldLink RX9 10 "TokenFloor" "graph" "LTokenFloor$Graph;", Cond.methodLink RX9 40 yX2_addWay, Cond.instanceMethod yX2_addWay, Cond.selects RX2 yX2_addWay yX2_addWay, Cond.initialized RX2, Cond.code yX2_addWay cX2_addWay 8 (some .int), Cond.fieldLink RX2 9 "TokenFloor$Graph" "kind" "[I", Cond.fieldLink RX2 84 "TokenFloor$Graph" "ways" "I", Cond.fieldLink RX2 24 "TokenFloor$Graph" "wayTo" "[I", Cond.fieldLink RX2 27 "TokenFloor$Graph" "wayPort" "[I", Cond.fieldLink RX2 30 "TokenFloor$Graph" "nextWay" "[I", Cond.fieldLink RX2 36 "TokenFloor$Graph" "lastWay" "[I", Cond.fieldLink RX2 33 "TokenFloor$Graph" "firstWay" "[I", Cond.methodLink RX2 58 yX2_hasAct, Cond.instanceMethod yX2_hasAct, Cond.selects RX2 yX2_hasAct yX2_hasAct, Cond.code yX2_hasAct cX2_hasAct 2 (some .boolean), Cond.fieldLink RX2 54 "TokenFloor$Graph" "acts" "I", Cond.methodLink RX2 78 yX3_hasSide, Cond.static yX3_hasSide, Cond.initialized RX3, Cond.code yX3_hasSide cX3_hasSide 2 (some .boolean), Cond.methodLink RX2 81 yX2_hasPort, Cond.instanceMethod yX2_hasPort]
def wsX9_way_r2 : List Cond := [Cond.selects RX2 yX2_hasPort yX2_hasPort, Cond.code yX2_hasPort cX2_hasPort 3 (some .boolean), Cond.fieldLink RX2 18 "TokenFloor$Graph" "ports" "[I"]
def wsX9_way : List Cond := .code yX9_way cX9_way 5 (some .int) :: ((wsX9_way_r1 ++ wsX9_way_r2) ++ wsX90 ++ wsX20)
def wsX9_token : List Cond := .code yX9_token cX9_token 4 (some .int) :: ([.fieldLink RX9 10 "TokenFloor" "graph" "LTokenFloor$Graph;", .methodLink RX9 44 yX2_addToken, .instanceMethod yX2_addToken, .selects RX2 yX2_addToken yX2_addToken, .initialized RX2, .code yX2_addToken cX2_addToken 4 (some .int), .fieldLink RX2 87 "TokenFloor$Graph" "tokens" "I", .fieldLink RX2 39 "TokenFloor$Graph" "tokenAct" "[I", .fieldLink RX2 42 "TokenFloor$Graph" "tokenPort" "[I", .fieldLink RX2 45 "TokenFloor$Graph" "tokenValue" "[I", .methodLink RX2 81 yX2_hasPort, .instanceMethod yX2_hasPort, .selects RX2 yX2_hasPort yX2_hasPort, .code yX2_hasPort cX2_hasPort 3 (some .boolean), .fieldLink RX2 18 "TokenFloor$Graph" "ports" "[I", .methodLink RX2 58 yX2_hasAct, .instanceMethod yX2_hasAct, .selects RX2 yX2_hasAct yX2_hasAct, .code yX2_hasAct cX2_hasAct 2 (some .boolean), .fieldLink RX2 54 "TokenFloor$Graph" "acts" "I"] ++ wsX90 ++ wsX20)
def wsX9_clear_r1 : List Cond := [Cond.fieldLink RX9 10 "TokenFloor" "graph" "LTokenFloor$Graph;", Cond.fieldLink RX9 32 "TokenFloor" "hasRun" "Z", Cond.methodLink RX9 47 yX2_dropTokens, Cond.instanceMethod yX2_dropTokens, Cond.selects RX2 yX2_dropTokens yX2_dropTokens, Cond.initialized RX2, Cond.code yX2_dropTokens cX2_dropTokens 1 none, Cond.fieldLink RX2 87 "TokenFloor$Graph" "tokens" "I", Cond.methodLink RX9 50 yX2_dropWays, Cond.instanceMethod yX2_dropWays, Cond.selects RX2 yX2_dropWays yX2_dropWays, Cond.code yX2_dropWays cX2_dropWays 1 none, Cond.fieldLink RX2 84 "TokenFloor$Graph" "ways" "I", Cond.fieldLink RX2 33 "TokenFloor$Graph" "firstWay" "[I", Cond.fieldLink RX2 36 "TokenFloor$Graph" "lastWay" "[I", Cond.methodLink RX2 48 yJ7_fill_53178, Cond.static yJ7_fill_53178, Cond.initialized RJ7, Cond.code yJ7_fill_53178 cJ7_fill_53178 4 none, Cond.methodLink RX9 53 yX2_dropActs, Cond.instanceMethod yX2_dropActs, Cond.selects RX2 yX2_dropActs yX2_dropActs, Cond.code yX2_dropActs cX2_dropActs 1 none, Cond.fieldLink RX2 54 "TokenFloor$Graph" "acts" "I"]
def wsX9_clear_r2 : List Cond := [Cond.fieldLink RX2 21 "TokenFloor$Graph" "parameter" "[I"]
def wsX9_clear : List Cond := .code yX9_clear cX9_clear 2 (some .boolean) :: ((wsX9_clear_r1 ++ wsX9_clear_r2) ++ wsX90 ++ wsX20)
def wsX9_isFuel : List Cond := .code yX9_isFuel cX9_isFuel 1 (some .boolean) :: ([])
def wsX9_run_r1 : List Cond := [Cond.fieldLink RX9 32 "TokenFloor" "hasRun" "Z", Cond.fieldLink RX9 21 "TokenFloor" "machine" "LTokenFloor$Machine;", Cond.methodLink RX9 56 yX9_isFuel, Cond.static yX9_isFuel, Cond.initialized RX9, Cond.code yX9_isFuel cX9_isFuel 1 (some .boolean), Cond.methodLink RX9 60 yX4_goBySeed, Cond.instanceMethod yX4_goBySeed, Cond.selects RX4 yX4_goBySeed yX4_goBySeed, Cond.initialized RX4, Cond.code yX4_goBySeed cX4_goBySeed 6 (some .int), Cond.constant RX4 58 (1103515245), Cond.fieldLink RX4 43 "TokenFloor$Machine" "ready" "LTokenFloor$ReadyRow;", Cond.fieldLink RX4 71 "TokenFloor$Machine" "steps" "I", Cond.fieldLink RX4 75 "TokenFloor$Machine" "most" "I", Cond.fieldLink RX4 78 "TokenFloor$Machine" "how" "I", Cond.methodLink RX4 51 yX4_begin, Cond.instanceMethod yX4_begin, Cond.selects RX4 yX4_begin yX4_begin, Cond.code yX4_begin cX4_begin 4 none, Cond.fieldLink RX4 29 "TokenFloor$Machine" "colours" "LTokenFloor$Colours;", Cond.fieldLink RX4 36 "TokenFloor$Machine" "floor" "LTokenFloor$Floor;", Cond.fieldLink RX4 12 "TokenFloor$Machine" "store" "LTokenFloor$Store;", Cond.fieldLink RX4 18 "TokenFloor$Machine" "firings" "[I"]
def wsX9_run_r2 : List Cond := [Cond.fieldLink RX4 22 "TokenFloor$Machine" "ends" "[J", Cond.fieldLink RX4 84 "TokenFloor$Machine" "tickCount" "I", Cond.fieldLink RX4 93 "TokenFloor$Machine" "lost" "I", Cond.fieldLink RX4 96 "TokenFloor$Machine" "strays" "I", Cond.fieldLink RX4 102 "TokenFloor$Machine" "clashAct" "I", Cond.fieldLink RX4 47 "TokenFloor$Machine" "graph" "LTokenFloor$Graph;", Cond.fieldLink RX4 143 "TokenFloor$Graph" "tokens" "I", Cond.fieldLink RX4 148 "TokenFloor$Graph" "tokenValue" "[I", Cond.fieldLink RX4 154 "TokenFloor$Graph" "tokenAct" "[I", Cond.fieldLink RX4 157 "TokenFloor$Graph" "tokenPort" "[I", Cond.methodLink RX4 128 yX0_reset, Cond.instanceMethod yX0_reset, Cond.selects RX0 yX0_reset yX0_reset, Cond.initialized RX0, Cond.code yX0_reset cX0_reset 1 none, Cond.fieldLink RX0 27 "TokenFloor$Colours" "count" "I", Cond.methodLink RX0 31 yX0_add, Cond.instanceMethod yX0_add, Cond.selects RX0 yX0_add yX0_add, Cond.code yX0_add cX0_add 5 (some .int), Cond.fieldLink RX0 18 "TokenFloor$Colours" "key" "[I", Cond.fieldLink RX0 11 "TokenFloor$Colours" "origin" "[I", Cond.fieldLink RX0 15 "TokenFloor$Colours" "outer" "[I", Cond.fieldLink RX0 21 "TokenFloor$Colours" "firstReached" "[I"]
def wsX9_run_r3 : List Cond := [Cond.fieldLink RX0 24 "TokenFloor$Colours" "nextReached" "[I", Cond.methodLink RX4 131 yX1_reset, Cond.instanceMethod yX1_reset, Cond.selects RX1 yX1_reset yX1_reset, Cond.initialized RX1, Cond.code yX1_reset cX1_reset 1 none, Cond.fieldLink RX1 31 "TokenFloor$Floor" "left" "I", Cond.fieldLink RX1 35 "TokenFloor$Floor" "count" "I", Cond.fieldLink RX1 25 "TokenFloor$Floor" "firstPair" "[I", Cond.methodLink RX1 38 yJ7_fill_53178, Cond.static yJ7_fill_53178, Cond.initialized RJ7, Cond.code yJ7_fill_53178 cJ7_fill_53178 4 none, Cond.methodLink RX4 132 yX5_reset, Cond.instanceMethod yX5_reset, Cond.selects RX5 yX5_reset yX5_reset, Cond.initialized RX5, Cond.code yX5_reset cX5_reset 1 none, Cond.fieldLink RX5 15 "TokenFloor$ReadyRow" "head" "I", Cond.fieldLink RX5 19 "TokenFloor$ReadyRow" "tail" "I", Cond.methodLink RX4 133 yX6_reset, Cond.instanceMethod yX6_reset, Cond.selects RX6 yX6_reset yX6_reset, Cond.initialized RX6]
def wsX9_run_r4 : List Cond := [Cond.code yX6_reset cX6_reset 1 none, Cond.fieldLink RX6 34 "TokenFloor$Store" "waiting" "I", Cond.fieldLink RX6 38 "TokenFloor$Store" "rows" "I", Cond.fieldLink RX6 41 "TokenFloor$Store" "cells" "I", Cond.fieldLink RX6 9 "TokenFloor$Store" "rowOfAct" "[I", Cond.methodLink RX6 44 yJ7_fill_53178, Cond.methodLink RX4 134 yJ7_fill_53178, Cond.methodLink RX4 140 yJ7_fill_d0a16, Cond.static yJ7_fill_d0a16, Cond.code yJ7_fill_d0a16 cJ7_fill_d0a16 5 none, Cond.methodLink RX4 151 yX8_ofNumber, Cond.static yX8_ofNumber, Cond.initialized RX8, Cond.code yX8_ofNumber cX8_ofNumber 1 (some .long), Cond.constantLong RX8 9 (1099511627776), Cond.constantLong RX8 11 (4294967295), Cond.methodLink RX4 160 yX4_arrive, Cond.instanceMethod yX4_arrive, Cond.selects RX4 yX4_arrive yX4_arrive, Cond.code yX4_arrive cX4_arrive 7 none, Cond.fieldLink RX4 258 "TokenFloor$Graph" "ports" "[I", Cond.methodLink RX4 312 yX1_find, Cond.instanceMethod yX1_find, Cond.selects RX1 yX1_find yX1_find]
def wsX9_run_r5 : List Cond := [Cond.code yX1_find cX1_find 5 (some .int), Cond.fieldLink RX1 9 "TokenFloor$Floor" "actOf" "[I", Cond.fieldLink RX1 28 "TokenFloor$Floor" "nextPair" "[I", Cond.methodLink RX4 315 yX1_add, Cond.instanceMethod yX1_add, Cond.selects RX1 yX1_add yX1_add, Cond.code yX1_add cX1_add 4 (some .int), Cond.fieldLink RX1 15 "TokenFloor$Floor" "colourOf" "[I", Cond.fieldLink RX1 18 "TokenFloor$Floor" "had" "[I", Cond.methodLink RX4 318 yX1_hadToken, Cond.instanceMethod yX1_hadToken, Cond.selects RX1 yX1_hadToken yX1_hadToken, Cond.code yX1_hadToken cX1_hadToken 3 (some .boolean), Cond.methodLink RX4 287 yX4_clashAt, Cond.instanceMethod yX4_clashAt, Cond.selects RX4 yX4_clashAt yX4_clashAt, Cond.code yX4_clashAt cX4_clashAt 2 none, Cond.methodLink RX4 321 yX1_put, Cond.instanceMethod yX1_put, Cond.selects RX1 yX1_put yX1_put, Cond.code yX1_put cX1_put 7 (some .boolean), Cond.fieldLink RX1 21 "TokenFloor$Floor" "came" "[J", Cond.methodLink RX4 325 yX5_add, Cond.instanceMethod yX5_add]
def wsX9_run_r6 : List Cond := [Cond.selects RX5 yX5_add yX5_add, Cond.code yX5_add cX5_add 2 none, Cond.fieldLink RX5 9 "TokenFloor$ReadyRow" "row" "[I", Cond.methodLink RX4 54 yX4_mayStep, Cond.instanceMethod yX4_mayStep, Cond.selects RX4 yX4_mayStep yX4_mayStep, Cond.code yX4_mayStep cX4_mayStep 2 (some .boolean), Cond.methodLink RX4 59 yX5_size, Cond.instanceMethod yX5_size, Cond.selects RX5 yX5_size yX5_size, Cond.code yX5_size cX5_size 1 (some .int), Cond.methodLink RX4 63 yX5_take, Cond.instanceMethod yX5_take, Cond.selects RX5 yX5_take yX5_take, Cond.code yX5_take cX5_take 4 (some .int), Cond.methodLink RX5 26 arraycopyName, Cond.native arraycopyName, Cond.static arraycopyName, Cond.initialized "java/lang/System", Cond.methodLink RX5 22 yX5_size, Cond.methodLink RX4 67 yX4_goOff, Cond.instanceMethod yX4_goOff, Cond.selects RX4 yX4_goOff yX4_goOff, Cond.code yX4_goOff cX4_goOff 6 none]
def wsX9_run_r7 : List Cond := [Cond.fieldLink RX4 170 "TokenFloor$Floor" "actOf" "[I", Cond.fieldLink RX4 172 "TokenFloor$Floor" "colourOf" "[I", Cond.fieldLink RX4 179 "TokenFloor$Graph" "kind" "[I", Cond.fieldLink RX4 186 "TokenFloor$Graph" "number" "[I", Cond.methodLink RX4 175 yX1_cameTo, Cond.instanceMethod yX1_cameTo, Cond.selects RX1 yX1_cameTo yX1_cameTo, Cond.code yX1_cameTo cX1_cameTo 3 (some .long), Cond.methodLink RX4 182 yX4_goSwitch, Cond.instanceMethod yX4_goSwitch, Cond.selects RX4 yX4_goSwitch yX4_goSwitch, Cond.code yX4_goSwitch cX4_goSwitch 7 none, Cond.methodLink RX4 105 yX8_sortOf, Cond.static yX8_sortOf, Cond.code yX8_sortOf cX8_sortOf 2 (some .int), Cond.methodLink RX4 111 yX8_contentOf, Cond.static yX8_contentOf, Cond.code yX8_contentOf cX8_contentOf 2 (some .int), Cond.methodLink RX4 223 yX4_give, Cond.instanceMethod yX4_give, Cond.selects RX4 yX4_give yX4_give, Cond.code yX4_give cX4_give 8 none, Cond.fieldLink RX4 303 "TokenFloor$Graph" "wayTo" "[I", Cond.fieldLink RX4 306 "TokenFloor$Graph" "wayPort" "[I"]
def wsX9_run_r8 : List Cond := [Cond.fieldLink RX4 309 "TokenFloor$Graph" "nextWay" "[I", Cond.methodLink RX4 300 yX2_firstWayOf, Cond.instanceMethod yX2_firstWayOf, Cond.selects RX2 yX2_firstWayOf yX2_firstWayOf, Cond.initialized RX2, Cond.code yX2_firstWayOf cX2_firstWayOf 3 (some .int), Cond.fieldLink RX2 33 "TokenFloor$Graph" "firstWay" "[I", Cond.methodLink RX4 189 yX0_enter, Cond.instanceMethod yX0_enter, Cond.selects RX0 yX0_enter yX0_enter, Cond.code yX0_enter cX0_enter 3 (some .int), Cond.methodLink RX0 35 yX0_reach, Cond.instanceMethod yX0_reach, Cond.selects RX0 yX0_reach yX0_reach, Cond.code yX0_reach cX0_reach 7 (some .int), Cond.methodLink RX4 192 yX4_giveInside, Cond.instanceMethod yX4_giveInside, Cond.selects RX4 yX4_giveInside yX4_giveInside, Cond.code yX4_giveInside cX4_giveInside 5 none, Cond.methodLink RX4 196 yX4_goTurn, Cond.instanceMethod yX4_goTurn, Cond.selects RX4 yX4_goTurn yX4_goTurn, Cond.code yX4_goTurn cX4_goTurn 5 none, Cond.methodLink RX4 240 yX0_isTurnOf]
def wsX9_run_r9 : List Cond := [Cond.instanceMethod yX0_isTurnOf, Cond.selects RX0 yX0_isTurnOf yX0_isTurnOf, Cond.code yX0_isTurnOf cX0_isTurnOf 3 (some .boolean), Cond.methodLink RX4 244 yX8_ofFault, Cond.static yX8_ofFault, Cond.code yX8_ofFault cX8_ofFault 2 (some .long), Cond.constantLong RX8 19 (3298534883328), Cond.methodLink RX4 249 yX0_nextTurn, Cond.instanceMethod yX0_nextTurn, Cond.selects RX0 yX0_nextTurn yX0_nextTurn, Cond.code yX0_nextTurn cX0_nextTurn 2 (some .int), Cond.methodLink RX4 252 yX0_outerOf, Cond.instanceMethod yX0_outerOf, Cond.selects RX0 yX0_outerOf yX0_outerOf, Cond.code yX0_outerOf cX0_outerOf 2 (some .int), Cond.methodLink RX4 199 yX4_goCall, Cond.instanceMethod yX4_goCall, Cond.selects RX4 yX4_goCall yX4_goCall, Cond.code yX4_goCall cX4_goCall 7 none, Cond.methodLink RX4 255 yX0_callBy, Cond.instanceMethod yX0_callBy, Cond.selects RX0 yX0_callBy yX0_callBy, Cond.code yX0_callBy cX0_callBy 3 (some .int), Cond.methodLink RX4 261 yX2_parameterFor]
def wsX9_run_r10 : List Cond := [Cond.instanceMethod yX2_parameterFor, Cond.selects RX2 yX2_parameterFor yX2_parameterFor, Cond.code yX2_parameterFor cX2_parameterFor 4 (some .int), Cond.fieldLink RX2 15 "TokenFloor$Graph" "number" "[I", Cond.fieldLink RX2 21 "TokenFloor$Graph" "parameter" "[I", Cond.methodLink RX4 203 yX4_goReturn, Cond.instanceMethod yX4_goReturn, Cond.selects RX4 yX4_goReturn yX4_goReturn, Cond.code yX4_goReturn cX4_goReturn 5 none, Cond.methodLink RX4 264 yX0_callerOf, Cond.instanceMethod yX0_callerOf, Cond.selects RX0 yX0_callerOf yX0_callerOf, Cond.code yX0_callerOf cX0_callerOf 2 (some .int), Cond.methodLink RX4 207 yX4_goMake, Cond.instanceMethod yX4_goMake, Cond.selects RX4 yX4_goMake yX4_goMake, Cond.code yX4_goMake cX4_goMake 9 none, Cond.fieldLink RX4 270 "TokenFloor$Store" "rowOfAct" "[I", Cond.methodLink RX4 232 yX8_refuse, Cond.static yX8_refuse, Cond.code yX8_refuse cX8_refuse 5 (some .long), Cond.methodLink RX8 21 yX8_sortOf, Cond.methodLink RX8 25 yX8_ofFault, Cond.methodLink RX4 267 yX6_make]
def wsX9_run_r11 : List Cond := [Cond.instanceMethod yX6_make, Cond.selects RX6 yX6_make yX6_make, Cond.code yX6_make cX6_make 4 (some .int), Cond.fieldLink RX6 19 "TokenFloor$Store" "start" "[I", Cond.fieldLink RX6 22 "TokenFloor$Store" "size" "[I", Cond.fieldLink RX6 15 "TokenFloor$Store" "written" "[J", Cond.fieldLink RX6 25 "TokenFloor$Store" "firstReader" "[I", Cond.fieldLink RX6 28 "TokenFloor$Store" "lastReader" "[I", Cond.methodLink RX4 124 yX8_ofRow, Cond.static yX8_ofRow, Cond.code yX8_ofRow cX8_ofRow 1 (some .long), Cond.constantLong RX8 17 (2199023255552), Cond.methodLink RX4 210 yX4_goRead, Cond.instanceMethod yX4_goRead, Cond.selects RX4 yX4_goRead yX4_goRead, Cond.code yX4_goRead cX4_goRead 9 none, Cond.fieldLink RX4 280 "TokenFloor$Store" "written" "[J", Cond.methodLink RX4 273 yX4_placeAsked, Cond.instanceMethod yX4_placeAsked, Cond.selects RX4 yX4_placeAsked yX4_placeAsked, Cond.code yX4_placeAsked cX4_placeAsked 3 (some .int), Cond.methodLink RX4 297 yX6_placeIn, Cond.instanceMethod yX6_placeIn, Cond.selects RX6 yX6_placeIn yX6_placeIn]
def wsX9_run_r12 : List Cond := [Cond.code yX6_placeIn cX6_placeIn 3 (some .int), Cond.methodLink RX6 52 yX6_sizeOf, Cond.instanceMethod yX6_sizeOf, Cond.selects RX6 yX6_sizeOf yX6_sizeOf, Cond.code yX6_sizeOf cX6_sizeOf 2 (some .int), Cond.methodLink RX4 276 yX4_refuseCell, Cond.instanceMethod yX4_refuseCell, Cond.selects RX4 yX4_refuseCell yX4_refuseCell, Cond.code yX4_refuseCell cX4_refuseCell 10 (some .long), Cond.methodLink RX4 293 yX8_refuseTwo, Cond.static yX8_refuseTwo, Cond.code yX8_refuseTwo cX8_refuseTwo 8 (some .long), Cond.methodLink RX4 283 yX6_addReader, Cond.instanceMethod yX6_addReader, Cond.selects RX6 yX6_addReader yX6_addReader, Cond.code yX6_addReader cX6_addReader 4 none, Cond.fieldLink RX6 31 "TokenFloor$Store" "nextReader" "[I", Cond.methodLink RX4 213 yX4_goWrite, Cond.instanceMethod yX4_goWrite, Cond.selects RX4 yX4_goWrite yX4_goWrite, Cond.code yX4_goWrite cX4_goWrite 11 none, Cond.methodLink RX4 290 yX6_takeReader, Cond.instanceMethod yX6_takeReader, Cond.selects RX6 yX6_takeReader yX6_takeReader]
def wsX9_run_r13 : List Cond := [Cond.code yX6_takeReader cX6_takeReader 3 (some .int), Cond.methodLink RX4 216 yX4_goEnd, Cond.instanceMethod yX4_goEnd, Cond.selects RX4 yX4_goEnd yX4_goEnd, Cond.code yX4_goEnd cX4_goEnd 6 none, Cond.methodLink RX4 219 yX4_plainResult, Cond.instanceMethod yX4_plainResult, Cond.selects RX4 yX4_plainResult yX4_plainResult, Cond.code yX4_plainResult cX4_plainResult 9 (some .long), Cond.methodLink RX4 226 yX7_not, Cond.static yX7_not, Cond.initialized RX7, Cond.code yX7_not cX7_not 5 (some .long), Cond.methodLink RX7 34 yX8_refuse, Cond.methodLink RX7 19 yX8_contentOf, Cond.methodLink RX7 30 yX8_ofTruth, Cond.static yX8_ofTruth, Cond.code yX8_ofTruth cX8_ofTruth 1 (some .long), Cond.methodLink RX8 13 yX8_ofNumber, Cond.methodLink RX4 114 yX6_sizeOf, Cond.methodLink RX4 236 yX7_ofTwo, Cond.static yX7_ofTwo, Cond.code yX7_ofTwo cX7_ofTwo 11 (some .long), Cond.methodLink RX7 9 yX8_sortOf]
def wsX9_run_r14 : List Cond := [Cond.methodLink RX7 15 yX8_refuseTwo, Cond.methodLink RX7 22 yX8_ofNumber, Cond.methodLink RX7 26 yX8_ofFault]
def wsX9_run : List Cond := .code yX9_run cX9_run 3 (some .int) :: ((wsX9_run_r1 ++ (wsX9_run_r2 ++ (wsX9_run_r3 ++ (wsX9_run_r4 ++ (wsX9_run_r5 ++ (wsX9_run_r6 ++ (wsX9_run_r7 ++ (wsX9_run_r8 ++ (wsX9_run_r9 ++ (wsX9_run_r10 ++ (wsX9_run_r11 ++ (wsX9_run_r12 ++ (wsX9_run_r13 ++ wsX9_run_r14))))))))))))) ++ wsX90 ++ wsX40 ++ wsX20 ++ wsX00 ++ wsX10 ++ wsX50 ++ wsX60)
def wsX9_ticks_r1 : List Cond := [Cond.fieldLink RX9 32 "TokenFloor" "hasRun" "Z", Cond.fieldLink RX9 21 "TokenFloor" "machine" "LTokenFloor$Machine;", Cond.methodLink RX9 56 yX9_isFuel, Cond.static yX9_isFuel, Cond.initialized RX9, Cond.code yX9_isFuel cX9_isFuel 1 (some .boolean), Cond.methodLink RX9 64 yX4_goByTicks, Cond.instanceMethod yX4_goByTicks, Cond.selects RX4 yX4_goByTicks yX4_goByTicks, Cond.initialized RX4, Cond.code yX4_goByTicks cX4_goByTicks 3 (some .int), Cond.fieldLink RX4 78 "TokenFloor$Machine" "how" "I", Cond.methodLink RX4 51 yX4_begin, Cond.instanceMethod yX4_begin, Cond.selects RX4 yX4_begin yX4_begin, Cond.code yX4_begin cX4_begin 4 none, Cond.fieldLink RX4 29 "TokenFloor$Machine" "colours" "LTokenFloor$Colours;", Cond.fieldLink RX4 36 "TokenFloor$Machine" "floor" "LTokenFloor$Floor;", Cond.fieldLink RX4 43 "TokenFloor$Machine" "ready" "LTokenFloor$ReadyRow;", Cond.fieldLink RX4 12 "TokenFloor$Machine" "store" "LTokenFloor$Store;", Cond.fieldLink RX4 18 "TokenFloor$Machine" "firings" "[I", Cond.fieldLink RX4 22 "TokenFloor$Machine" "ends" "[J", Cond.fieldLink RX4 71 "TokenFloor$Machine" "steps" "I", Cond.fieldLink RX4 84 "TokenFloor$Machine" "tickCount" "I"]
def wsX9_ticks_r2 : List Cond := [Cond.fieldLink RX4 75 "TokenFloor$Machine" "most" "I", Cond.fieldLink RX4 93 "TokenFloor$Machine" "lost" "I", Cond.fieldLink RX4 96 "TokenFloor$Machine" "strays" "I", Cond.fieldLink RX4 102 "TokenFloor$Machine" "clashAct" "I", Cond.fieldLink RX4 47 "TokenFloor$Machine" "graph" "LTokenFloor$Graph;", Cond.fieldLink RX4 143 "TokenFloor$Graph" "tokens" "I", Cond.fieldLink RX4 148 "TokenFloor$Graph" "tokenValue" "[I", Cond.fieldLink RX4 154 "TokenFloor$Graph" "tokenAct" "[I", Cond.fieldLink RX4 157 "TokenFloor$Graph" "tokenPort" "[I", Cond.methodLink RX4 128 yX0_reset, Cond.instanceMethod yX0_reset, Cond.selects RX0 yX0_reset yX0_reset, Cond.initialized RX0, Cond.code yX0_reset cX0_reset 1 none, Cond.fieldLink RX0 27 "TokenFloor$Colours" "count" "I", Cond.methodLink RX0 31 yX0_add, Cond.instanceMethod yX0_add, Cond.selects RX0 yX0_add yX0_add, Cond.code yX0_add cX0_add 5 (some .int), Cond.fieldLink RX0 18 "TokenFloor$Colours" "key" "[I", Cond.fieldLink RX0 11 "TokenFloor$Colours" "origin" "[I", Cond.fieldLink RX0 15 "TokenFloor$Colours" "outer" "[I", Cond.fieldLink RX0 21 "TokenFloor$Colours" "firstReached" "[I", Cond.fieldLink RX0 24 "TokenFloor$Colours" "nextReached" "[I"]
def wsX9_ticks_r3 : List Cond := [Cond.methodLink RX4 131 yX1_reset, Cond.instanceMethod yX1_reset, Cond.selects RX1 yX1_reset yX1_reset, Cond.initialized RX1, Cond.code yX1_reset cX1_reset 1 none, Cond.fieldLink RX1 31 "TokenFloor$Floor" "left" "I", Cond.fieldLink RX1 35 "TokenFloor$Floor" "count" "I", Cond.fieldLink RX1 25 "TokenFloor$Floor" "firstPair" "[I", Cond.methodLink RX1 38 yJ7_fill_53178, Cond.static yJ7_fill_53178, Cond.initialized RJ7, Cond.code yJ7_fill_53178 cJ7_fill_53178 4 none, Cond.methodLink RX4 132 yX5_reset, Cond.instanceMethod yX5_reset, Cond.selects RX5 yX5_reset yX5_reset, Cond.initialized RX5, Cond.code yX5_reset cX5_reset 1 none, Cond.fieldLink RX5 15 "TokenFloor$ReadyRow" "head" "I", Cond.fieldLink RX5 19 "TokenFloor$ReadyRow" "tail" "I", Cond.methodLink RX4 133 yX6_reset, Cond.instanceMethod yX6_reset, Cond.selects RX6 yX6_reset yX6_reset, Cond.initialized RX6, Cond.code yX6_reset cX6_reset 1 none]
def wsX9_ticks_r4 : List Cond := [Cond.fieldLink RX6 34 "TokenFloor$Store" "waiting" "I", Cond.fieldLink RX6 38 "TokenFloor$Store" "rows" "I", Cond.fieldLink RX6 41 "TokenFloor$Store" "cells" "I", Cond.fieldLink RX6 9 "TokenFloor$Store" "rowOfAct" "[I", Cond.methodLink RX6 44 yJ7_fill_53178, Cond.methodLink RX4 134 yJ7_fill_53178, Cond.methodLink RX4 140 yJ7_fill_d0a16, Cond.static yJ7_fill_d0a16, Cond.code yJ7_fill_d0a16 cJ7_fill_d0a16 5 none, Cond.methodLink RX4 151 yX8_ofNumber, Cond.static yX8_ofNumber, Cond.initialized RX8, Cond.code yX8_ofNumber cX8_ofNumber 1 (some .long), Cond.constantLong RX8 9 (1099511627776), Cond.constantLong RX8 11 (4294967295), Cond.methodLink RX4 160 yX4_arrive, Cond.instanceMethod yX4_arrive, Cond.selects RX4 yX4_arrive yX4_arrive, Cond.code yX4_arrive cX4_arrive 7 none, Cond.fieldLink RX4 258 "TokenFloor$Graph" "ports" "[I", Cond.methodLink RX4 312 yX1_find, Cond.instanceMethod yX1_find, Cond.selects RX1 yX1_find yX1_find, Cond.code yX1_find cX1_find 5 (some .int)]
def wsX9_ticks_r5 : List Cond := [Cond.fieldLink RX1 9 "TokenFloor$Floor" "actOf" "[I", Cond.fieldLink RX1 28 "TokenFloor$Floor" "nextPair" "[I", Cond.methodLink RX4 315 yX1_add, Cond.instanceMethod yX1_add, Cond.selects RX1 yX1_add yX1_add, Cond.code yX1_add cX1_add 4 (some .int), Cond.fieldLink RX1 15 "TokenFloor$Floor" "colourOf" "[I", Cond.fieldLink RX1 18 "TokenFloor$Floor" "had" "[I", Cond.methodLink RX4 318 yX1_hadToken, Cond.instanceMethod yX1_hadToken, Cond.selects RX1 yX1_hadToken yX1_hadToken, Cond.code yX1_hadToken cX1_hadToken 3 (some .boolean), Cond.methodLink RX4 287 yX4_clashAt, Cond.instanceMethod yX4_clashAt, Cond.selects RX4 yX4_clashAt yX4_clashAt, Cond.code yX4_clashAt cX4_clashAt 2 none, Cond.methodLink RX4 321 yX1_put, Cond.instanceMethod yX1_put, Cond.selects RX1 yX1_put yX1_put, Cond.code yX1_put cX1_put 7 (some .boolean), Cond.fieldLink RX1 21 "TokenFloor$Floor" "came" "[J", Cond.methodLink RX4 325 yX5_add, Cond.instanceMethod yX5_add, Cond.selects RX5 yX5_add yX5_add]
def wsX9_ticks_r6 : List Cond := [Cond.code yX5_add cX5_add 2 none, Cond.fieldLink RX5 9 "TokenFloor$ReadyRow" "row" "[I", Cond.methodLink RX4 54 yX4_mayStep, Cond.instanceMethod yX4_mayStep, Cond.selects RX4 yX4_mayStep yX4_mayStep, Cond.code yX4_mayStep cX4_mayStep 2 (some .boolean), Cond.methodLink RX4 59 yX5_size, Cond.instanceMethod yX5_size, Cond.selects RX5 yX5_size yX5_size, Cond.code yX5_size cX5_size 1 (some .int), Cond.methodLink RX4 81 yX4_goTick, Cond.instanceMethod yX4_goTick, Cond.selects RX4 yX4_goTick yX4_goTick, Cond.code yX4_goTick cX4_goTick 4 none, Cond.methodLink RX4 164 Lib.Math.max.name, Cond.static Lib.Math.max.name, Cond.initialized "java/lang/Math", Cond.code Lib.Math.max.name Lib.Math.max.code 2 (some .int), Cond.methodLink RX4 63 yX5_take, Cond.instanceMethod yX5_take, Cond.selects RX5 yX5_take yX5_take, Cond.code yX5_take cX5_take 4 (some .int), Cond.methodLink RX5 26 arraycopyName, Cond.native arraycopyName]
def wsX9_ticks_r7 : List Cond := [Cond.static arraycopyName, Cond.initialized "java/lang/System", Cond.methodLink RX5 22 yX5_size, Cond.methodLink RX4 67 yX4_goOff, Cond.instanceMethod yX4_goOff, Cond.selects RX4 yX4_goOff yX4_goOff, Cond.code yX4_goOff cX4_goOff 6 none, Cond.fieldLink RX4 170 "TokenFloor$Floor" "actOf" "[I", Cond.fieldLink RX4 172 "TokenFloor$Floor" "colourOf" "[I", Cond.fieldLink RX4 179 "TokenFloor$Graph" "kind" "[I", Cond.fieldLink RX4 186 "TokenFloor$Graph" "number" "[I", Cond.methodLink RX4 175 yX1_cameTo, Cond.instanceMethod yX1_cameTo, Cond.selects RX1 yX1_cameTo yX1_cameTo, Cond.code yX1_cameTo cX1_cameTo 3 (some .long), Cond.methodLink RX4 182 yX4_goSwitch, Cond.instanceMethod yX4_goSwitch, Cond.selects RX4 yX4_goSwitch yX4_goSwitch, Cond.code yX4_goSwitch cX4_goSwitch 7 none, Cond.methodLink RX4 105 yX8_sortOf, Cond.static yX8_sortOf, Cond.code yX8_sortOf cX8_sortOf 2 (some .int), Cond.methodLink RX4 111 yX8_contentOf, Cond.static yX8_contentOf]
def wsX9_ticks_r8 : List Cond := [Cond.code yX8_contentOf cX8_contentOf 2 (some .int), Cond.methodLink RX4 223 yX4_give, Cond.instanceMethod yX4_give, Cond.selects RX4 yX4_give yX4_give, Cond.code yX4_give cX4_give 8 none, Cond.fieldLink RX4 303 "TokenFloor$Graph" "wayTo" "[I", Cond.fieldLink RX4 306 "TokenFloor$Graph" "wayPort" "[I", Cond.fieldLink RX4 309 "TokenFloor$Graph" "nextWay" "[I", Cond.methodLink RX4 300 yX2_firstWayOf, Cond.instanceMethod yX2_firstWayOf, Cond.selects RX2 yX2_firstWayOf yX2_firstWayOf, Cond.initialized RX2, Cond.code yX2_firstWayOf cX2_firstWayOf 3 (some .int), Cond.fieldLink RX2 33 "TokenFloor$Graph" "firstWay" "[I", Cond.methodLink RX4 189 yX0_enter, Cond.instanceMethod yX0_enter, Cond.selects RX0 yX0_enter yX0_enter, Cond.code yX0_enter cX0_enter 3 (some .int), Cond.methodLink RX0 35 yX0_reach, Cond.instanceMethod yX0_reach, Cond.selects RX0 yX0_reach yX0_reach, Cond.code yX0_reach cX0_reach 7 (some .int), Cond.methodLink RX4 192 yX4_giveInside, Cond.instanceMethod yX4_giveInside]
def wsX9_ticks_r9 : List Cond := [Cond.selects RX4 yX4_giveInside yX4_giveInside, Cond.code yX4_giveInside cX4_giveInside 5 none, Cond.methodLink RX4 196 yX4_goTurn, Cond.instanceMethod yX4_goTurn, Cond.selects RX4 yX4_goTurn yX4_goTurn, Cond.code yX4_goTurn cX4_goTurn 5 none, Cond.methodLink RX4 240 yX0_isTurnOf, Cond.instanceMethod yX0_isTurnOf, Cond.selects RX0 yX0_isTurnOf yX0_isTurnOf, Cond.code yX0_isTurnOf cX0_isTurnOf 3 (some .boolean), Cond.methodLink RX4 244 yX8_ofFault, Cond.static yX8_ofFault, Cond.code yX8_ofFault cX8_ofFault 2 (some .long), Cond.constantLong RX8 19 (3298534883328), Cond.methodLink RX4 249 yX0_nextTurn, Cond.instanceMethod yX0_nextTurn, Cond.selects RX0 yX0_nextTurn yX0_nextTurn, Cond.code yX0_nextTurn cX0_nextTurn 2 (some .int), Cond.methodLink RX4 252 yX0_outerOf, Cond.instanceMethod yX0_outerOf, Cond.selects RX0 yX0_outerOf yX0_outerOf, Cond.code yX0_outerOf cX0_outerOf 2 (some .int), Cond.methodLink RX4 199 yX4_goCall, Cond.instanceMethod yX4_goCall]
def wsX9_ticks_r10 : List Cond := [Cond.selects RX4 yX4_goCall yX4_goCall, Cond.code yX4_goCall cX4_goCall 7 none, Cond.methodLink RX4 255 yX0_callBy, Cond.instanceMethod yX0_callBy, Cond.selects RX0 yX0_callBy yX0_callBy, Cond.code yX0_callBy cX0_callBy 3 (some .int), Cond.methodLink RX4 261 yX2_parameterFor, Cond.instanceMethod yX2_parameterFor, Cond.selects RX2 yX2_parameterFor yX2_parameterFor, Cond.code yX2_parameterFor cX2_parameterFor 4 (some .int), Cond.fieldLink RX2 15 "TokenFloor$Graph" "number" "[I", Cond.fieldLink RX2 21 "TokenFloor$Graph" "parameter" "[I", Cond.methodLink RX4 203 yX4_goReturn, Cond.instanceMethod yX4_goReturn, Cond.selects RX4 yX4_goReturn yX4_goReturn, Cond.code yX4_goReturn cX4_goReturn 5 none, Cond.methodLink RX4 264 yX0_callerOf, Cond.instanceMethod yX0_callerOf, Cond.selects RX0 yX0_callerOf yX0_callerOf, Cond.code yX0_callerOf cX0_callerOf 2 (some .int), Cond.methodLink RX4 207 yX4_goMake, Cond.instanceMethod yX4_goMake, Cond.selects RX4 yX4_goMake yX4_goMake, Cond.code yX4_goMake cX4_goMake 9 none]
def wsX9_ticks_r11 : List Cond := [Cond.fieldLink RX4 270 "TokenFloor$Store" "rowOfAct" "[I", Cond.methodLink RX4 232 yX8_refuse, Cond.static yX8_refuse, Cond.code yX8_refuse cX8_refuse 5 (some .long), Cond.methodLink RX8 21 yX8_sortOf, Cond.methodLink RX8 25 yX8_ofFault, Cond.methodLink RX4 267 yX6_make, Cond.instanceMethod yX6_make, Cond.selects RX6 yX6_make yX6_make, Cond.code yX6_make cX6_make 4 (some .int), Cond.fieldLink RX6 19 "TokenFloor$Store" "start" "[I", Cond.fieldLink RX6 22 "TokenFloor$Store" "size" "[I", Cond.fieldLink RX6 15 "TokenFloor$Store" "written" "[J", Cond.fieldLink RX6 25 "TokenFloor$Store" "firstReader" "[I", Cond.fieldLink RX6 28 "TokenFloor$Store" "lastReader" "[I", Cond.methodLink RX4 124 yX8_ofRow, Cond.static yX8_ofRow, Cond.code yX8_ofRow cX8_ofRow 1 (some .long), Cond.constantLong RX8 17 (2199023255552), Cond.methodLink RX4 210 yX4_goRead, Cond.instanceMethod yX4_goRead, Cond.selects RX4 yX4_goRead yX4_goRead, Cond.code yX4_goRead cX4_goRead 9 none, Cond.fieldLink RX4 280 "TokenFloor$Store" "written" "[J"]
def wsX9_ticks_r12 : List Cond := [Cond.methodLink RX4 273 yX4_placeAsked, Cond.instanceMethod yX4_placeAsked, Cond.selects RX4 yX4_placeAsked yX4_placeAsked, Cond.code yX4_placeAsked cX4_placeAsked 3 (some .int), Cond.methodLink RX4 297 yX6_placeIn, Cond.instanceMethod yX6_placeIn, Cond.selects RX6 yX6_placeIn yX6_placeIn, Cond.code yX6_placeIn cX6_placeIn 3 (some .int), Cond.methodLink RX6 52 yX6_sizeOf, Cond.instanceMethod yX6_sizeOf, Cond.selects RX6 yX6_sizeOf yX6_sizeOf, Cond.code yX6_sizeOf cX6_sizeOf 2 (some .int), Cond.methodLink RX4 276 yX4_refuseCell, Cond.instanceMethod yX4_refuseCell, Cond.selects RX4 yX4_refuseCell yX4_refuseCell, Cond.code yX4_refuseCell cX4_refuseCell 10 (some .long), Cond.methodLink RX4 293 yX8_refuseTwo, Cond.static yX8_refuseTwo, Cond.code yX8_refuseTwo cX8_refuseTwo 8 (some .long), Cond.methodLink RX4 283 yX6_addReader, Cond.instanceMethod yX6_addReader, Cond.selects RX6 yX6_addReader yX6_addReader, Cond.code yX6_addReader cX6_addReader 4 none, Cond.fieldLink RX6 31 "TokenFloor$Store" "nextReader" "[I"]
def wsX9_ticks_r13 : List Cond := [Cond.methodLink RX4 213 yX4_goWrite, Cond.instanceMethod yX4_goWrite, Cond.selects RX4 yX4_goWrite yX4_goWrite, Cond.code yX4_goWrite cX4_goWrite 11 none, Cond.methodLink RX4 290 yX6_takeReader, Cond.instanceMethod yX6_takeReader, Cond.selects RX6 yX6_takeReader yX6_takeReader, Cond.code yX6_takeReader cX6_takeReader 3 (some .int), Cond.methodLink RX4 216 yX4_goEnd, Cond.instanceMethod yX4_goEnd, Cond.selects RX4 yX4_goEnd yX4_goEnd, Cond.code yX4_goEnd cX4_goEnd 6 none, Cond.methodLink RX4 219 yX4_plainResult, Cond.instanceMethod yX4_plainResult, Cond.selects RX4 yX4_plainResult yX4_plainResult, Cond.code yX4_plainResult cX4_plainResult 9 (some .long), Cond.methodLink RX4 226 yX7_not, Cond.static yX7_not, Cond.initialized RX7, Cond.code yX7_not cX7_not 5 (some .long), Cond.methodLink RX7 34 yX8_refuse, Cond.methodLink RX7 19 yX8_contentOf, Cond.methodLink RX7 30 yX8_ofTruth, Cond.static yX8_ofTruth]
def wsX9_ticks_r14 : List Cond := [Cond.code yX8_ofTruth cX8_ofTruth 1 (some .long), Cond.methodLink RX8 13 yX8_ofNumber, Cond.methodLink RX4 114 yX6_sizeOf, Cond.methodLink RX4 236 yX7_ofTwo, Cond.static yX7_ofTwo, Cond.code yX7_ofTwo cX7_ofTwo 11 (some .long), Cond.methodLink RX7 9 yX8_sortOf, Cond.methodLink RX7 15 yX8_refuseTwo, Cond.methodLink RX7 22 yX8_ofNumber, Cond.methodLink RX7 26 yX8_ofFault]
def wsX9_ticks : List Cond := .code yX9_ticks cX9_ticks 2 (some .int) :: ((wsX9_ticks_r1 ++ (wsX9_ticks_r2 ++ (wsX9_ticks_r3 ++ (wsX9_ticks_r4 ++ (wsX9_ticks_r5 ++ (wsX9_ticks_r6 ++ (wsX9_ticks_r7 ++ (wsX9_ticks_r8 ++ (wsX9_ticks_r9 ++ (wsX9_ticks_r10 ++ (wsX9_ticks_r11 ++ (wsX9_ticks_r12 ++ (wsX9_ticks_r13 ++ wsX9_ticks_r14))))))))))))) ++ wsX90 ++ wsX40 ++ wsX20 ++ wsX00 ++ wsX10 ++ wsX50 ++ wsX60)
def wsX9_about_r1 : List Cond := [Cond.fieldLink RX9 32 "TokenFloor" "hasRun" "Z", Cond.fieldLink RX9 21 "TokenFloor" "machine" "LTokenFloor$Machine;", Cond.methodLink RX9 68 yX4_figure, Cond.instanceMethod yX4_figure, Cond.selects RX4 yX4_figure yX4_figure, Cond.initialized RX4, Cond.code yX4_figure cX4_figure 2 (some .int), Cond.fieldLink RX4 78 "TokenFloor$Machine" "how" "I", Cond.fieldLink RX4 71 "TokenFloor$Machine" "steps" "I", Cond.fieldLink RX4 84 "TokenFloor$Machine" "tickCount" "I", Cond.fieldLink RX4 75 "TokenFloor$Machine" "most" "I", Cond.fieldLink RX4 36 "TokenFloor$Machine" "floor" "LTokenFloor$Floor;", Cond.fieldLink RX4 87 "TokenFloor$Floor" "left" "I", Cond.fieldLink RX4 12 "TokenFloor$Machine" "store" "LTokenFloor$Store;", Cond.fieldLink RX4 90 "TokenFloor$Store" "waiting" "I", Cond.fieldLink RX4 93 "TokenFloor$Machine" "lost" "I", Cond.fieldLink RX4 96 "TokenFloor$Machine" "strays" "I", Cond.fieldLink RX4 29 "TokenFloor$Machine" "colours" "LTokenFloor$Colours;", Cond.fieldLink RX4 99 "TokenFloor$Colours" "count" "I", Cond.fieldLink RX4 102 "TokenFloor$Machine" "clashAct" "I", Cond.fieldLink RX4 43 "TokenFloor$Machine" "ready" "LTokenFloor$ReadyRow;", Cond.methodLink RX4 59 yX5_size, Cond.instanceMethod yX5_size, Cond.selects RX5 yX5_size yX5_size]
def wsX9_about_r2 : List Cond := [Cond.initialized RX5, Cond.code yX5_size cX5_size 1 (some .int), Cond.fieldLink RX5 19 "TokenFloor$ReadyRow" "tail" "I", Cond.fieldLink RX5 15 "TokenFloor$ReadyRow" "head" "I"]
def wsX9_about : List Cond := .code yX9_about cX9_about 2 (some .int) :: ((wsX9_about_r1 ++ wsX9_about_r2) ++ wsX90 ++ wsX40 ++ wsX10 ++ wsX60 ++ wsX00 ++ wsX50)
def wsX9_end_r1 : List Cond := [Cond.fieldLink RX9 32 "TokenFloor" "hasRun" "Z", Cond.fieldLink RX9 21 "TokenFloor" "machine" "LTokenFloor$Machine;", Cond.fieldLink RX9 71 "TokenFloor$Machine" "ends" "[J", Cond.methodLink RX9 74 yX4_describe, Cond.instanceMethod yX4_describe, Cond.selects RX4 yX4_describe yX4_describe, Cond.initialized RX4, Cond.code yX4_describe cX4_describe 6 (some .int), Cond.fieldLink RX4 12 "TokenFloor$Machine" "store" "LTokenFloor$Store;", Cond.methodLink RX4 105 yX8_sortOf, Cond.static yX8_sortOf, Cond.initialized RX8, Cond.code yX8_sortOf cX8_sortOf 2 (some .int), Cond.methodLink RX4 111 yX8_contentOf, Cond.static yX8_contentOf, Cond.code yX8_contentOf cX8_contentOf 2 (some .int), Cond.methodLink RX4 114 yX6_sizeOf, Cond.instanceMethod yX6_sizeOf, Cond.selects RX6 yX6_sizeOf yX6_sizeOf, Cond.initialized RX6, Cond.code yX6_sizeOf cX6_sizeOf 2 (some .int), Cond.fieldLink RX6 38 "TokenFloor$Store" "rows" "I", Cond.fieldLink RX6 22 "TokenFloor$Store" "size" "[I", Cond.methodLink RX4 117 yX8_actOf]
def wsX9_end_r2 : List Cond := [Cond.static yX8_actOf, Cond.code yX8_actOf cX8_actOf 2 (some .int)]
def wsX9_end : List Cond := .code yX9_end cX9_end 3 (some .int) :: ((wsX9_end_r1 ++ wsX9_end_r2) ++ wsX90 ++ wsX40 ++ wsX60)
def wsX9_fired : List Cond := .code yX9_fired cX9_fired 2 (some .int) :: ([.fieldLink RX9 32 "TokenFloor" "hasRun" "Z", .fieldLink RX9 10 "TokenFloor" "graph" "LTokenFloor$Graph;", .fieldLink RX9 21 "TokenFloor" "machine" "LTokenFloor$Machine;", .fieldLink RX9 81 "TokenFloor$Machine" "firings" "[I", .methodLink RX9 78 yX2_hasAct, .instanceMethod yX2_hasAct, .selects RX2 yX2_hasAct yX2_hasAct, .initialized RX2, .code yX2_hasAct cX2_hasAct 2 (some .boolean), .fieldLink RX2 54 "TokenFloor$Graph" "acts" "I"] ++ wsX90 ++ wsX40 ++ wsX20)
def wsX9_cell_r1 : List Cond := [Cond.fieldLink RX9 32 "TokenFloor" "hasRun" "Z", Cond.fieldLink RX9 10 "TokenFloor" "graph" "LTokenFloor$Graph;", Cond.fieldLink RX9 21 "TokenFloor" "machine" "LTokenFloor$Machine;", Cond.fieldLink RX9 85 "TokenFloor$Machine" "store" "LTokenFloor$Store;", Cond.fieldLink RX9 89 "TokenFloor$Store" "rowOfAct" "[I", Cond.fieldLink RX9 97 "TokenFloor$Store" "written" "[J", Cond.methodLink RX9 78 yX2_hasAct, Cond.instanceMethod yX2_hasAct, Cond.selects RX2 yX2_hasAct yX2_hasAct, Cond.initialized RX2, Cond.code yX2_hasAct cX2_hasAct 2 (some .boolean), Cond.fieldLink RX2 54 "TokenFloor$Graph" "acts" "I", Cond.methodLink RX9 94 yX6_placeIn, Cond.instanceMethod yX6_placeIn, Cond.selects RX6 yX6_placeIn yX6_placeIn, Cond.initialized RX6, Cond.code yX6_placeIn cX6_placeIn 3 (some .int), Cond.fieldLink RX6 19 "TokenFloor$Store" "start" "[I", Cond.methodLink RX6 52 yX6_sizeOf, Cond.instanceMethod yX6_sizeOf, Cond.selects RX6 yX6_sizeOf yX6_sizeOf, Cond.code yX6_sizeOf cX6_sizeOf 2 (some .int), Cond.fieldLink RX6 38 "TokenFloor$Store" "rows" "I", Cond.fieldLink RX6 22 "TokenFloor$Store" "size" "[I"]
def wsX9_cell_r2 : List Cond := [Cond.methodLink RX9 74 yX4_describe, Cond.instanceMethod yX4_describe, Cond.selects RX4 yX4_describe yX4_describe, Cond.initialized RX4, Cond.code yX4_describe cX4_describe 6 (some .int), Cond.fieldLink RX4 12 "TokenFloor$Machine" "store" "LTokenFloor$Store;", Cond.methodLink RX4 105 yX8_sortOf, Cond.static yX8_sortOf, Cond.initialized RX8, Cond.code yX8_sortOf cX8_sortOf 2 (some .int), Cond.methodLink RX4 111 yX8_contentOf, Cond.static yX8_contentOf, Cond.code yX8_contentOf cX8_contentOf 2 (some .int), Cond.methodLink RX4 114 yX6_sizeOf, Cond.methodLink RX4 117 yX8_actOf, Cond.static yX8_actOf, Cond.code yX8_actOf cX8_actOf 2 (some .int)]
def wsX9_cell : List Cond := .code yX9_cell cX9_cell 5 (some .int) :: ((wsX9_cell_r1 ++ wsX9_cell_r2) ++ wsX90 ++ wsX40 ++ wsX60 ++ wsX20)
def wsX9_told_r1 : List Cond := [Cond.fieldLink RX9 10 "TokenFloor" "graph" "LTokenFloor$Graph;", Cond.fieldLink RX9 100 "TokenFloor$Graph" "kind" "[I", Cond.fieldLink RX9 103 "TokenFloor$Graph" "number" "[I", Cond.fieldLink RX9 106 "TokenFloor$Graph" "ports" "[I", Cond.methodLink RX9 78 yX2_hasAct, Cond.instanceMethod yX2_hasAct, Cond.selects RX2 yX2_hasAct yX2_hasAct, Cond.initialized RX2, Cond.code yX2_hasAct cX2_hasAct 2 (some .boolean), Cond.fieldLink RX2 54 "TokenFloor$Graph" "acts" "I", Cond.methodLink RX9 109 yX2_countWays, Cond.instanceMethod yX2_countWays, Cond.selects RX2 yX2_countWays yX2_countWays, Cond.code yX2_countWays cX2_countWays 5 (some .int), Cond.fieldLink RX2 30 "TokenFloor$Graph" "nextWay" "[I", Cond.methodLink RX2 90 yX2_firstWayOf, Cond.instanceMethod yX2_firstWayOf, Cond.selects RX2 yX2_firstWayOf yX2_firstWayOf, Cond.code yX2_firstWayOf cX2_firstWayOf 3 (some .int), Cond.fieldLink RX2 33 "TokenFloor$Graph" "firstWay" "[I", Cond.methodLink RX9 112 yX2_countTokens, Cond.instanceMethod yX2_countTokens, Cond.selects RX2 yX2_countTokens yX2_countTokens, Cond.code yX2_countTokens cX2_countTokens 4 (some .int)]
def wsX9_told_r2 : List Cond := [Cond.fieldLink RX2 87 "TokenFloor$Graph" "tokens" "I", Cond.fieldLink RX2 39 "TokenFloor$Graph" "tokenAct" "[I"]
def wsX9_told : List Cond := .code yX9_told cX9_told 3 (some .int) :: ((wsX9_told_r1 ++ wsX9_told_r2) ++ wsX90 ++ wsX20)
def wsX9_firstDifference : List Cond := .code yX9_firstDifference cX9_firstDifference 2 (some .int) :: ([.fieldLink RX9 25 "TokenFloor" "figuresA" "[J", .fieldLink RX9 29 "TokenFloor" "figuresB" "[J"] ++ wsX90)
def wsX9_beside_r1 : List Cond := [Cond.fieldLink RX9 32 "TokenFloor" "hasRun" "Z", Cond.fieldLink RX9 21 "TokenFloor" "machine" "LTokenFloor$Machine;", Cond.fieldLink RX9 25 "TokenFloor" "figuresA" "[J", Cond.fieldLink RX9 29 "TokenFloor" "figuresB" "[J", Cond.methodLink RX9 56 yX9_isFuel, Cond.static yX9_isFuel, Cond.initialized RX9, Cond.code yX9_isFuel cX9_isFuel 1 (some .boolean), Cond.methodLink RX9 60 yX4_goBySeed, Cond.instanceMethod yX4_goBySeed, Cond.selects RX4 yX4_goBySeed yX4_goBySeed, Cond.initialized RX4, Cond.code yX4_goBySeed cX4_goBySeed 6 (some .int), Cond.constant RX4 58 (1103515245), Cond.fieldLink RX4 43 "TokenFloor$Machine" "ready" "LTokenFloor$ReadyRow;", Cond.fieldLink RX4 71 "TokenFloor$Machine" "steps" "I", Cond.fieldLink RX4 75 "TokenFloor$Machine" "most" "I", Cond.fieldLink RX4 78 "TokenFloor$Machine" "how" "I", Cond.methodLink RX4 51 yX4_begin, Cond.instanceMethod yX4_begin, Cond.selects RX4 yX4_begin yX4_begin, Cond.code yX4_begin cX4_begin 4 none, Cond.fieldLink RX4 29 "TokenFloor$Machine" "colours" "LTokenFloor$Colours;", Cond.fieldLink RX4 36 "TokenFloor$Machine" "floor" "LTokenFloor$Floor;"]
def wsX9_beside_r2 : List Cond := [Cond.fieldLink RX4 12 "TokenFloor$Machine" "store" "LTokenFloor$Store;", Cond.fieldLink RX4 18 "TokenFloor$Machine" "firings" "[I", Cond.fieldLink RX4 22 "TokenFloor$Machine" "ends" "[J", Cond.fieldLink RX4 84 "TokenFloor$Machine" "tickCount" "I", Cond.fieldLink RX4 93 "TokenFloor$Machine" "lost" "I", Cond.fieldLink RX4 96 "TokenFloor$Machine" "strays" "I", Cond.fieldLink RX4 102 "TokenFloor$Machine" "clashAct" "I", Cond.fieldLink RX4 47 "TokenFloor$Machine" "graph" "LTokenFloor$Graph;", Cond.fieldLink RX4 143 "TokenFloor$Graph" "tokens" "I", Cond.fieldLink RX4 148 "TokenFloor$Graph" "tokenValue" "[I", Cond.fieldLink RX4 154 "TokenFloor$Graph" "tokenAct" "[I", Cond.fieldLink RX4 157 "TokenFloor$Graph" "tokenPort" "[I", Cond.methodLink RX4 128 yX0_reset, Cond.instanceMethod yX0_reset, Cond.selects RX0 yX0_reset yX0_reset, Cond.initialized RX0, Cond.code yX0_reset cX0_reset 1 none, Cond.fieldLink RX0 27 "TokenFloor$Colours" "count" "I", Cond.methodLink RX0 31 yX0_add, Cond.instanceMethod yX0_add, Cond.selects RX0 yX0_add yX0_add, Cond.code yX0_add cX0_add 5 (some .int), Cond.fieldLink RX0 18 "TokenFloor$Colours" "key" "[I", Cond.fieldLink RX0 11 "TokenFloor$Colours" "origin" "[I"]
def wsX9_beside_r3 : List Cond := [Cond.fieldLink RX0 15 "TokenFloor$Colours" "outer" "[I", Cond.fieldLink RX0 21 "TokenFloor$Colours" "firstReached" "[I", Cond.fieldLink RX0 24 "TokenFloor$Colours" "nextReached" "[I", Cond.methodLink RX4 131 yX1_reset, Cond.instanceMethod yX1_reset, Cond.selects RX1 yX1_reset yX1_reset, Cond.initialized RX1, Cond.code yX1_reset cX1_reset 1 none, Cond.fieldLink RX1 31 "TokenFloor$Floor" "left" "I", Cond.fieldLink RX1 35 "TokenFloor$Floor" "count" "I", Cond.fieldLink RX1 25 "TokenFloor$Floor" "firstPair" "[I", Cond.methodLink RX1 38 yJ7_fill_53178, Cond.static yJ7_fill_53178, Cond.initialized RJ7, Cond.code yJ7_fill_53178 cJ7_fill_53178 4 none, Cond.methodLink RX4 132 yX5_reset, Cond.instanceMethod yX5_reset, Cond.selects RX5 yX5_reset yX5_reset, Cond.initialized RX5, Cond.code yX5_reset cX5_reset 1 none, Cond.fieldLink RX5 15 "TokenFloor$ReadyRow" "head" "I", Cond.fieldLink RX5 19 "TokenFloor$ReadyRow" "tail" "I", Cond.methodLink RX4 133 yX6_reset, Cond.instanceMethod yX6_reset]
def wsX9_beside_r4 : List Cond := [Cond.selects RX6 yX6_reset yX6_reset, Cond.initialized RX6, Cond.code yX6_reset cX6_reset 1 none, Cond.fieldLink RX6 34 "TokenFloor$Store" "waiting" "I", Cond.fieldLink RX6 38 "TokenFloor$Store" "rows" "I", Cond.fieldLink RX6 41 "TokenFloor$Store" "cells" "I", Cond.fieldLink RX6 9 "TokenFloor$Store" "rowOfAct" "[I", Cond.methodLink RX6 44 yJ7_fill_53178, Cond.methodLink RX4 134 yJ7_fill_53178, Cond.methodLink RX4 140 yJ7_fill_d0a16, Cond.static yJ7_fill_d0a16, Cond.code yJ7_fill_d0a16 cJ7_fill_d0a16 5 none, Cond.methodLink RX4 151 yX8_ofNumber, Cond.static yX8_ofNumber, Cond.initialized RX8, Cond.code yX8_ofNumber cX8_ofNumber 1 (some .long), Cond.constantLong RX8 9 (1099511627776), Cond.constantLong RX8 11 (4294967295), Cond.methodLink RX4 160 yX4_arrive, Cond.instanceMethod yX4_arrive, Cond.selects RX4 yX4_arrive yX4_arrive, Cond.code yX4_arrive cX4_arrive 7 none, Cond.fieldLink RX4 258 "TokenFloor$Graph" "ports" "[I", Cond.methodLink RX4 312 yX1_find]
def wsX9_beside_r5 : List Cond := [Cond.instanceMethod yX1_find, Cond.selects RX1 yX1_find yX1_find, Cond.code yX1_find cX1_find 5 (some .int), Cond.fieldLink RX1 9 "TokenFloor$Floor" "actOf" "[I", Cond.fieldLink RX1 28 "TokenFloor$Floor" "nextPair" "[I", Cond.methodLink RX4 315 yX1_add, Cond.instanceMethod yX1_add, Cond.selects RX1 yX1_add yX1_add, Cond.code yX1_add cX1_add 4 (some .int), Cond.fieldLink RX1 15 "TokenFloor$Floor" "colourOf" "[I", Cond.fieldLink RX1 18 "TokenFloor$Floor" "had" "[I", Cond.methodLink RX4 318 yX1_hadToken, Cond.instanceMethod yX1_hadToken, Cond.selects RX1 yX1_hadToken yX1_hadToken, Cond.code yX1_hadToken cX1_hadToken 3 (some .boolean), Cond.methodLink RX4 287 yX4_clashAt, Cond.instanceMethod yX4_clashAt, Cond.selects RX4 yX4_clashAt yX4_clashAt, Cond.code yX4_clashAt cX4_clashAt 2 none, Cond.methodLink RX4 321 yX1_put, Cond.instanceMethod yX1_put, Cond.selects RX1 yX1_put yX1_put, Cond.code yX1_put cX1_put 7 (some .boolean), Cond.fieldLink RX1 21 "TokenFloor$Floor" "came" "[J"]
def wsX9_beside_r6 : List Cond := [Cond.methodLink RX4 325 yX5_add, Cond.instanceMethod yX5_add, Cond.selects RX5 yX5_add yX5_add, Cond.code yX5_add cX5_add 2 none, Cond.fieldLink RX5 9 "TokenFloor$ReadyRow" "row" "[I", Cond.methodLink RX4 54 yX4_mayStep, Cond.instanceMethod yX4_mayStep, Cond.selects RX4 yX4_mayStep yX4_mayStep, Cond.code yX4_mayStep cX4_mayStep 2 (some .boolean), Cond.methodLink RX4 59 yX5_size, Cond.instanceMethod yX5_size, Cond.selects RX5 yX5_size yX5_size, Cond.code yX5_size cX5_size 1 (some .int), Cond.methodLink RX4 63 yX5_take, Cond.instanceMethod yX5_take, Cond.selects RX5 yX5_take yX5_take, Cond.code yX5_take cX5_take 4 (some .int), Cond.methodLink RX5 26 arraycopyName, Cond.native arraycopyName, Cond.static arraycopyName, Cond.initialized "java/lang/System", Cond.methodLink RX5 22 yX5_size, Cond.methodLink RX4 67 yX4_goOff, Cond.instanceMethod yX4_goOff]
def wsX9_beside_r7 : List Cond := [Cond.selects RX4 yX4_goOff yX4_goOff, Cond.code yX4_goOff cX4_goOff 6 none, Cond.fieldLink RX4 170 "TokenFloor$Floor" "actOf" "[I", Cond.fieldLink RX4 172 "TokenFloor$Floor" "colourOf" "[I", Cond.fieldLink RX4 179 "TokenFloor$Graph" "kind" "[I", Cond.fieldLink RX4 186 "TokenFloor$Graph" "number" "[I", Cond.methodLink RX4 175 yX1_cameTo, Cond.instanceMethod yX1_cameTo, Cond.selects RX1 yX1_cameTo yX1_cameTo, Cond.code yX1_cameTo cX1_cameTo 3 (some .long), Cond.methodLink RX4 182 yX4_goSwitch, Cond.instanceMethod yX4_goSwitch, Cond.selects RX4 yX4_goSwitch yX4_goSwitch, Cond.code yX4_goSwitch cX4_goSwitch 7 none, Cond.methodLink RX4 105 yX8_sortOf, Cond.static yX8_sortOf, Cond.code yX8_sortOf cX8_sortOf 2 (some .int), Cond.methodLink RX4 111 yX8_contentOf, Cond.static yX8_contentOf, Cond.code yX8_contentOf cX8_contentOf 2 (some .int), Cond.methodLink RX4 223 yX4_give, Cond.instanceMethod yX4_give, Cond.selects RX4 yX4_give yX4_give, Cond.code yX4_give cX4_give 8 none]
def wsX9_beside_r8 : List Cond := [Cond.fieldLink RX4 303 "TokenFloor$Graph" "wayTo" "[I", Cond.fieldLink RX4 306 "TokenFloor$Graph" "wayPort" "[I", Cond.fieldLink RX4 309 "TokenFloor$Graph" "nextWay" "[I", Cond.methodLink RX4 300 yX2_firstWayOf, Cond.instanceMethod yX2_firstWayOf, Cond.selects RX2 yX2_firstWayOf yX2_firstWayOf, Cond.initialized RX2, Cond.code yX2_firstWayOf cX2_firstWayOf 3 (some .int), Cond.fieldLink RX2 33 "TokenFloor$Graph" "firstWay" "[I", Cond.methodLink RX4 189 yX0_enter, Cond.instanceMethod yX0_enter, Cond.selects RX0 yX0_enter yX0_enter, Cond.code yX0_enter cX0_enter 3 (some .int), Cond.methodLink RX0 35 yX0_reach, Cond.instanceMethod yX0_reach, Cond.selects RX0 yX0_reach yX0_reach, Cond.code yX0_reach cX0_reach 7 (some .int), Cond.methodLink RX4 192 yX4_giveInside, Cond.instanceMethod yX4_giveInside, Cond.selects RX4 yX4_giveInside yX4_giveInside, Cond.code yX4_giveInside cX4_giveInside 5 none, Cond.methodLink RX4 196 yX4_goTurn, Cond.instanceMethod yX4_goTurn, Cond.selects RX4 yX4_goTurn yX4_goTurn]
def wsX9_beside_r9 : List Cond := [Cond.code yX4_goTurn cX4_goTurn 5 none, Cond.methodLink RX4 240 yX0_isTurnOf, Cond.instanceMethod yX0_isTurnOf, Cond.selects RX0 yX0_isTurnOf yX0_isTurnOf, Cond.code yX0_isTurnOf cX0_isTurnOf 3 (some .boolean), Cond.methodLink RX4 244 yX8_ofFault, Cond.static yX8_ofFault, Cond.code yX8_ofFault cX8_ofFault 2 (some .long), Cond.constantLong RX8 19 (3298534883328), Cond.methodLink RX4 249 yX0_nextTurn, Cond.instanceMethod yX0_nextTurn, Cond.selects RX0 yX0_nextTurn yX0_nextTurn, Cond.code yX0_nextTurn cX0_nextTurn 2 (some .int), Cond.methodLink RX4 252 yX0_outerOf, Cond.instanceMethod yX0_outerOf, Cond.selects RX0 yX0_outerOf yX0_outerOf, Cond.code yX0_outerOf cX0_outerOf 2 (some .int), Cond.methodLink RX4 199 yX4_goCall, Cond.instanceMethod yX4_goCall, Cond.selects RX4 yX4_goCall yX4_goCall, Cond.code yX4_goCall cX4_goCall 7 none, Cond.methodLink RX4 255 yX0_callBy, Cond.instanceMethod yX0_callBy, Cond.selects RX0 yX0_callBy yX0_callBy]
def wsX9_beside_r10 : List Cond := [Cond.code yX0_callBy cX0_callBy 3 (some .int), Cond.methodLink RX4 261 yX2_parameterFor, Cond.instanceMethod yX2_parameterFor, Cond.selects RX2 yX2_parameterFor yX2_parameterFor, Cond.code yX2_parameterFor cX2_parameterFor 4 (some .int), Cond.fieldLink RX2 15 "TokenFloor$Graph" "number" "[I", Cond.fieldLink RX2 21 "TokenFloor$Graph" "parameter" "[I", Cond.methodLink RX4 203 yX4_goReturn, Cond.instanceMethod yX4_goReturn, Cond.selects RX4 yX4_goReturn yX4_goReturn, Cond.code yX4_goReturn cX4_goReturn 5 none, Cond.methodLink RX4 264 yX0_callerOf, Cond.instanceMethod yX0_callerOf, Cond.selects RX0 yX0_callerOf yX0_callerOf, Cond.code yX0_callerOf cX0_callerOf 2 (some .int), Cond.methodLink RX4 207 yX4_goMake, Cond.instanceMethod yX4_goMake, Cond.selects RX4 yX4_goMake yX4_goMake, Cond.code yX4_goMake cX4_goMake 9 none, Cond.fieldLink RX4 270 "TokenFloor$Store" "rowOfAct" "[I", Cond.methodLink RX4 232 yX8_refuse, Cond.static yX8_refuse, Cond.code yX8_refuse cX8_refuse 5 (some .long), Cond.methodLink RX8 21 yX8_sortOf]
def wsX9_beside_r11 : List Cond := [Cond.methodLink RX8 25 yX8_ofFault, Cond.methodLink RX4 267 yX6_make, Cond.instanceMethod yX6_make, Cond.selects RX6 yX6_make yX6_make, Cond.code yX6_make cX6_make 4 (some .int), Cond.fieldLink RX6 19 "TokenFloor$Store" "start" "[I", Cond.fieldLink RX6 22 "TokenFloor$Store" "size" "[I", Cond.fieldLink RX6 15 "TokenFloor$Store" "written" "[J", Cond.fieldLink RX6 25 "TokenFloor$Store" "firstReader" "[I", Cond.fieldLink RX6 28 "TokenFloor$Store" "lastReader" "[I", Cond.methodLink RX4 124 yX8_ofRow, Cond.static yX8_ofRow, Cond.code yX8_ofRow cX8_ofRow 1 (some .long), Cond.constantLong RX8 17 (2199023255552), Cond.methodLink RX4 210 yX4_goRead, Cond.instanceMethod yX4_goRead, Cond.selects RX4 yX4_goRead yX4_goRead, Cond.code yX4_goRead cX4_goRead 9 none, Cond.fieldLink RX4 280 "TokenFloor$Store" "written" "[J", Cond.methodLink RX4 273 yX4_placeAsked, Cond.instanceMethod yX4_placeAsked, Cond.selects RX4 yX4_placeAsked yX4_placeAsked, Cond.code yX4_placeAsked cX4_placeAsked 3 (some .int), Cond.methodLink RX4 297 yX6_placeIn]
def wsX9_beside_r12 : List Cond := [Cond.instanceMethod yX6_placeIn, Cond.selects RX6 yX6_placeIn yX6_placeIn, Cond.code yX6_placeIn cX6_placeIn 3 (some .int), Cond.methodLink RX6 52 yX6_sizeOf, Cond.instanceMethod yX6_sizeOf, Cond.selects RX6 yX6_sizeOf yX6_sizeOf, Cond.code yX6_sizeOf cX6_sizeOf 2 (some .int), Cond.methodLink RX4 276 yX4_refuseCell, Cond.instanceMethod yX4_refuseCell, Cond.selects RX4 yX4_refuseCell yX4_refuseCell, Cond.code yX4_refuseCell cX4_refuseCell 10 (some .long), Cond.methodLink RX4 293 yX8_refuseTwo, Cond.static yX8_refuseTwo, Cond.code yX8_refuseTwo cX8_refuseTwo 8 (some .long), Cond.methodLink RX4 283 yX6_addReader, Cond.instanceMethod yX6_addReader, Cond.selects RX6 yX6_addReader yX6_addReader, Cond.code yX6_addReader cX6_addReader 4 none, Cond.fieldLink RX6 31 "TokenFloor$Store" "nextReader" "[I", Cond.methodLink RX4 213 yX4_goWrite, Cond.instanceMethod yX4_goWrite, Cond.selects RX4 yX4_goWrite yX4_goWrite, Cond.code yX4_goWrite cX4_goWrite 11 none, Cond.methodLink RX4 290 yX6_takeReader]
def wsX9_beside_r13 : List Cond := [Cond.instanceMethod yX6_takeReader, Cond.selects RX6 yX6_takeReader yX6_takeReader, Cond.code yX6_takeReader cX6_takeReader 3 (some .int), Cond.methodLink RX4 216 yX4_goEnd, Cond.instanceMethod yX4_goEnd, Cond.selects RX4 yX4_goEnd yX4_goEnd, Cond.code yX4_goEnd cX4_goEnd 6 none, Cond.methodLink RX4 219 yX4_plainResult, Cond.instanceMethod yX4_plainResult, Cond.selects RX4 yX4_plainResult yX4_plainResult, Cond.code yX4_plainResult cX4_plainResult 9 (some .long), Cond.methodLink RX4 226 yX7_not, Cond.static yX7_not, Cond.initialized RX7, Cond.code yX7_not cX7_not 5 (some .long), Cond.methodLink RX7 34 yX8_refuse, Cond.methodLink RX7 19 yX8_contentOf, Cond.methodLink RX7 30 yX8_ofTruth, Cond.static yX8_ofTruth, Cond.code yX8_ofTruth cX8_ofTruth 1 (some .long), Cond.methodLink RX8 13 yX8_ofNumber, Cond.methodLink RX4 114 yX6_sizeOf, Cond.methodLink RX4 236 yX7_ofTwo, Cond.static yX7_ofTwo]
def wsX9_beside_r14 : List Cond := [Cond.code yX7_ofTwo cX7_ofTwo 11 (some .long), Cond.methodLink RX7 9 yX8_sortOf, Cond.methodLink RX7 15 yX8_refuseTwo, Cond.methodLink RX7 22 yX8_ofNumber, Cond.methodLink RX7 26 yX8_ofFault, Cond.methodLink RX9 115 yX4_copyFigures, Cond.instanceMethod yX4_copyFigures, Cond.selects RX4 yX4_copyFigures yX4_copyFigures, Cond.code yX4_copyFigures cX4_copyFigures 3 none, Cond.fieldLink RX4 87 "TokenFloor$Floor" "left" "I", Cond.fieldLink RX4 90 "TokenFloor$Store" "waiting" "I", Cond.methodLink RX4 120 yX4_comparable, Cond.instanceMethod yX4_comparable, Cond.selects RX4 yX4_comparable yX4_comparable, Cond.code yX4_comparable cX4_comparable 3 (some .long), Cond.methodLink RX9 119 yX9_firstDifference, Cond.instanceMethod yX9_firstDifference, Cond.selects RX9 yX9_firstDifference yX9_firstDifference, Cond.code yX9_firstDifference cX9_firstDifference 2 (some .int)]
def wsX9_beside : List Cond := .code yX9_beside cX9_beside 6 (some .int) :: ((wsX9_beside_r1 ++ (wsX9_beside_r2 ++ (wsX9_beside_r3 ++ (wsX9_beside_r4 ++ (wsX9_beside_r5 ++ (wsX9_beside_r6 ++ (wsX9_beside_r7 ++ (wsX9_beside_r8 ++ (wsX9_beside_r9 ++ (wsX9_beside_r10 ++ (wsX9_beside_r11 ++ (wsX9_beside_r12 ++ (wsX9_beside_r13 ++ wsX9_beside_r14))))))))))))) ++ wsX90 ++ wsX40 ++ wsX20 ++ wsX00 ++ wsX10 ++ wsX50 ++ wsX60)
def wsX10_init_r1 : List Cond := [Cond.methodLink RX10 1 objectInit, Cond.instanceMethod objectInit, Cond.code objectInit ⟨#[0xb1]⟩ 1 none, Cond.arrayClass .int, Cond.fieldLink RX10 7 "TokenFloorModel" "kind" "[I", Cond.fieldLink RX10 13 "TokenFloorModel" "own" "[I", Cond.fieldLink RX10 16 "TokenFloorModel" "ports" "[I", Cond.fieldLink RX10 19 "TokenFloorModel" "wayFrom" "[I", Cond.fieldLink RX10 22 "TokenFloorModel" "waySide" "[I", Cond.fieldLink RX10 25 "TokenFloorModel" "wayTo" "[I", Cond.fieldLink RX10 28 "TokenFloorModel" "wayPort" "[I", Cond.fieldLink RX10 31 "TokenFloorModel" "tokenAct" "[I", Cond.fieldLink RX10 34 "TokenFloorModel" "tokenPort" "[I", Cond.fieldLink RX10 37 "TokenFloorModel" "tokenValue" "[I", Cond.fieldLink RX10 40 "TokenFloorModel" "cSort" "[I", Cond.fieldLink RX10 43 "TokenFloorModel" "cOf" "[I", Cond.fieldLink RX10 46 "TokenFloorModel" "cTurn" "[I", Cond.fieldLink RX10 49 "TokenFloorModel" "cIn" "[I", Cond.fieldLink RX10 52 "TokenFloorModel" "pAct" "[I", Cond.fieldLink RX10 55 "TokenFloorModel" "pColour" "[I", Cond.fieldLink RX10 58 "TokenFloorModel" "pHas" "[I", Cond.fieldLink RX10 61 "TokenFloorModel" "pHow" "[I", Cond.fieldLink RX10 64 "TokenFloorModel" "pNext" "[I", Cond.fieldLink RX10 67 "TokenFloorModel" "pKind" "[I"]
def wsX10_init_r2 : List Cond := [Cond.fieldLink RX10 70 "TokenFloorModel" "pValue" "[I", Cond.fieldLink RX10 73 "TokenFloorModel" "pOf" "[I", Cond.fieldLink RX10 76 "TokenFloorModel" "first" "[I", Cond.fieldLink RX10 79 "TokenFloorModel" "fired" "[I", Cond.fieldLink RX10 82 "TokenFloorModel" "ready" "[I", Cond.fieldLink RX10 85 "TokenFloorModel" "rFrom" "[I", Cond.fieldLink RX10 88 "TokenFloorModel" "rSize" "[I", Cond.fieldLink RX10 91 "TokenFloorModel" "rAct" "[I", Cond.fieldLink RX10 94 "TokenFloorModel" "rColour" "[I", Cond.fieldLink RX10 97 "TokenFloorModel" "cellKind" "[I", Cond.fieldLink RX10 100 "TokenFloorModel" "cellValue" "[I", Cond.fieldLink RX10 103 "TokenFloorModel" "cellOf" "[I", Cond.fieldLink RX10 106 "TokenFloorModel" "readCell" "[I", Cond.fieldLink RX10 109 "TokenFloorModel" "readPair" "[I", Cond.fieldLink RX10 112 "TokenFloorModel" "endKind" "[I", Cond.fieldLink RX10 115 "TokenFloorModel" "endValue" "[I", Cond.fieldLink RX10 118 "TokenFloorModel" "endOf" "[I", Cond.fieldLink RX10 121 "TokenFloorModel" "was" "[I", Cond.fieldLink RX10 124 "TokenFloorModel" "is" "[I"]
def wsX10_init : List Cond := .code yX10_init cX10_init 1 none :: ((wsX10_init_r1 ++ wsX10_init_r2) ++ wsX100)
def wsX10_in : List Cond := .code yX10_in cX10_in 3 (some .boolean) :: ([])
def wsX10_isAct : List Cond := .code yX10_isAct cX10_isAct 2 (some .boolean) :: ([.fieldLink RX10 127 "TokenFloorModel" "acts" "I", .methodLink RX10 131 yX10_in, .static yX10_in, .initialized RX10, .code yX10_in cX10_in 3 (some .boolean)] ++ wsX100)
def wsX10_portsOf : List Cond := .code yX10_portsOf cX10_portsOf 2 (some .int) :: ([.methodLink RX10 131 yX10_in, .static yX10_in, .initialized RX10, .code yX10_in cX10_in 3 (some .boolean)])
def wsX10_act : List Cond := .code yX10_act cX10_act 4 (some .int) :: ([.fieldLink RX10 127 "TokenFloorModel" "acts" "I", .fieldLink RX10 7 "TokenFloorModel" "kind" "[I", .fieldLink RX10 13 "TokenFloorModel" "own" "[I", .fieldLink RX10 16 "TokenFloorModel" "ports" "[I", .methodLink RX10 131 yX10_in, .static yX10_in, .initialized RX10, .code yX10_in cX10_in 3 (some .boolean), .methodLink RX10 135 yX10_portsOf, .static yX10_portsOf, .code yX10_portsOf cX10_portsOf 2 (some .int)] ++ wsX100)
def wsX10_way : List Cond := .code yX10_way cX10_way 5 (some .int) :: ([.fieldLink RX10 7 "TokenFloorModel" "kind" "[I", .fieldLink RX10 16 "TokenFloorModel" "ports" "[I", .fieldLink RX10 143 "TokenFloorModel" "ways" "I", .fieldLink RX10 19 "TokenFloorModel" "wayFrom" "[I", .fieldLink RX10 22 "TokenFloorModel" "waySide" "[I", .fieldLink RX10 25 "TokenFloorModel" "wayTo" "[I", .fieldLink RX10 28 "TokenFloorModel" "wayPort" "[I", .methodLink RX10 139 yX10_isAct, .instanceMethod yX10_isAct, .selects RX10 yX10_isAct yX10_isAct, .initialized RX10, .code yX10_isAct cX10_isAct 2 (some .boolean), .fieldLink RX10 127 "TokenFloorModel" "acts" "I", .methodLink RX10 131 yX10_in, .static yX10_in, .code yX10_in cX10_in 3 (some .boolean)] ++ wsX100)
def wsX10_token : List Cond := .code yX10_token cX10_token 4 (some .int) :: ([.fieldLink RX10 16 "TokenFloorModel" "ports" "[I", .fieldLink RX10 146 "TokenFloorModel" "tokens" "I", .fieldLink RX10 31 "TokenFloorModel" "tokenAct" "[I", .fieldLink RX10 34 "TokenFloorModel" "tokenPort" "[I", .fieldLink RX10 37 "TokenFloorModel" "tokenValue" "[I", .methodLink RX10 139 yX10_isAct, .instanceMethod yX10_isAct, .selects RX10 yX10_isAct yX10_isAct, .initialized RX10, .code yX10_isAct cX10_isAct 2 (some .boolean), .fieldLink RX10 127 "TokenFloorModel" "acts" "I", .methodLink RX10 131 yX10_in, .static yX10_in, .code yX10_in cX10_in 3 (some .boolean)] ++ wsX100)
def wsX10_clear : List Cond := .code yX10_clear cX10_clear 2 (some .boolean) :: ([.fieldLink RX10 146 "TokenFloorModel" "tokens" "I", .fieldLink RX10 143 "TokenFloorModel" "ways" "I", .fieldLink RX10 127 "TokenFloorModel" "acts" "I", .fieldLink RX10 149 "TokenFloorModel" "isRun" "Z", .methodLink RX10 131 yX10_in, .static yX10_in, .initialized RX10, .code yX10_in cX10_in 3 (some .boolean)] ++ wsX100)
def wsX10_stops : List Cond := .code yX10_stops cX10_stops 3 (some .boolean) :: ([.fieldLink RX10 153 "TokenFloorModel" "how" "I", .fieldLink RX10 156 "TokenFloorModel" "clash" "I", .fieldLink RX10 159 "TokenFloorModel" "isStopped" "Z"] ++ wsX100)
def wsX10_colour : List Cond := .code yX10_colour cX10_colour 6 (some .int) :: ([.fieldLink RX10 162 "TokenFloorModel" "colours" "I", .fieldLink RX10 40 "TokenFloorModel" "cSort" "[I", .fieldLink RX10 43 "TokenFloorModel" "cOf" "[I", .fieldLink RX10 46 "TokenFloorModel" "cTurn" "[I", .fieldLink RX10 49 "TokenFloorModel" "cIn" "[I", .methodLink RX10 165 yX10_stops, .instanceMethod yX10_stops, .selects RX10 yX10_stops yX10_stops, .initialized RX10, .code yX10_stops cX10_stops 3 (some .boolean), .fieldLink RX10 153 "TokenFloorModel" "how" "I", .fieldLink RX10 156 "TokenFloorModel" "clash" "I", .fieldLink RX10 159 "TokenFloorModel" "isStopped" "Z"] ++ wsX100)
def wsX10_pair : List Cond := .code yX10_pair cX10_pair 4 (some .int) :: ([.fieldLink RX10 76 "TokenFloorModel" "first" "[I", .fieldLink RX10 55 "TokenFloorModel" "pColour" "[I", .fieldLink RX10 64 "TokenFloorModel" "pNext" "[I", .fieldLink RX10 169 "TokenFloorModel" "pairs" "I", .fieldLink RX10 52 "TokenFloorModel" "pAct" "[I", .fieldLink RX10 58 "TokenFloorModel" "pHas" "[I", .fieldLink RX10 61 "TokenFloorModel" "pHow" "[I", .methodLink RX10 165 yX10_stops, .instanceMethod yX10_stops, .selects RX10 yX10_stops yX10_stops, .initialized RX10, .code yX10_stops cX10_stops 3 (some .boolean), .fieldLink RX10 153 "TokenFloorModel" "how" "I", .fieldLink RX10 156 "TokenFloorModel" "clash" "I", .fieldLink RX10 159 "TokenFloorModel" "isStopped" "Z"] ++ wsX100)
def wsX10_comes_r1 : List Cond := [Cond.fieldLink RX10 58 "TokenFloorModel" "pHas" "[I", Cond.fieldLink RX10 67 "TokenFloorModel" "pKind" "[I", Cond.fieldLink RX10 70 "TokenFloorModel" "pValue" "[I", Cond.fieldLink RX10 73 "TokenFloorModel" "pOf" "[I", Cond.fieldLink RX10 16 "TokenFloorModel" "ports" "[I", Cond.fieldLink RX10 61 "TokenFloorModel" "pHow" "[I", Cond.fieldLink RX10 82 "TokenFloorModel" "ready" "[I", Cond.fieldLink RX10 175 "TokenFloorModel" "readyMany" "I", Cond.methodLink RX10 172 yX10_pair, Cond.instanceMethod yX10_pair, Cond.selects RX10 yX10_pair yX10_pair, Cond.initialized RX10, Cond.code yX10_pair cX10_pair 4 (some .int), Cond.fieldLink RX10 76 "TokenFloorModel" "first" "[I", Cond.fieldLink RX10 55 "TokenFloorModel" "pColour" "[I", Cond.fieldLink RX10 64 "TokenFloorModel" "pNext" "[I", Cond.fieldLink RX10 169 "TokenFloorModel" "pairs" "I", Cond.fieldLink RX10 52 "TokenFloorModel" "pAct" "[I", Cond.methodLink RX10 165 yX10_stops, Cond.instanceMethod yX10_stops, Cond.selects RX10 yX10_stops yX10_stops, Cond.code yX10_stops cX10_stops 3 (some .boolean), Cond.fieldLink RX10 153 "TokenFloorModel" "how" "I", Cond.fieldLink RX10 156 "TokenFloorModel" "clash" "I"]
def wsX10_comes_r2 : List Cond := [Cond.fieldLink RX10 159 "TokenFloorModel" "isStopped" "Z"]
def wsX10_comes : List Cond := .code yX10_comes cX10_comes 8 (some .boolean) :: ((wsX10_comes_r1 ++ wsX10_comes_r2) ++ wsX100)
def wsX10_gives_r1 : List Cond := [Cond.fieldLink RX10 143 "TokenFloorModel" "ways" "I", Cond.fieldLink RX10 19 "TokenFloorModel" "wayFrom" "[I", Cond.fieldLink RX10 22 "TokenFloorModel" "waySide" "[I", Cond.fieldLink RX10 25 "TokenFloorModel" "wayTo" "[I", Cond.fieldLink RX10 28 "TokenFloorModel" "wayPort" "[I", Cond.methodLink RX10 178 yX10_comes, Cond.instanceMethod yX10_comes, Cond.selects RX10 yX10_comes yX10_comes, Cond.initialized RX10, Cond.code yX10_comes cX10_comes 8 (some .boolean), Cond.fieldLink RX10 58 "TokenFloorModel" "pHas" "[I", Cond.fieldLink RX10 67 "TokenFloorModel" "pKind" "[I", Cond.fieldLink RX10 70 "TokenFloorModel" "pValue" "[I", Cond.fieldLink RX10 73 "TokenFloorModel" "pOf" "[I", Cond.fieldLink RX10 16 "TokenFloorModel" "ports" "[I", Cond.fieldLink RX10 61 "TokenFloorModel" "pHow" "[I", Cond.fieldLink RX10 82 "TokenFloorModel" "ready" "[I", Cond.fieldLink RX10 175 "TokenFloorModel" "readyMany" "I", Cond.methodLink RX10 172 yX10_pair, Cond.instanceMethod yX10_pair, Cond.selects RX10 yX10_pair yX10_pair, Cond.code yX10_pair cX10_pair 4 (some .int), Cond.fieldLink RX10 76 "TokenFloorModel" "first" "[I", Cond.fieldLink RX10 55 "TokenFloorModel" "pColour" "[I"]
def wsX10_gives_r2 : List Cond := [Cond.fieldLink RX10 64 "TokenFloorModel" "pNext" "[I", Cond.fieldLink RX10 169 "TokenFloorModel" "pairs" "I", Cond.fieldLink RX10 52 "TokenFloorModel" "pAct" "[I", Cond.methodLink RX10 165 yX10_stops, Cond.instanceMethod yX10_stops, Cond.selects RX10 yX10_stops yX10_stops, Cond.code yX10_stops cX10_stops 3 (some .boolean), Cond.fieldLink RX10 153 "TokenFloorModel" "how" "I", Cond.fieldLink RX10 156 "TokenFloorModel" "clash" "I", Cond.fieldLink RX10 159 "TokenFloorModel" "isStopped" "Z"]
def wsX10_gives : List Cond := .code yX10_gives cX10_gives 8 (some .boolean) :: ((wsX10_gives_r1 ++ wsX10_gives_r2) ++ wsX100)
def wsX10_faults_r1 : List Cond := [Cond.methodLink RX10 182 yX10_gives, Cond.instanceMethod yX10_gives, Cond.selects RX10 yX10_gives yX10_gives, Cond.initialized RX10, Cond.code yX10_gives cX10_gives 8 (some .boolean), Cond.fieldLink RX10 143 "TokenFloorModel" "ways" "I", Cond.fieldLink RX10 19 "TokenFloorModel" "wayFrom" "[I", Cond.fieldLink RX10 22 "TokenFloorModel" "waySide" "[I", Cond.fieldLink RX10 25 "TokenFloorModel" "wayTo" "[I", Cond.fieldLink RX10 28 "TokenFloorModel" "wayPort" "[I", Cond.methodLink RX10 178 yX10_comes, Cond.instanceMethod yX10_comes, Cond.selects RX10 yX10_comes yX10_comes, Cond.code yX10_comes cX10_comes 8 (some .boolean), Cond.fieldLink RX10 58 "TokenFloorModel" "pHas" "[I", Cond.fieldLink RX10 67 "TokenFloorModel" "pKind" "[I", Cond.fieldLink RX10 70 "TokenFloorModel" "pValue" "[I", Cond.fieldLink RX10 73 "TokenFloorModel" "pOf" "[I", Cond.fieldLink RX10 16 "TokenFloorModel" "ports" "[I", Cond.fieldLink RX10 61 "TokenFloorModel" "pHow" "[I", Cond.fieldLink RX10 82 "TokenFloorModel" "ready" "[I", Cond.fieldLink RX10 175 "TokenFloorModel" "readyMany" "I", Cond.methodLink RX10 172 yX10_pair, Cond.instanceMethod yX10_pair]
def wsX10_faults_r2 : List Cond := [Cond.selects RX10 yX10_pair yX10_pair, Cond.code yX10_pair cX10_pair 4 (some .int), Cond.fieldLink RX10 76 "TokenFloorModel" "first" "[I", Cond.fieldLink RX10 55 "TokenFloorModel" "pColour" "[I", Cond.fieldLink RX10 64 "TokenFloorModel" "pNext" "[I", Cond.fieldLink RX10 169 "TokenFloorModel" "pairs" "I", Cond.fieldLink RX10 52 "TokenFloorModel" "pAct" "[I", Cond.methodLink RX10 165 yX10_stops, Cond.instanceMethod yX10_stops, Cond.selects RX10 yX10_stops yX10_stops, Cond.code yX10_stops cX10_stops 3 (some .boolean), Cond.fieldLink RX10 153 "TokenFloorModel" "how" "I", Cond.fieldLink RX10 156 "TokenFloorModel" "clash" "I", Cond.fieldLink RX10 159 "TokenFloorModel" "isStopped" "Z"]
def wsX10_faults : List Cond := .code yX10_faults cX10_faults 4 (some .boolean) :: ((wsX10_faults_r1 ++ wsX10_faults_r2) ++ wsX100)
def wsX10_kindAt : List Cond := .code yX10_kindAt cX10_kindAt 3 (some .int) :: ([.fieldLink RX10 67 "TokenFloorModel" "pKind" "[I"] ++ wsX100)
def wsX10_valueAt : List Cond := .code yX10_valueAt cX10_valueAt 3 (some .int) :: ([.fieldLink RX10 70 "TokenFloorModel" "pValue" "[I"] ++ wsX100)
def wsX10_passes_r1 : List Cond := [Cond.fieldLink RX10 52 "TokenFloorModel" "pAct" "[I", Cond.fieldLink RX10 67 "TokenFloorModel" "pKind" "[I", Cond.fieldLink RX10 70 "TokenFloorModel" "pValue" "[I", Cond.fieldLink RX10 73 "TokenFloorModel" "pOf" "[I", Cond.methodLink RX10 182 yX10_gives, Cond.instanceMethod yX10_gives, Cond.selects RX10 yX10_gives yX10_gives, Cond.initialized RX10, Cond.code yX10_gives cX10_gives 8 (some .boolean), Cond.fieldLink RX10 143 "TokenFloorModel" "ways" "I", Cond.fieldLink RX10 19 "TokenFloorModel" "wayFrom" "[I", Cond.fieldLink RX10 22 "TokenFloorModel" "waySide" "[I", Cond.fieldLink RX10 25 "TokenFloorModel" "wayTo" "[I", Cond.fieldLink RX10 28 "TokenFloorModel" "wayPort" "[I", Cond.methodLink RX10 178 yX10_comes, Cond.instanceMethod yX10_comes, Cond.selects RX10 yX10_comes yX10_comes, Cond.code yX10_comes cX10_comes 8 (some .boolean), Cond.fieldLink RX10 58 "TokenFloorModel" "pHas" "[I", Cond.fieldLink RX10 16 "TokenFloorModel" "ports" "[I", Cond.fieldLink RX10 61 "TokenFloorModel" "pHow" "[I", Cond.fieldLink RX10 82 "TokenFloorModel" "ready" "[I", Cond.fieldLink RX10 175 "TokenFloorModel" "readyMany" "I", Cond.methodLink RX10 172 yX10_pair]
def wsX10_passes_r2 : List Cond := [Cond.instanceMethod yX10_pair, Cond.selects RX10 yX10_pair yX10_pair, Cond.code yX10_pair cX10_pair 4 (some .int), Cond.fieldLink RX10 76 "TokenFloorModel" "first" "[I", Cond.fieldLink RX10 55 "TokenFloorModel" "pColour" "[I", Cond.fieldLink RX10 64 "TokenFloorModel" "pNext" "[I", Cond.fieldLink RX10 169 "TokenFloorModel" "pairs" "I", Cond.methodLink RX10 165 yX10_stops, Cond.instanceMethod yX10_stops, Cond.selects RX10 yX10_stops yX10_stops, Cond.code yX10_stops cX10_stops 3 (some .boolean), Cond.fieldLink RX10 153 "TokenFloorModel" "how" "I", Cond.fieldLink RX10 156 "TokenFloorModel" "clash" "I", Cond.fieldLink RX10 159 "TokenFloorModel" "isStopped" "Z"]
def wsX10_passes : List Cond := .code yX10_passes cX10_passes 4 (some .boolean) :: ((wsX10_passes_r1 ++ wsX10_passes_r2) ++ wsX100)
def wsX10_faultOf : List Cond := .code yX10_faultOf cX10_faultOf 4 (some .int) :: ([.methodLink RX10 185 yX10_kindAt, .instanceMethod yX10_kindAt, .selects RX10 yX10_kindAt yX10_kindAt, .initialized RX10, .code yX10_kindAt cX10_kindAt 3 (some .int), .fieldLink RX10 67 "TokenFloorModel" "pKind" "[I"] ++ wsX100)
def wsX10_number_r1 : List Cond := [Cond.fieldLink RX10 52 "TokenFloorModel" "pAct" "[I", Cond.fieldLink RX10 55 "TokenFloorModel" "pColour" "[I", Cond.methodLink RX10 182 yX10_gives, Cond.instanceMethod yX10_gives, Cond.selects RX10 yX10_gives yX10_gives, Cond.initialized RX10, Cond.code yX10_gives cX10_gives 8 (some .boolean), Cond.fieldLink RX10 143 "TokenFloorModel" "ways" "I", Cond.fieldLink RX10 19 "TokenFloorModel" "wayFrom" "[I", Cond.fieldLink RX10 22 "TokenFloorModel" "waySide" "[I", Cond.fieldLink RX10 25 "TokenFloorModel" "wayTo" "[I", Cond.fieldLink RX10 28 "TokenFloorModel" "wayPort" "[I", Cond.methodLink RX10 178 yX10_comes, Cond.instanceMethod yX10_comes, Cond.selects RX10 yX10_comes yX10_comes, Cond.code yX10_comes cX10_comes 8 (some .boolean), Cond.fieldLink RX10 58 "TokenFloorModel" "pHas" "[I", Cond.fieldLink RX10 67 "TokenFloorModel" "pKind" "[I", Cond.fieldLink RX10 70 "TokenFloorModel" "pValue" "[I", Cond.fieldLink RX10 73 "TokenFloorModel" "pOf" "[I", Cond.fieldLink RX10 16 "TokenFloorModel" "ports" "[I", Cond.fieldLink RX10 61 "TokenFloorModel" "pHow" "[I", Cond.fieldLink RX10 82 "TokenFloorModel" "ready" "[I", Cond.fieldLink RX10 175 "TokenFloorModel" "readyMany" "I"]
def wsX10_number_r2 : List Cond := [Cond.methodLink RX10 172 yX10_pair, Cond.instanceMethod yX10_pair, Cond.selects RX10 yX10_pair yX10_pair, Cond.code yX10_pair cX10_pair 4 (some .int), Cond.fieldLink RX10 76 "TokenFloorModel" "first" "[I", Cond.fieldLink RX10 64 "TokenFloorModel" "pNext" "[I", Cond.fieldLink RX10 169 "TokenFloorModel" "pairs" "I", Cond.methodLink RX10 165 yX10_stops, Cond.instanceMethod yX10_stops, Cond.selects RX10 yX10_stops yX10_stops, Cond.code yX10_stops cX10_stops 3 (some .boolean), Cond.fieldLink RX10 153 "TokenFloorModel" "how" "I", Cond.fieldLink RX10 156 "TokenFloorModel" "clash" "I", Cond.fieldLink RX10 159 "TokenFloorModel" "isStopped" "Z"]
def wsX10_number : List Cond := .code yX10_number cX10_number 3 (some .boolean) :: ((wsX10_number_r1 ++ wsX10_number_r2) ++ wsX100)
def wsX10_switches_r1 : List Cond := [Cond.fieldLink RX10 218 "TokenFloorModel" "lost" "I", Cond.fieldLink RX10 55 "TokenFloorModel" "pColour" "[I", Cond.methodLink RX10 185 yX10_kindAt, Cond.instanceMethod yX10_kindAt, Cond.selects RX10 yX10_kindAt yX10_kindAt, Cond.initialized RX10, Cond.code yX10_kindAt cX10_kindAt 3 (some .int), Cond.fieldLink RX10 67 "TokenFloorModel" "pKind" "[I", Cond.methodLink RX10 221 yX10_valueAt, Cond.instanceMethod yX10_valueAt, Cond.selects RX10 yX10_valueAt yX10_valueAt, Cond.code yX10_valueAt cX10_valueAt 3 (some .int), Cond.fieldLink RX10 70 "TokenFloorModel" "pValue" "[I", Cond.methodLink RX10 188 yX10_passes, Cond.instanceMethod yX10_passes, Cond.selects RX10 yX10_passes yX10_passes, Cond.code yX10_passes cX10_passes 4 (some .boolean), Cond.fieldLink RX10 52 "TokenFloorModel" "pAct" "[I", Cond.fieldLink RX10 73 "TokenFloorModel" "pOf" "[I", Cond.methodLink RX10 182 yX10_gives, Cond.instanceMethod yX10_gives, Cond.selects RX10 yX10_gives yX10_gives, Cond.code yX10_gives cX10_gives 8 (some .boolean), Cond.fieldLink RX10 143 "TokenFloorModel" "ways" "I"]
def wsX10_switches_r2 : List Cond := [Cond.fieldLink RX10 19 "TokenFloorModel" "wayFrom" "[I", Cond.fieldLink RX10 22 "TokenFloorModel" "waySide" "[I", Cond.fieldLink RX10 25 "TokenFloorModel" "wayTo" "[I", Cond.fieldLink RX10 28 "TokenFloorModel" "wayPort" "[I", Cond.methodLink RX10 178 yX10_comes, Cond.instanceMethod yX10_comes, Cond.selects RX10 yX10_comes yX10_comes, Cond.code yX10_comes cX10_comes 8 (some .boolean), Cond.fieldLink RX10 58 "TokenFloorModel" "pHas" "[I", Cond.fieldLink RX10 16 "TokenFloorModel" "ports" "[I", Cond.fieldLink RX10 61 "TokenFloorModel" "pHow" "[I", Cond.fieldLink RX10 82 "TokenFloorModel" "ready" "[I", Cond.fieldLink RX10 175 "TokenFloorModel" "readyMany" "I", Cond.methodLink RX10 172 yX10_pair, Cond.instanceMethod yX10_pair, Cond.selects RX10 yX10_pair yX10_pair, Cond.code yX10_pair cX10_pair 4 (some .int), Cond.fieldLink RX10 76 "TokenFloorModel" "first" "[I", Cond.fieldLink RX10 64 "TokenFloorModel" "pNext" "[I", Cond.fieldLink RX10 169 "TokenFloorModel" "pairs" "I", Cond.methodLink RX10 165 yX10_stops, Cond.instanceMethod yX10_stops, Cond.selects RX10 yX10_stops yX10_stops, Cond.code yX10_stops cX10_stops 3 (some .boolean)]
def wsX10_switches_r3 : List Cond := [Cond.fieldLink RX10 153 "TokenFloorModel" "how" "I", Cond.fieldLink RX10 156 "TokenFloorModel" "clash" "I", Cond.fieldLink RX10 159 "TokenFloorModel" "isStopped" "Z"]
def wsX10_switches : List Cond := .code yX10_switches cX10_switches 2 (some .boolean) :: ((wsX10_switches_r1 ++ (wsX10_switches_r2 ++ wsX10_switches_r3)) ++ wsX100)
def wsX10_loops_r1 : List Cond := [Cond.fieldLink RX10 52 "TokenFloorModel" "pAct" "[I", Cond.fieldLink RX10 55 "TokenFloorModel" "pColour" "[I", Cond.fieldLink RX10 13 "TokenFloorModel" "own" "[I", Cond.fieldLink RX10 7 "TokenFloorModel" "kind" "[I", Cond.fieldLink RX10 40 "TokenFloorModel" "cSort" "[I", Cond.fieldLink RX10 43 "TokenFloorModel" "cOf" "[I", Cond.fieldLink RX10 49 "TokenFloorModel" "cIn" "[I", Cond.fieldLink RX10 46 "TokenFloorModel" "cTurn" "[I", Cond.methodLink RX10 224 yX10_colour, Cond.instanceMethod yX10_colour, Cond.selects RX10 yX10_colour yX10_colour, Cond.initialized RX10, Cond.code yX10_colour cX10_colour 6 (some .int), Cond.fieldLink RX10 162 "TokenFloorModel" "colours" "I", Cond.methodLink RX10 165 yX10_stops, Cond.instanceMethod yX10_stops, Cond.selects RX10 yX10_stops yX10_stops, Cond.code yX10_stops cX10_stops 3 (some .boolean), Cond.fieldLink RX10 153 "TokenFloorModel" "how" "I", Cond.fieldLink RX10 156 "TokenFloorModel" "clash" "I", Cond.fieldLink RX10 159 "TokenFloorModel" "isStopped" "Z", Cond.methodLink RX10 188 yX10_passes, Cond.instanceMethod yX10_passes, Cond.selects RX10 yX10_passes yX10_passes]
def wsX10_loops_r2 : List Cond := [Cond.code yX10_passes cX10_passes 4 (some .boolean), Cond.fieldLink RX10 67 "TokenFloorModel" "pKind" "[I", Cond.fieldLink RX10 70 "TokenFloorModel" "pValue" "[I", Cond.fieldLink RX10 73 "TokenFloorModel" "pOf" "[I", Cond.methodLink RX10 182 yX10_gives, Cond.instanceMethod yX10_gives, Cond.selects RX10 yX10_gives yX10_gives, Cond.code yX10_gives cX10_gives 8 (some .boolean), Cond.fieldLink RX10 143 "TokenFloorModel" "ways" "I", Cond.fieldLink RX10 19 "TokenFloorModel" "wayFrom" "[I", Cond.fieldLink RX10 22 "TokenFloorModel" "waySide" "[I", Cond.fieldLink RX10 25 "TokenFloorModel" "wayTo" "[I", Cond.fieldLink RX10 28 "TokenFloorModel" "wayPort" "[I", Cond.methodLink RX10 178 yX10_comes, Cond.instanceMethod yX10_comes, Cond.selects RX10 yX10_comes yX10_comes, Cond.code yX10_comes cX10_comes 8 (some .boolean), Cond.fieldLink RX10 58 "TokenFloorModel" "pHas" "[I", Cond.fieldLink RX10 16 "TokenFloorModel" "ports" "[I", Cond.fieldLink RX10 61 "TokenFloorModel" "pHow" "[I", Cond.fieldLink RX10 82 "TokenFloorModel" "ready" "[I", Cond.fieldLink RX10 175 "TokenFloorModel" "readyMany" "I", Cond.methodLink RX10 172 yX10_pair, Cond.instanceMethod yX10_pair]
def wsX10_loops_r3 : List Cond := [Cond.selects RX10 yX10_pair yX10_pair, Cond.code yX10_pair cX10_pair 4 (some .int), Cond.fieldLink RX10 76 "TokenFloorModel" "first" "[I", Cond.fieldLink RX10 64 "TokenFloorModel" "pNext" "[I", Cond.fieldLink RX10 169 "TokenFloorModel" "pairs" "I", Cond.methodLink RX10 228 yX10_faults, Cond.instanceMethod yX10_faults, Cond.selects RX10 yX10_faults yX10_faults, Cond.code yX10_faults cX10_faults 4 (some .boolean)]
def wsX10_loops : List Cond := .code yX10_loops cX10_loops 6 (some .boolean) :: ((wsX10_loops_r1 ++ (wsX10_loops_r2 ++ wsX10_loops_r3)) ++ wsX100)
def wsX10_calls_r1 : List Cond := [Cond.fieldLink RX10 52 "TokenFloorModel" "pAct" "[I", Cond.fieldLink RX10 55 "TokenFloorModel" "pColour" "[I", Cond.fieldLink RX10 16 "TokenFloorModel" "ports" "[I", Cond.fieldLink RX10 127 "TokenFloorModel" "acts" "I", Cond.fieldLink RX10 7 "TokenFloorModel" "kind" "[I", Cond.fieldLink RX10 13 "TokenFloorModel" "own" "[I", Cond.fieldLink RX10 67 "TokenFloorModel" "pKind" "[I", Cond.fieldLink RX10 70 "TokenFloorModel" "pValue" "[I", Cond.fieldLink RX10 73 "TokenFloorModel" "pOf" "[I", Cond.methodLink RX10 224 yX10_colour, Cond.instanceMethod yX10_colour, Cond.selects RX10 yX10_colour yX10_colour, Cond.initialized RX10, Cond.code yX10_colour cX10_colour 6 (some .int), Cond.fieldLink RX10 162 "TokenFloorModel" "colours" "I", Cond.fieldLink RX10 40 "TokenFloorModel" "cSort" "[I", Cond.fieldLink RX10 43 "TokenFloorModel" "cOf" "[I", Cond.fieldLink RX10 46 "TokenFloorModel" "cTurn" "[I", Cond.fieldLink RX10 49 "TokenFloorModel" "cIn" "[I", Cond.methodLink RX10 165 yX10_stops, Cond.instanceMethod yX10_stops, Cond.selects RX10 yX10_stops yX10_stops, Cond.code yX10_stops cX10_stops 3 (some .boolean), Cond.fieldLink RX10 153 "TokenFloorModel" "how" "I"]
def wsX10_calls_r2 : List Cond := [Cond.fieldLink RX10 156 "TokenFloorModel" "clash" "I", Cond.fieldLink RX10 159 "TokenFloorModel" "isStopped" "Z", Cond.methodLink RX10 178 yX10_comes, Cond.instanceMethod yX10_comes, Cond.selects RX10 yX10_comes yX10_comes, Cond.code yX10_comes cX10_comes 8 (some .boolean), Cond.fieldLink RX10 58 "TokenFloorModel" "pHas" "[I", Cond.fieldLink RX10 61 "TokenFloorModel" "pHow" "[I", Cond.fieldLink RX10 82 "TokenFloorModel" "ready" "[I", Cond.fieldLink RX10 175 "TokenFloorModel" "readyMany" "I", Cond.methodLink RX10 172 yX10_pair, Cond.instanceMethod yX10_pair, Cond.selects RX10 yX10_pair yX10_pair, Cond.code yX10_pair cX10_pair 4 (some .int), Cond.fieldLink RX10 76 "TokenFloorModel" "first" "[I", Cond.fieldLink RX10 64 "TokenFloorModel" "pNext" "[I", Cond.fieldLink RX10 169 "TokenFloorModel" "pairs" "I"]
def wsX10_calls : List Cond := .code yX10_calls cX10_calls 6 (some .boolean) :: ((wsX10_calls_r1 ++ wsX10_calls_r2) ++ wsX100)
def wsX10_returns_r1 : List Cond := [Cond.fieldLink RX10 55 "TokenFloorModel" "pColour" "[I", Cond.fieldLink RX10 40 "TokenFloorModel" "cSort" "[I", Cond.fieldLink RX10 218 "TokenFloorModel" "lost" "I", Cond.fieldLink RX10 43 "TokenFloorModel" "cOf" "[I", Cond.fieldLink RX10 49 "TokenFloorModel" "cIn" "[I", Cond.fieldLink RX10 67 "TokenFloorModel" "pKind" "[I", Cond.fieldLink RX10 70 "TokenFloorModel" "pValue" "[I", Cond.fieldLink RX10 73 "TokenFloorModel" "pOf" "[I", Cond.methodLink RX10 182 yX10_gives, Cond.instanceMethod yX10_gives, Cond.selects RX10 yX10_gives yX10_gives, Cond.initialized RX10, Cond.code yX10_gives cX10_gives 8 (some .boolean), Cond.fieldLink RX10 143 "TokenFloorModel" "ways" "I", Cond.fieldLink RX10 19 "TokenFloorModel" "wayFrom" "[I", Cond.fieldLink RX10 22 "TokenFloorModel" "waySide" "[I", Cond.fieldLink RX10 25 "TokenFloorModel" "wayTo" "[I", Cond.fieldLink RX10 28 "TokenFloorModel" "wayPort" "[I", Cond.methodLink RX10 178 yX10_comes, Cond.instanceMethod yX10_comes, Cond.selects RX10 yX10_comes yX10_comes, Cond.code yX10_comes cX10_comes 8 (some .boolean), Cond.fieldLink RX10 58 "TokenFloorModel" "pHas" "[I", Cond.fieldLink RX10 16 "TokenFloorModel" "ports" "[I"]
def wsX10_returns_r2 : List Cond := [Cond.fieldLink RX10 61 "TokenFloorModel" "pHow" "[I", Cond.fieldLink RX10 82 "TokenFloorModel" "ready" "[I", Cond.fieldLink RX10 175 "TokenFloorModel" "readyMany" "I", Cond.methodLink RX10 172 yX10_pair, Cond.instanceMethod yX10_pair, Cond.selects RX10 yX10_pair yX10_pair, Cond.code yX10_pair cX10_pair 4 (some .int), Cond.fieldLink RX10 76 "TokenFloorModel" "first" "[I", Cond.fieldLink RX10 64 "TokenFloorModel" "pNext" "[I", Cond.fieldLink RX10 169 "TokenFloorModel" "pairs" "I", Cond.fieldLink RX10 52 "TokenFloorModel" "pAct" "[I", Cond.methodLink RX10 165 yX10_stops, Cond.instanceMethod yX10_stops, Cond.selects RX10 yX10_stops yX10_stops, Cond.code yX10_stops cX10_stops 3 (some .boolean), Cond.fieldLink RX10 153 "TokenFloorModel" "how" "I", Cond.fieldLink RX10 156 "TokenFloorModel" "clash" "I", Cond.fieldLink RX10 159 "TokenFloorModel" "isStopped" "Z"]
def wsX10_returns : List Cond := .code yX10_returns cX10_returns 3 (some .boolean) :: ((wsX10_returns_r1 ++ wsX10_returns_r2) ++ wsX100)
def wsX10_ends : List Cond := .code yX10_ends cX10_ends 3 (some .boolean) :: ([.fieldLink RX10 13 "TokenFloorModel" "own" "[I", .fieldLink RX10 52 "TokenFloorModel" "pAct" "[I", .fieldLink RX10 55 "TokenFloorModel" "pColour" "[I", .fieldLink RX10 231 "TokenFloorModel" "strays" "I", .fieldLink RX10 112 "TokenFloorModel" "endKind" "[I", .fieldLink RX10 67 "TokenFloorModel" "pKind" "[I", .fieldLink RX10 115 "TokenFloorModel" "endValue" "[I", .fieldLink RX10 70 "TokenFloorModel" "pValue" "[I", .fieldLink RX10 118 "TokenFloorModel" "endOf" "[I", .fieldLink RX10 73 "TokenFloorModel" "pOf" "[I", .methodLink RX10 165 yX10_stops, .instanceMethod yX10_stops, .selects RX10 yX10_stops yX10_stops, .initialized RX10, .code yX10_stops cX10_stops 3 (some .boolean), .fieldLink RX10 153 "TokenFloorModel" "how" "I", .fieldLink RX10 156 "TokenFloorModel" "clash" "I", .fieldLink RX10 159 "TokenFloorModel" "isStopped" "Z"] ++ wsX100)
def wsX10_makes_r1 : List Cond := [Cond.fieldLink RX10 52 "TokenFloorModel" "pAct" "[I", Cond.fieldLink RX10 55 "TokenFloorModel" "pColour" "[I", Cond.fieldLink RX10 237 "TokenFloorModel" "rows" "I", Cond.fieldLink RX10 240 "TokenFloorModel" "cells" "I", Cond.fieldLink RX10 85 "TokenFloorModel" "rFrom" "[I", Cond.fieldLink RX10 88 "TokenFloorModel" "rSize" "[I", Cond.fieldLink RX10 91 "TokenFloorModel" "rAct" "[I", Cond.fieldLink RX10 94 "TokenFloorModel" "rColour" "[I", Cond.fieldLink RX10 97 "TokenFloorModel" "cellKind" "[I", Cond.methodLink RX10 131 yX10_in, Cond.static yX10_in, Cond.initialized RX10, Cond.code yX10_in cX10_in 3 (some .boolean), Cond.methodLink RX10 228 yX10_faults, Cond.instanceMethod yX10_faults, Cond.selects RX10 yX10_faults yX10_faults, Cond.code yX10_faults cX10_faults 4 (some .boolean), Cond.methodLink RX10 182 yX10_gives, Cond.instanceMethod yX10_gives, Cond.selects RX10 yX10_gives yX10_gives, Cond.code yX10_gives cX10_gives 8 (some .boolean), Cond.fieldLink RX10 143 "TokenFloorModel" "ways" "I", Cond.fieldLink RX10 19 "TokenFloorModel" "wayFrom" "[I", Cond.fieldLink RX10 22 "TokenFloorModel" "waySide" "[I"]
def wsX10_makes_r2 : List Cond := [Cond.fieldLink RX10 25 "TokenFloorModel" "wayTo" "[I", Cond.fieldLink RX10 28 "TokenFloorModel" "wayPort" "[I", Cond.methodLink RX10 178 yX10_comes, Cond.instanceMethod yX10_comes, Cond.selects RX10 yX10_comes yX10_comes, Cond.code yX10_comes cX10_comes 8 (some .boolean), Cond.fieldLink RX10 58 "TokenFloorModel" "pHas" "[I", Cond.fieldLink RX10 67 "TokenFloorModel" "pKind" "[I", Cond.fieldLink RX10 70 "TokenFloorModel" "pValue" "[I", Cond.fieldLink RX10 73 "TokenFloorModel" "pOf" "[I", Cond.fieldLink RX10 16 "TokenFloorModel" "ports" "[I", Cond.fieldLink RX10 61 "TokenFloorModel" "pHow" "[I", Cond.fieldLink RX10 82 "TokenFloorModel" "ready" "[I", Cond.fieldLink RX10 175 "TokenFloorModel" "readyMany" "I", Cond.methodLink RX10 172 yX10_pair, Cond.instanceMethod yX10_pair, Cond.selects RX10 yX10_pair yX10_pair, Cond.code yX10_pair cX10_pair 4 (some .int), Cond.fieldLink RX10 76 "TokenFloorModel" "first" "[I", Cond.fieldLink RX10 64 "TokenFloorModel" "pNext" "[I", Cond.fieldLink RX10 169 "TokenFloorModel" "pairs" "I", Cond.methodLink RX10 165 yX10_stops, Cond.instanceMethod yX10_stops, Cond.selects RX10 yX10_stops yX10_stops]
def wsX10_makes_r3 : List Cond := [Cond.code yX10_stops cX10_stops 3 (some .boolean), Cond.fieldLink RX10 153 "TokenFloorModel" "how" "I", Cond.fieldLink RX10 156 "TokenFloorModel" "clash" "I", Cond.fieldLink RX10 159 "TokenFloorModel" "isStopped" "Z"]
def wsX10_makes : List Cond := .code yX10_makes cX10_makes 4 (some .boolean) :: ((wsX10_makes_r1 ++ (wsX10_makes_r2 ++ wsX10_makes_r3)) ++ wsX100)
def wsX10_reckons_r1 : List Cond := [Cond.fieldLink RX10 52 "TokenFloorModel" "pAct" "[I", Cond.fieldLink RX10 55 "TokenFloorModel" "pColour" "[I", Cond.fieldLink RX10 16 "TokenFloorModel" "ports" "[I", Cond.methodLink RX10 221 yX10_valueAt, Cond.instanceMethod yX10_valueAt, Cond.selects RX10 yX10_valueAt yX10_valueAt, Cond.initialized RX10, Cond.code yX10_valueAt cX10_valueAt 3 (some .int), Cond.fieldLink RX10 70 "TokenFloorModel" "pValue" "[I", Cond.methodLink RX10 185 yX10_kindAt, Cond.instanceMethod yX10_kindAt, Cond.selects RX10 yX10_kindAt yX10_kindAt, Cond.code yX10_kindAt cX10_kindAt 3 (some .int), Cond.fieldLink RX10 67 "TokenFloorModel" "pKind" "[I", Cond.methodLink RX10 228 yX10_faults, Cond.instanceMethod yX10_faults, Cond.selects RX10 yX10_faults yX10_faults, Cond.code yX10_faults cX10_faults 4 (some .boolean), Cond.methodLink RX10 182 yX10_gives, Cond.instanceMethod yX10_gives, Cond.selects RX10 yX10_gives yX10_gives, Cond.code yX10_gives cX10_gives 8 (some .boolean), Cond.fieldLink RX10 143 "TokenFloorModel" "ways" "I", Cond.fieldLink RX10 19 "TokenFloorModel" "wayFrom" "[I"]
def wsX10_reckons_r2 : List Cond := [Cond.fieldLink RX10 22 "TokenFloorModel" "waySide" "[I", Cond.fieldLink RX10 25 "TokenFloorModel" "wayTo" "[I", Cond.fieldLink RX10 28 "TokenFloorModel" "wayPort" "[I", Cond.methodLink RX10 178 yX10_comes, Cond.instanceMethod yX10_comes, Cond.selects RX10 yX10_comes yX10_comes, Cond.code yX10_comes cX10_comes 8 (some .boolean), Cond.fieldLink RX10 58 "TokenFloorModel" "pHas" "[I", Cond.fieldLink RX10 73 "TokenFloorModel" "pOf" "[I", Cond.fieldLink RX10 61 "TokenFloorModel" "pHow" "[I", Cond.fieldLink RX10 82 "TokenFloorModel" "ready" "[I", Cond.fieldLink RX10 175 "TokenFloorModel" "readyMany" "I", Cond.methodLink RX10 172 yX10_pair, Cond.instanceMethod yX10_pair, Cond.selects RX10 yX10_pair yX10_pair, Cond.code yX10_pair cX10_pair 4 (some .int), Cond.fieldLink RX10 76 "TokenFloorModel" "first" "[I", Cond.fieldLink RX10 64 "TokenFloorModel" "pNext" "[I", Cond.fieldLink RX10 169 "TokenFloorModel" "pairs" "I", Cond.methodLink RX10 165 yX10_stops, Cond.instanceMethod yX10_stops, Cond.selects RX10 yX10_stops yX10_stops, Cond.code yX10_stops cX10_stops 3 (some .boolean), Cond.fieldLink RX10 153 "TokenFloorModel" "how" "I"]
def wsX10_reckons_r3 : List Cond := [Cond.fieldLink RX10 156 "TokenFloorModel" "clash" "I", Cond.fieldLink RX10 159 "TokenFloorModel" "isStopped" "Z", Cond.methodLink RX10 191 yX10_number, Cond.instanceMethod yX10_number, Cond.selects RX10 yX10_number yX10_number, Cond.code yX10_number cX10_number 3 (some .boolean), Cond.methodLink RX10 234 yX10_makes, Cond.instanceMethod yX10_makes, Cond.selects RX10 yX10_makes yX10_makes, Cond.code yX10_makes cX10_makes 4 (some .boolean), Cond.fieldLink RX10 237 "TokenFloorModel" "rows" "I", Cond.fieldLink RX10 240 "TokenFloorModel" "cells" "I", Cond.fieldLink RX10 85 "TokenFloorModel" "rFrom" "[I", Cond.fieldLink RX10 88 "TokenFloorModel" "rSize" "[I", Cond.fieldLink RX10 91 "TokenFloorModel" "rAct" "[I", Cond.fieldLink RX10 94 "TokenFloorModel" "rColour" "[I", Cond.fieldLink RX10 97 "TokenFloorModel" "cellKind" "[I", Cond.methodLink RX10 131 yX10_in, Cond.static yX10_in, Cond.code yX10_in cX10_in 3 (some .boolean)]
def wsX10_reckons : List Cond := .code yX10_reckons cX10_reckons 8 (some .boolean) :: ((wsX10_reckons_r1 ++ (wsX10_reckons_r2 ++ wsX10_reckons_r3)) ++ wsX100)
def wsX10_cells_r1 : List Cond := [Cond.fieldLink RX10 52 "TokenFloorModel" "pAct" "[I", Cond.fieldLink RX10 55 "TokenFloorModel" "pColour" "[I", Cond.fieldLink RX10 88 "TokenFloorModel" "rSize" "[I", Cond.fieldLink RX10 85 "TokenFloorModel" "rFrom" "[I", Cond.fieldLink RX10 97 "TokenFloorModel" "cellKind" "[I", Cond.fieldLink RX10 100 "TokenFloorModel" "cellValue" "[I", Cond.fieldLink RX10 103 "TokenFloorModel" "cellOf" "[I", Cond.fieldLink RX10 106 "TokenFloorModel" "readCell" "[I", Cond.fieldLink RX10 242 "TokenFloorModel" "readers" "I", Cond.fieldLink RX10 109 "TokenFloorModel" "readPair" "[I", Cond.fieldLink RX10 73 "TokenFloorModel" "pOf" "[I", Cond.methodLink RX10 185 yX10_kindAt, Cond.instanceMethod yX10_kindAt, Cond.selects RX10 yX10_kindAt yX10_kindAt, Cond.initialized RX10, Cond.code yX10_kindAt cX10_kindAt 3 (some .int), Cond.fieldLink RX10 67 "TokenFloorModel" "pKind" "[I", Cond.methodLink RX10 228 yX10_faults, Cond.instanceMethod yX10_faults, Cond.selects RX10 yX10_faults yX10_faults, Cond.code yX10_faults cX10_faults 4 (some .boolean), Cond.methodLink RX10 182 yX10_gives, Cond.instanceMethod yX10_gives, Cond.selects RX10 yX10_gives yX10_gives]
def wsX10_cells_r2 : List Cond := [Cond.code yX10_gives cX10_gives 8 (some .boolean), Cond.fieldLink RX10 143 "TokenFloorModel" "ways" "I", Cond.fieldLink RX10 19 "TokenFloorModel" "wayFrom" "[I", Cond.fieldLink RX10 22 "TokenFloorModel" "waySide" "[I", Cond.fieldLink RX10 25 "TokenFloorModel" "wayTo" "[I", Cond.fieldLink RX10 28 "TokenFloorModel" "wayPort" "[I", Cond.methodLink RX10 178 yX10_comes, Cond.instanceMethod yX10_comes, Cond.selects RX10 yX10_comes yX10_comes, Cond.code yX10_comes cX10_comes 8 (some .boolean), Cond.fieldLink RX10 58 "TokenFloorModel" "pHas" "[I", Cond.fieldLink RX10 70 "TokenFloorModel" "pValue" "[I", Cond.fieldLink RX10 16 "TokenFloorModel" "ports" "[I", Cond.fieldLink RX10 61 "TokenFloorModel" "pHow" "[I", Cond.fieldLink RX10 82 "TokenFloorModel" "ready" "[I", Cond.fieldLink RX10 175 "TokenFloorModel" "readyMany" "I", Cond.methodLink RX10 172 yX10_pair, Cond.instanceMethod yX10_pair, Cond.selects RX10 yX10_pair yX10_pair, Cond.code yX10_pair cX10_pair 4 (some .int), Cond.fieldLink RX10 76 "TokenFloorModel" "first" "[I", Cond.fieldLink RX10 64 "TokenFloorModel" "pNext" "[I", Cond.fieldLink RX10 169 "TokenFloorModel" "pairs" "I", Cond.methodLink RX10 165 yX10_stops]
def wsX10_cells_r3 : List Cond := [Cond.instanceMethod yX10_stops, Cond.selects RX10 yX10_stops yX10_stops, Cond.code yX10_stops cX10_stops 3 (some .boolean), Cond.fieldLink RX10 153 "TokenFloorModel" "how" "I", Cond.fieldLink RX10 156 "TokenFloorModel" "clash" "I", Cond.fieldLink RX10 159 "TokenFloorModel" "isStopped" "Z", Cond.methodLink RX10 221 yX10_valueAt, Cond.instanceMethod yX10_valueAt, Cond.selects RX10 yX10_valueAt yX10_valueAt, Cond.code yX10_valueAt cX10_valueAt 3 (some .int), Cond.methodLink RX10 191 yX10_number, Cond.instanceMethod yX10_number, Cond.selects RX10 yX10_number yX10_number, Cond.code yX10_number cX10_number 3 (some .boolean), Cond.methodLink RX10 131 yX10_in, Cond.static yX10_in, Cond.code yX10_in cX10_in 3 (some .boolean)]
def wsX10_cells : List Cond := .code yX10_cells cX10_cells 10 (some .boolean) :: ((wsX10_cells_r1 ++ (wsX10_cells_r2 ++ wsX10_cells_r3)) ++ wsX100)
def wsX10_goesOff_r1 : List Cond := [Cond.fieldLink RX10 52 "TokenFloorModel" "pAct" "[I", Cond.fieldLink RX10 55 "TokenFloorModel" "pColour" "[I", Cond.fieldLink RX10 7 "TokenFloorModel" "kind" "[I", Cond.fieldLink RX10 13 "TokenFloorModel" "own" "[I", Cond.fieldLink RX10 16 "TokenFloorModel" "ports" "[I", Cond.fieldLink RX10 70 "TokenFloorModel" "pValue" "[I", Cond.fieldLink RX10 73 "TokenFloorModel" "pOf" "[I", Cond.methodLink RX10 188 yX10_passes, Cond.instanceMethod yX10_passes, Cond.selects RX10 yX10_passes yX10_passes, Cond.initialized RX10, Cond.code yX10_passes cX10_passes 4 (some .boolean), Cond.fieldLink RX10 67 "TokenFloorModel" "pKind" "[I", Cond.methodLink RX10 182 yX10_gives, Cond.instanceMethod yX10_gives, Cond.selects RX10 yX10_gives yX10_gives, Cond.code yX10_gives cX10_gives 8 (some .boolean), Cond.fieldLink RX10 143 "TokenFloorModel" "ways" "I", Cond.fieldLink RX10 19 "TokenFloorModel" "wayFrom" "[I", Cond.fieldLink RX10 22 "TokenFloorModel" "waySide" "[I", Cond.fieldLink RX10 25 "TokenFloorModel" "wayTo" "[I", Cond.fieldLink RX10 28 "TokenFloorModel" "wayPort" "[I", Cond.methodLink RX10 178 yX10_comes, Cond.instanceMethod yX10_comes]
def wsX10_goesOff_r2 : List Cond := [Cond.selects RX10 yX10_comes yX10_comes, Cond.code yX10_comes cX10_comes 8 (some .boolean), Cond.fieldLink RX10 58 "TokenFloorModel" "pHas" "[I", Cond.fieldLink RX10 61 "TokenFloorModel" "pHow" "[I", Cond.fieldLink RX10 82 "TokenFloorModel" "ready" "[I", Cond.fieldLink RX10 175 "TokenFloorModel" "readyMany" "I", Cond.methodLink RX10 172 yX10_pair, Cond.instanceMethod yX10_pair, Cond.selects RX10 yX10_pair yX10_pair, Cond.code yX10_pair cX10_pair 4 (some .int), Cond.fieldLink RX10 76 "TokenFloorModel" "first" "[I", Cond.fieldLink RX10 64 "TokenFloorModel" "pNext" "[I", Cond.fieldLink RX10 169 "TokenFloorModel" "pairs" "I", Cond.methodLink RX10 165 yX10_stops, Cond.instanceMethod yX10_stops, Cond.selects RX10 yX10_stops yX10_stops, Cond.code yX10_stops cX10_stops 3 (some .boolean), Cond.fieldLink RX10 153 "TokenFloorModel" "how" "I", Cond.fieldLink RX10 156 "TokenFloorModel" "clash" "I", Cond.fieldLink RX10 159 "TokenFloorModel" "isStopped" "Z", Cond.methodLink RX10 191 yX10_number, Cond.instanceMethod yX10_number, Cond.selects RX10 yX10_number yX10_number, Cond.code yX10_number cX10_number 3 (some .boolean)]
def wsX10_goesOff_r3 : List Cond := [Cond.methodLink RX10 194 yX10_switches, Cond.instanceMethod yX10_switches, Cond.selects RX10 yX10_switches yX10_switches, Cond.code yX10_switches cX10_switches 2 (some .boolean), Cond.fieldLink RX10 218 "TokenFloorModel" "lost" "I", Cond.methodLink RX10 185 yX10_kindAt, Cond.instanceMethod yX10_kindAt, Cond.selects RX10 yX10_kindAt yX10_kindAt, Cond.code yX10_kindAt cX10_kindAt 3 (some .int), Cond.methodLink RX10 221 yX10_valueAt, Cond.instanceMethod yX10_valueAt, Cond.selects RX10 yX10_valueAt yX10_valueAt, Cond.code yX10_valueAt cX10_valueAt 3 (some .int), Cond.methodLink RX10 197 yX10_loops, Cond.instanceMethod yX10_loops, Cond.selects RX10 yX10_loops yX10_loops, Cond.code yX10_loops cX10_loops 6 (some .boolean), Cond.fieldLink RX10 40 "TokenFloorModel" "cSort" "[I", Cond.fieldLink RX10 43 "TokenFloorModel" "cOf" "[I", Cond.fieldLink RX10 49 "TokenFloorModel" "cIn" "[I", Cond.fieldLink RX10 46 "TokenFloorModel" "cTurn" "[I", Cond.methodLink RX10 224 yX10_colour, Cond.instanceMethod yX10_colour, Cond.selects RX10 yX10_colour yX10_colour]
def wsX10_goesOff_r4 : List Cond := [Cond.code yX10_colour cX10_colour 6 (some .int), Cond.fieldLink RX10 162 "TokenFloorModel" "colours" "I", Cond.methodLink RX10 228 yX10_faults, Cond.instanceMethod yX10_faults, Cond.selects RX10 yX10_faults yX10_faults, Cond.code yX10_faults cX10_faults 4 (some .boolean), Cond.methodLink RX10 200 yX10_calls, Cond.instanceMethod yX10_calls, Cond.selects RX10 yX10_calls yX10_calls, Cond.code yX10_calls cX10_calls 6 (some .boolean), Cond.fieldLink RX10 127 "TokenFloorModel" "acts" "I", Cond.methodLink RX10 203 yX10_returns, Cond.instanceMethod yX10_returns, Cond.selects RX10 yX10_returns yX10_returns, Cond.code yX10_returns cX10_returns 3 (some .boolean), Cond.methodLink RX10 206 yX10_ends, Cond.instanceMethod yX10_ends, Cond.selects RX10 yX10_ends yX10_ends, Cond.code yX10_ends cX10_ends 3 (some .boolean), Cond.fieldLink RX10 231 "TokenFloorModel" "strays" "I", Cond.fieldLink RX10 112 "TokenFloorModel" "endKind" "[I", Cond.fieldLink RX10 115 "TokenFloorModel" "endValue" "[I", Cond.fieldLink RX10 118 "TokenFloorModel" "endOf" "[I", Cond.methodLink RX10 209 yX10_faultOf]
def wsX10_goesOff_r5 : List Cond := [Cond.instanceMethod yX10_faultOf, Cond.selects RX10 yX10_faultOf yX10_faultOf, Cond.code yX10_faultOf cX10_faultOf 4 (some .int), Cond.methodLink RX10 212 yX10_reckons, Cond.instanceMethod yX10_reckons, Cond.selects RX10 yX10_reckons yX10_reckons, Cond.code yX10_reckons cX10_reckons 8 (some .boolean), Cond.methodLink RX10 234 yX10_makes, Cond.instanceMethod yX10_makes, Cond.selects RX10 yX10_makes yX10_makes, Cond.code yX10_makes cX10_makes 4 (some .boolean), Cond.fieldLink RX10 237 "TokenFloorModel" "rows" "I", Cond.fieldLink RX10 240 "TokenFloorModel" "cells" "I", Cond.fieldLink RX10 85 "TokenFloorModel" "rFrom" "[I", Cond.fieldLink RX10 88 "TokenFloorModel" "rSize" "[I", Cond.fieldLink RX10 91 "TokenFloorModel" "rAct" "[I", Cond.fieldLink RX10 94 "TokenFloorModel" "rColour" "[I", Cond.fieldLink RX10 97 "TokenFloorModel" "cellKind" "[I", Cond.methodLink RX10 131 yX10_in, Cond.static yX10_in, Cond.code yX10_in cX10_in 3 (some .boolean), Cond.methodLink RX10 215 yX10_cells, Cond.instanceMethod yX10_cells, Cond.selects RX10 yX10_cells yX10_cells]
def wsX10_goesOff_r6 : List Cond := [Cond.code yX10_cells cX10_cells 10 (some .boolean), Cond.fieldLink RX10 100 "TokenFloorModel" "cellValue" "[I", Cond.fieldLink RX10 103 "TokenFloorModel" "cellOf" "[I", Cond.fieldLink RX10 106 "TokenFloorModel" "readCell" "[I", Cond.fieldLink RX10 242 "TokenFloorModel" "readers" "I", Cond.fieldLink RX10 109 "TokenFloorModel" "readPair" "[I"]
def wsX10_goesOff : List Cond := .code yX10_goesOff cX10_goesOff 6 (some .boolean) :: ((wsX10_goesOff_r1 ++ (wsX10_goesOff_r2 ++ (wsX10_goesOff_r3 ++ (wsX10_goesOff_r4 ++ (wsX10_goesOff_r5 ++ wsX10_goesOff_r6))))) ++ wsX100)
def wsX10_begins_r1 : List Cond := [Cond.fieldLink RX10 149 "TokenFloorModel" "isRun" "Z", Cond.fieldLink RX10 159 "TokenFloorModel" "isStopped" "Z", Cond.fieldLink RX10 153 "TokenFloorModel" "how" "I", Cond.fieldLink RX10 245 "TokenFloorModel" "steps" "I", Cond.fieldLink RX10 248 "TokenFloorModel" "ticked" "I", Cond.fieldLink RX10 251 "TokenFloorModel" "most" "I", Cond.fieldLink RX10 218 "TokenFloorModel" "lost" "I", Cond.fieldLink RX10 231 "TokenFloorModel" "strays" "I", Cond.fieldLink RX10 156 "TokenFloorModel" "clash" "I", Cond.fieldLink RX10 162 "TokenFloorModel" "colours" "I", Cond.fieldLink RX10 169 "TokenFloorModel" "pairs" "I", Cond.fieldLink RX10 175 "TokenFloorModel" "readyMany" "I", Cond.fieldLink RX10 237 "TokenFloorModel" "rows" "I", Cond.fieldLink RX10 240 "TokenFloorModel" "cells" "I", Cond.fieldLink RX10 242 "TokenFloorModel" "readers" "I", Cond.fieldLink RX10 76 "TokenFloorModel" "first" "[I", Cond.fieldLink RX10 79 "TokenFloorModel" "fired" "[I", Cond.fieldLink RX10 112 "TokenFloorModel" "endKind" "[I", Cond.fieldLink RX10 146 "TokenFloorModel" "tokens" "I", Cond.fieldLink RX10 31 "TokenFloorModel" "tokenAct" "[I", Cond.fieldLink RX10 34 "TokenFloorModel" "tokenPort" "[I", Cond.fieldLink RX10 37 "TokenFloorModel" "tokenValue" "[I", Cond.methodLink RX10 224 yX10_colour, Cond.instanceMethod yX10_colour]
def wsX10_begins_r2 : List Cond := [Cond.selects RX10 yX10_colour yX10_colour, Cond.initialized RX10, Cond.code yX10_colour cX10_colour 6 (some .int), Cond.fieldLink RX10 40 "TokenFloorModel" "cSort" "[I", Cond.fieldLink RX10 43 "TokenFloorModel" "cOf" "[I", Cond.fieldLink RX10 46 "TokenFloorModel" "cTurn" "[I", Cond.fieldLink RX10 49 "TokenFloorModel" "cIn" "[I", Cond.methodLink RX10 165 yX10_stops, Cond.instanceMethod yX10_stops, Cond.selects RX10 yX10_stops yX10_stops, Cond.code yX10_stops cX10_stops 3 (some .boolean), Cond.methodLink RX10 178 yX10_comes, Cond.instanceMethod yX10_comes, Cond.selects RX10 yX10_comes yX10_comes, Cond.code yX10_comes cX10_comes 8 (some .boolean), Cond.fieldLink RX10 58 "TokenFloorModel" "pHas" "[I", Cond.fieldLink RX10 67 "TokenFloorModel" "pKind" "[I", Cond.fieldLink RX10 70 "TokenFloorModel" "pValue" "[I", Cond.fieldLink RX10 73 "TokenFloorModel" "pOf" "[I", Cond.fieldLink RX10 16 "TokenFloorModel" "ports" "[I", Cond.fieldLink RX10 61 "TokenFloorModel" "pHow" "[I", Cond.fieldLink RX10 82 "TokenFloorModel" "ready" "[I", Cond.methodLink RX10 172 yX10_pair, Cond.instanceMethod yX10_pair]
def wsX10_begins_r3 : List Cond := [Cond.selects RX10 yX10_pair yX10_pair, Cond.code yX10_pair cX10_pair 4 (some .int), Cond.fieldLink RX10 55 "TokenFloorModel" "pColour" "[I", Cond.fieldLink RX10 64 "TokenFloorModel" "pNext" "[I", Cond.fieldLink RX10 52 "TokenFloorModel" "pAct" "[I"]
def wsX10_begins : List Cond := .code yX10_begins cX10_begins 3 none :: ((wsX10_begins_r1 ++ (wsX10_begins_r2 ++ wsX10_begins_r3)) ++ wsX100)
def wsX10_stepped_r1 : List Cond := [Cond.fieldLink RX10 82 "TokenFloorModel" "ready" "[I", Cond.fieldLink RX10 175 "TokenFloorModel" "readyMany" "I", Cond.fieldLink RX10 61 "TokenFloorModel" "pHow" "[I", Cond.fieldLink RX10 245 "TokenFloorModel" "steps" "I", Cond.fieldLink RX10 79 "TokenFloorModel" "fired" "[I", Cond.fieldLink RX10 52 "TokenFloorModel" "pAct" "[I", Cond.methodLink RX10 254 yX10_goesOff, Cond.instanceMethod yX10_goesOff, Cond.selects RX10 yX10_goesOff yX10_goesOff, Cond.initialized RX10, Cond.code yX10_goesOff cX10_goesOff 6 (some .boolean), Cond.fieldLink RX10 55 "TokenFloorModel" "pColour" "[I", Cond.fieldLink RX10 7 "TokenFloorModel" "kind" "[I", Cond.fieldLink RX10 13 "TokenFloorModel" "own" "[I", Cond.fieldLink RX10 16 "TokenFloorModel" "ports" "[I", Cond.fieldLink RX10 70 "TokenFloorModel" "pValue" "[I", Cond.fieldLink RX10 73 "TokenFloorModel" "pOf" "[I", Cond.methodLink RX10 188 yX10_passes, Cond.instanceMethod yX10_passes, Cond.selects RX10 yX10_passes yX10_passes, Cond.code yX10_passes cX10_passes 4 (some .boolean), Cond.fieldLink RX10 67 "TokenFloorModel" "pKind" "[I", Cond.methodLink RX10 182 yX10_gives, Cond.instanceMethod yX10_gives]
def wsX10_stepped_r2 : List Cond := [Cond.selects RX10 yX10_gives yX10_gives, Cond.code yX10_gives cX10_gives 8 (some .boolean), Cond.fieldLink RX10 143 "TokenFloorModel" "ways" "I", Cond.fieldLink RX10 19 "TokenFloorModel" "wayFrom" "[I", Cond.fieldLink RX10 22 "TokenFloorModel" "waySide" "[I", Cond.fieldLink RX10 25 "TokenFloorModel" "wayTo" "[I", Cond.fieldLink RX10 28 "TokenFloorModel" "wayPort" "[I", Cond.methodLink RX10 178 yX10_comes, Cond.instanceMethod yX10_comes, Cond.selects RX10 yX10_comes yX10_comes, Cond.code yX10_comes cX10_comes 8 (some .boolean), Cond.fieldLink RX10 58 "TokenFloorModel" "pHas" "[I", Cond.methodLink RX10 172 yX10_pair, Cond.instanceMethod yX10_pair, Cond.selects RX10 yX10_pair yX10_pair, Cond.code yX10_pair cX10_pair 4 (some .int), Cond.fieldLink RX10 76 "TokenFloorModel" "first" "[I", Cond.fieldLink RX10 64 "TokenFloorModel" "pNext" "[I", Cond.fieldLink RX10 169 "TokenFloorModel" "pairs" "I", Cond.methodLink RX10 165 yX10_stops, Cond.instanceMethod yX10_stops, Cond.selects RX10 yX10_stops yX10_stops, Cond.code yX10_stops cX10_stops 3 (some .boolean), Cond.fieldLink RX10 153 "TokenFloorModel" "how" "I"]
def wsX10_stepped_r3 : List Cond := [Cond.fieldLink RX10 156 "TokenFloorModel" "clash" "I", Cond.fieldLink RX10 159 "TokenFloorModel" "isStopped" "Z", Cond.methodLink RX10 191 yX10_number, Cond.instanceMethod yX10_number, Cond.selects RX10 yX10_number yX10_number, Cond.code yX10_number cX10_number 3 (some .boolean), Cond.methodLink RX10 194 yX10_switches, Cond.instanceMethod yX10_switches, Cond.selects RX10 yX10_switches yX10_switches, Cond.code yX10_switches cX10_switches 2 (some .boolean), Cond.fieldLink RX10 218 "TokenFloorModel" "lost" "I", Cond.methodLink RX10 185 yX10_kindAt, Cond.instanceMethod yX10_kindAt, Cond.selects RX10 yX10_kindAt yX10_kindAt, Cond.code yX10_kindAt cX10_kindAt 3 (some .int), Cond.methodLink RX10 221 yX10_valueAt, Cond.instanceMethod yX10_valueAt, Cond.selects RX10 yX10_valueAt yX10_valueAt, Cond.code yX10_valueAt cX10_valueAt 3 (some .int), Cond.methodLink RX10 197 yX10_loops, Cond.instanceMethod yX10_loops, Cond.selects RX10 yX10_loops yX10_loops, Cond.code yX10_loops cX10_loops 6 (some .boolean), Cond.fieldLink RX10 40 "TokenFloorModel" "cSort" "[I"]
def wsX10_stepped_r4 : List Cond := [Cond.fieldLink RX10 43 "TokenFloorModel" "cOf" "[I", Cond.fieldLink RX10 49 "TokenFloorModel" "cIn" "[I", Cond.fieldLink RX10 46 "TokenFloorModel" "cTurn" "[I", Cond.methodLink RX10 224 yX10_colour, Cond.instanceMethod yX10_colour, Cond.selects RX10 yX10_colour yX10_colour, Cond.code yX10_colour cX10_colour 6 (some .int), Cond.fieldLink RX10 162 "TokenFloorModel" "colours" "I", Cond.methodLink RX10 228 yX10_faults, Cond.instanceMethod yX10_faults, Cond.selects RX10 yX10_faults yX10_faults, Cond.code yX10_faults cX10_faults 4 (some .boolean), Cond.methodLink RX10 200 yX10_calls, Cond.instanceMethod yX10_calls, Cond.selects RX10 yX10_calls yX10_calls, Cond.code yX10_calls cX10_calls 6 (some .boolean), Cond.fieldLink RX10 127 "TokenFloorModel" "acts" "I", Cond.methodLink RX10 203 yX10_returns, Cond.instanceMethod yX10_returns, Cond.selects RX10 yX10_returns yX10_returns, Cond.code yX10_returns cX10_returns 3 (some .boolean), Cond.methodLink RX10 206 yX10_ends, Cond.instanceMethod yX10_ends, Cond.selects RX10 yX10_ends yX10_ends]
def wsX10_stepped_r5 : List Cond := [Cond.code yX10_ends cX10_ends 3 (some .boolean), Cond.fieldLink RX10 231 "TokenFloorModel" "strays" "I", Cond.fieldLink RX10 112 "TokenFloorModel" "endKind" "[I", Cond.fieldLink RX10 115 "TokenFloorModel" "endValue" "[I", Cond.fieldLink RX10 118 "TokenFloorModel" "endOf" "[I", Cond.methodLink RX10 209 yX10_faultOf, Cond.instanceMethod yX10_faultOf, Cond.selects RX10 yX10_faultOf yX10_faultOf, Cond.code yX10_faultOf cX10_faultOf 4 (some .int), Cond.methodLink RX10 212 yX10_reckons, Cond.instanceMethod yX10_reckons, Cond.selects RX10 yX10_reckons yX10_reckons, Cond.code yX10_reckons cX10_reckons 8 (some .boolean), Cond.methodLink RX10 234 yX10_makes, Cond.instanceMethod yX10_makes, Cond.selects RX10 yX10_makes yX10_makes, Cond.code yX10_makes cX10_makes 4 (some .boolean), Cond.fieldLink RX10 237 "TokenFloorModel" "rows" "I", Cond.fieldLink RX10 240 "TokenFloorModel" "cells" "I", Cond.fieldLink RX10 85 "TokenFloorModel" "rFrom" "[I", Cond.fieldLink RX10 88 "TokenFloorModel" "rSize" "[I", Cond.fieldLink RX10 91 "TokenFloorModel" "rAct" "[I", Cond.fieldLink RX10 94 "TokenFloorModel" "rColour" "[I", Cond.fieldLink RX10 97 "TokenFloorModel" "cellKind" "[I"]
def wsX10_stepped_r6 : List Cond := [Cond.methodLink RX10 131 yX10_in, Cond.static yX10_in, Cond.code yX10_in cX10_in 3 (some .boolean), Cond.methodLink RX10 215 yX10_cells, Cond.instanceMethod yX10_cells, Cond.selects RX10 yX10_cells yX10_cells, Cond.code yX10_cells cX10_cells 10 (some .boolean), Cond.fieldLink RX10 100 "TokenFloorModel" "cellValue" "[I", Cond.fieldLink RX10 103 "TokenFloorModel" "cellOf" "[I", Cond.fieldLink RX10 106 "TokenFloorModel" "readCell" "[I", Cond.fieldLink RX10 242 "TokenFloorModel" "readers" "I", Cond.fieldLink RX10 109 "TokenFloorModel" "readPair" "[I"]
def wsX10_stepped : List Cond := .code yX10_stepped cX10_stepped 4 none :: ((wsX10_stepped_r1 ++ (wsX10_stepped_r2 ++ (wsX10_stepped_r3 ++ (wsX10_stepped_r4 ++ (wsX10_stepped_r5 ++ wsX10_stepped_r6))))) ++ wsX100)
def wsX10_run_r1 : List Cond := [Cond.fieldLink RX10 159 "TokenFloorModel" "isStopped" "Z", Cond.fieldLink RX10 175 "TokenFloorModel" "readyMany" "I", Cond.fieldLink RX10 245 "TokenFloorModel" "steps" "I", Cond.constant RX10 260 (1103515245), Cond.fieldLink RX10 251 "TokenFloorModel" "most" "I", Cond.fieldLink RX10 153 "TokenFloorModel" "how" "I", Cond.methodLink RX10 131 yX10_in, Cond.static yX10_in, Cond.initialized RX10, Cond.code yX10_in cX10_in 3 (some .boolean), Cond.methodLink RX10 257 yX10_begins, Cond.instanceMethod yX10_begins, Cond.selects RX10 yX10_begins yX10_begins, Cond.code yX10_begins cX10_begins 3 none, Cond.fieldLink RX10 149 "TokenFloorModel" "isRun" "Z", Cond.fieldLink RX10 248 "TokenFloorModel" "ticked" "I", Cond.fieldLink RX10 218 "TokenFloorModel" "lost" "I", Cond.fieldLink RX10 231 "TokenFloorModel" "strays" "I", Cond.fieldLink RX10 156 "TokenFloorModel" "clash" "I", Cond.fieldLink RX10 162 "TokenFloorModel" "colours" "I", Cond.fieldLink RX10 169 "TokenFloorModel" "pairs" "I", Cond.fieldLink RX10 237 "TokenFloorModel" "rows" "I", Cond.fieldLink RX10 240 "TokenFloorModel" "cells" "I", Cond.fieldLink RX10 242 "TokenFloorModel" "readers" "I"]
def wsX10_run_r2 : List Cond := [Cond.fieldLink RX10 76 "TokenFloorModel" "first" "[I", Cond.fieldLink RX10 79 "TokenFloorModel" "fired" "[I", Cond.fieldLink RX10 112 "TokenFloorModel" "endKind" "[I", Cond.fieldLink RX10 146 "TokenFloorModel" "tokens" "I", Cond.fieldLink RX10 31 "TokenFloorModel" "tokenAct" "[I", Cond.fieldLink RX10 34 "TokenFloorModel" "tokenPort" "[I", Cond.fieldLink RX10 37 "TokenFloorModel" "tokenValue" "[I", Cond.methodLink RX10 224 yX10_colour, Cond.instanceMethod yX10_colour, Cond.selects RX10 yX10_colour yX10_colour, Cond.code yX10_colour cX10_colour 6 (some .int), Cond.fieldLink RX10 40 "TokenFloorModel" "cSort" "[I", Cond.fieldLink RX10 43 "TokenFloorModel" "cOf" "[I", Cond.fieldLink RX10 46 "TokenFloorModel" "cTurn" "[I", Cond.fieldLink RX10 49 "TokenFloorModel" "cIn" "[I", Cond.methodLink RX10 165 yX10_stops, Cond.instanceMethod yX10_stops, Cond.selects RX10 yX10_stops yX10_stops, Cond.code yX10_stops cX10_stops 3 (some .boolean), Cond.methodLink RX10 178 yX10_comes, Cond.instanceMethod yX10_comes, Cond.selects RX10 yX10_comes yX10_comes, Cond.code yX10_comes cX10_comes 8 (some .boolean), Cond.fieldLink RX10 58 "TokenFloorModel" "pHas" "[I"]
def wsX10_run_r3 : List Cond := [Cond.fieldLink RX10 67 "TokenFloorModel" "pKind" "[I", Cond.fieldLink RX10 70 "TokenFloorModel" "pValue" "[I", Cond.fieldLink RX10 73 "TokenFloorModel" "pOf" "[I", Cond.fieldLink RX10 16 "TokenFloorModel" "ports" "[I", Cond.fieldLink RX10 61 "TokenFloorModel" "pHow" "[I", Cond.fieldLink RX10 82 "TokenFloorModel" "ready" "[I", Cond.methodLink RX10 172 yX10_pair, Cond.instanceMethod yX10_pair, Cond.selects RX10 yX10_pair yX10_pair, Cond.code yX10_pair cX10_pair 4 (some .int), Cond.fieldLink RX10 55 "TokenFloorModel" "pColour" "[I", Cond.fieldLink RX10 64 "TokenFloorModel" "pNext" "[I", Cond.fieldLink RX10 52 "TokenFloorModel" "pAct" "[I", Cond.methodLink RX10 261 yX10_stepped, Cond.instanceMethod yX10_stepped, Cond.selects RX10 yX10_stepped yX10_stepped, Cond.code yX10_stepped cX10_stepped 4 none, Cond.methodLink RX10 254 yX10_goesOff, Cond.instanceMethod yX10_goesOff, Cond.selects RX10 yX10_goesOff yX10_goesOff, Cond.code yX10_goesOff cX10_goesOff 6 (some .boolean), Cond.fieldLink RX10 7 "TokenFloorModel" "kind" "[I", Cond.fieldLink RX10 13 "TokenFloorModel" "own" "[I", Cond.methodLink RX10 188 yX10_passes]
def wsX10_run_r4 : List Cond := [Cond.instanceMethod yX10_passes, Cond.selects RX10 yX10_passes yX10_passes, Cond.code yX10_passes cX10_passes 4 (some .boolean), Cond.methodLink RX10 182 yX10_gives, Cond.instanceMethod yX10_gives, Cond.selects RX10 yX10_gives yX10_gives, Cond.code yX10_gives cX10_gives 8 (some .boolean), Cond.fieldLink RX10 143 "TokenFloorModel" "ways" "I", Cond.fieldLink RX10 19 "TokenFloorModel" "wayFrom" "[I", Cond.fieldLink RX10 22 "TokenFloorModel" "waySide" "[I", Cond.fieldLink RX10 25 "TokenFloorModel" "wayTo" "[I", Cond.fieldLink RX10 28 "TokenFloorModel" "wayPort" "[I", Cond.methodLink RX10 191 yX10_number, Cond.instanceMethod yX10_number, Cond.selects RX10 yX10_number yX10_number, Cond.code yX10_number cX10_number 3 (some .boolean), Cond.methodLink RX10 194 yX10_switches, Cond.instanceMethod yX10_switches, Cond.selects RX10 yX10_switches yX10_switches, Cond.code yX10_switches cX10_switches 2 (some .boolean), Cond.methodLink RX10 185 yX10_kindAt, Cond.instanceMethod yX10_kindAt, Cond.selects RX10 yX10_kindAt yX10_kindAt, Cond.code yX10_kindAt cX10_kindAt 3 (some .int)]
def wsX10_run_r5 : List Cond := [Cond.methodLink RX10 221 yX10_valueAt, Cond.instanceMethod yX10_valueAt, Cond.selects RX10 yX10_valueAt yX10_valueAt, Cond.code yX10_valueAt cX10_valueAt 3 (some .int), Cond.methodLink RX10 197 yX10_loops, Cond.instanceMethod yX10_loops, Cond.selects RX10 yX10_loops yX10_loops, Cond.code yX10_loops cX10_loops 6 (some .boolean), Cond.methodLink RX10 228 yX10_faults, Cond.instanceMethod yX10_faults, Cond.selects RX10 yX10_faults yX10_faults, Cond.code yX10_faults cX10_faults 4 (some .boolean), Cond.methodLink RX10 200 yX10_calls, Cond.instanceMethod yX10_calls, Cond.selects RX10 yX10_calls yX10_calls, Cond.code yX10_calls cX10_calls 6 (some .boolean), Cond.fieldLink RX10 127 "TokenFloorModel" "acts" "I", Cond.methodLink RX10 203 yX10_returns, Cond.instanceMethod yX10_returns, Cond.selects RX10 yX10_returns yX10_returns, Cond.code yX10_returns cX10_returns 3 (some .boolean), Cond.methodLink RX10 206 yX10_ends, Cond.instanceMethod yX10_ends, Cond.selects RX10 yX10_ends yX10_ends]
def wsX10_run_r6 : List Cond := [Cond.code yX10_ends cX10_ends 3 (some .boolean), Cond.fieldLink RX10 115 "TokenFloorModel" "endValue" "[I", Cond.fieldLink RX10 118 "TokenFloorModel" "endOf" "[I", Cond.methodLink RX10 209 yX10_faultOf, Cond.instanceMethod yX10_faultOf, Cond.selects RX10 yX10_faultOf yX10_faultOf, Cond.code yX10_faultOf cX10_faultOf 4 (some .int), Cond.methodLink RX10 212 yX10_reckons, Cond.instanceMethod yX10_reckons, Cond.selects RX10 yX10_reckons yX10_reckons, Cond.code yX10_reckons cX10_reckons 8 (some .boolean), Cond.methodLink RX10 234 yX10_makes, Cond.instanceMethod yX10_makes, Cond.selects RX10 yX10_makes yX10_makes, Cond.code yX10_makes cX10_makes 4 (some .boolean), Cond.fieldLink RX10 85 "TokenFloorModel" "rFrom" "[I", Cond.fieldLink RX10 88 "TokenFloorModel" "rSize" "[I", Cond.fieldLink RX10 91 "TokenFloorModel" "rAct" "[I", Cond.fieldLink RX10 94 "TokenFloorModel" "rColour" "[I", Cond.fieldLink RX10 97 "TokenFloorModel" "cellKind" "[I", Cond.methodLink RX10 215 yX10_cells, Cond.instanceMethod yX10_cells, Cond.selects RX10 yX10_cells yX10_cells, Cond.code yX10_cells cX10_cells 10 (some .boolean)]
def wsX10_run_r7 : List Cond := [Cond.fieldLink RX10 100 "TokenFloorModel" "cellValue" "[I", Cond.fieldLink RX10 103 "TokenFloorModel" "cellOf" "[I", Cond.fieldLink RX10 106 "TokenFloorModel" "readCell" "[I", Cond.fieldLink RX10 109 "TokenFloorModel" "readPair" "[I"]
def wsX10_run : List Cond := .code yX10_run cX10_run 4 (some .int) :: ((wsX10_run_r1 ++ (wsX10_run_r2 ++ (wsX10_run_r3 ++ (wsX10_run_r4 ++ (wsX10_run_r5 ++ (wsX10_run_r6 ++ wsX10_run_r7)))))) ++ wsX100)
def wsX10_ticks_r1 : List Cond := [Cond.fieldLink RX10 159 "TokenFloorModel" "isStopped" "Z", Cond.fieldLink RX10 175 "TokenFloorModel" "readyMany" "I", Cond.fieldLink RX10 245 "TokenFloorModel" "steps" "I", Cond.fieldLink RX10 248 "TokenFloorModel" "ticked" "I", Cond.fieldLink RX10 251 "TokenFloorModel" "most" "I", Cond.fieldLink RX10 153 "TokenFloorModel" "how" "I", Cond.methodLink RX10 131 yX10_in, Cond.static yX10_in, Cond.initialized RX10, Cond.code yX10_in cX10_in 3 (some .boolean), Cond.methodLink RX10 257 yX10_begins, Cond.instanceMethod yX10_begins, Cond.selects RX10 yX10_begins yX10_begins, Cond.code yX10_begins cX10_begins 3 none, Cond.fieldLink RX10 149 "TokenFloorModel" "isRun" "Z", Cond.fieldLink RX10 218 "TokenFloorModel" "lost" "I", Cond.fieldLink RX10 231 "TokenFloorModel" "strays" "I", Cond.fieldLink RX10 156 "TokenFloorModel" "clash" "I", Cond.fieldLink RX10 162 "TokenFloorModel" "colours" "I", Cond.fieldLink RX10 169 "TokenFloorModel" "pairs" "I", Cond.fieldLink RX10 237 "TokenFloorModel" "rows" "I", Cond.fieldLink RX10 240 "TokenFloorModel" "cells" "I", Cond.fieldLink RX10 242 "TokenFloorModel" "readers" "I", Cond.fieldLink RX10 76 "TokenFloorModel" "first" "[I"]
def wsX10_ticks_r2 : List Cond := [Cond.fieldLink RX10 79 "TokenFloorModel" "fired" "[I", Cond.fieldLink RX10 112 "TokenFloorModel" "endKind" "[I", Cond.fieldLink RX10 146 "TokenFloorModel" "tokens" "I", Cond.fieldLink RX10 31 "TokenFloorModel" "tokenAct" "[I", Cond.fieldLink RX10 34 "TokenFloorModel" "tokenPort" "[I", Cond.fieldLink RX10 37 "TokenFloorModel" "tokenValue" "[I", Cond.methodLink RX10 224 yX10_colour, Cond.instanceMethod yX10_colour, Cond.selects RX10 yX10_colour yX10_colour, Cond.code yX10_colour cX10_colour 6 (some .int), Cond.fieldLink RX10 40 "TokenFloorModel" "cSort" "[I", Cond.fieldLink RX10 43 "TokenFloorModel" "cOf" "[I", Cond.fieldLink RX10 46 "TokenFloorModel" "cTurn" "[I", Cond.fieldLink RX10 49 "TokenFloorModel" "cIn" "[I", Cond.methodLink RX10 165 yX10_stops, Cond.instanceMethod yX10_stops, Cond.selects RX10 yX10_stops yX10_stops, Cond.code yX10_stops cX10_stops 3 (some .boolean), Cond.methodLink RX10 178 yX10_comes, Cond.instanceMethod yX10_comes, Cond.selects RX10 yX10_comes yX10_comes, Cond.code yX10_comes cX10_comes 8 (some .boolean), Cond.fieldLink RX10 58 "TokenFloorModel" "pHas" "[I", Cond.fieldLink RX10 67 "TokenFloorModel" "pKind" "[I"]
def wsX10_ticks_r3 : List Cond := [Cond.fieldLink RX10 70 "TokenFloorModel" "pValue" "[I", Cond.fieldLink RX10 73 "TokenFloorModel" "pOf" "[I", Cond.fieldLink RX10 16 "TokenFloorModel" "ports" "[I", Cond.fieldLink RX10 61 "TokenFloorModel" "pHow" "[I", Cond.fieldLink RX10 82 "TokenFloorModel" "ready" "[I", Cond.methodLink RX10 172 yX10_pair, Cond.instanceMethod yX10_pair, Cond.selects RX10 yX10_pair yX10_pair, Cond.code yX10_pair cX10_pair 4 (some .int), Cond.fieldLink RX10 55 "TokenFloorModel" "pColour" "[I", Cond.fieldLink RX10 64 "TokenFloorModel" "pNext" "[I", Cond.fieldLink RX10 52 "TokenFloorModel" "pAct" "[I", Cond.methodLink RX10 261 yX10_stepped, Cond.instanceMethod yX10_stepped, Cond.selects RX10 yX10_stepped yX10_stepped, Cond.code yX10_stepped cX10_stepped 4 none, Cond.methodLink RX10 254 yX10_goesOff, Cond.instanceMethod yX10_goesOff, Cond.selects RX10 yX10_goesOff yX10_goesOff, Cond.code yX10_goesOff cX10_goesOff 6 (some .boolean), Cond.fieldLink RX10 7 "TokenFloorModel" "kind" "[I", Cond.fieldLink RX10 13 "TokenFloorModel" "own" "[I", Cond.methodLink RX10 188 yX10_passes, Cond.instanceMethod yX10_passes]
def wsX10_ticks_r4 : List Cond := [Cond.selects RX10 yX10_passes yX10_passes, Cond.code yX10_passes cX10_passes 4 (some .boolean), Cond.methodLink RX10 182 yX10_gives, Cond.instanceMethod yX10_gives, Cond.selects RX10 yX10_gives yX10_gives, Cond.code yX10_gives cX10_gives 8 (some .boolean), Cond.fieldLink RX10 143 "TokenFloorModel" "ways" "I", Cond.fieldLink RX10 19 "TokenFloorModel" "wayFrom" "[I", Cond.fieldLink RX10 22 "TokenFloorModel" "waySide" "[I", Cond.fieldLink RX10 25 "TokenFloorModel" "wayTo" "[I", Cond.fieldLink RX10 28 "TokenFloorModel" "wayPort" "[I", Cond.methodLink RX10 191 yX10_number, Cond.instanceMethod yX10_number, Cond.selects RX10 yX10_number yX10_number, Cond.code yX10_number cX10_number 3 (some .boolean), Cond.methodLink RX10 194 yX10_switches, Cond.instanceMethod yX10_switches, Cond.selects RX10 yX10_switches yX10_switches, Cond.code yX10_switches cX10_switches 2 (some .boolean), Cond.methodLink RX10 185 yX10_kindAt, Cond.instanceMethod yX10_kindAt, Cond.selects RX10 yX10_kindAt yX10_kindAt, Cond.code yX10_kindAt cX10_kindAt 3 (some .int), Cond.methodLink RX10 221 yX10_valueAt]
def wsX10_ticks_r5 : List Cond := [Cond.instanceMethod yX10_valueAt, Cond.selects RX10 yX10_valueAt yX10_valueAt, Cond.code yX10_valueAt cX10_valueAt 3 (some .int), Cond.methodLink RX10 197 yX10_loops, Cond.instanceMethod yX10_loops, Cond.selects RX10 yX10_loops yX10_loops, Cond.code yX10_loops cX10_loops 6 (some .boolean), Cond.methodLink RX10 228 yX10_faults, Cond.instanceMethod yX10_faults, Cond.selects RX10 yX10_faults yX10_faults, Cond.code yX10_faults cX10_faults 4 (some .boolean), Cond.methodLink RX10 200 yX10_calls, Cond.instanceMethod yX10_calls, Cond.selects RX10 yX10_calls yX10_calls, Cond.code yX10_calls cX10_calls 6 (some .boolean), Cond.fieldLink RX10 127 "TokenFloorModel" "acts" "I", Cond.methodLink RX10 203 yX10_returns, Cond.instanceMethod yX10_returns, Cond.selects RX10 yX10_returns yX10_returns, Cond.code yX10_returns cX10_returns 3 (some .boolean), Cond.methodLink RX10 206 yX10_ends, Cond.instanceMethod yX10_ends, Cond.selects RX10 yX10_ends yX10_ends, Cond.code yX10_ends cX10_ends 3 (some .boolean)]
def wsX10_ticks_r6 : List Cond := [Cond.fieldLink RX10 115 "TokenFloorModel" "endValue" "[I", Cond.fieldLink RX10 118 "TokenFloorModel" "endOf" "[I", Cond.methodLink RX10 209 yX10_faultOf, Cond.instanceMethod yX10_faultOf, Cond.selects RX10 yX10_faultOf yX10_faultOf, Cond.code yX10_faultOf cX10_faultOf 4 (some .int), Cond.methodLink RX10 212 yX10_reckons, Cond.instanceMethod yX10_reckons, Cond.selects RX10 yX10_reckons yX10_reckons, Cond.code yX10_reckons cX10_reckons 8 (some .boolean), Cond.methodLink RX10 234 yX10_makes, Cond.instanceMethod yX10_makes, Cond.selects RX10 yX10_makes yX10_makes, Cond.code yX10_makes cX10_makes 4 (some .boolean), Cond.fieldLink RX10 85 "TokenFloorModel" "rFrom" "[I", Cond.fieldLink RX10 88 "TokenFloorModel" "rSize" "[I", Cond.fieldLink RX10 91 "TokenFloorModel" "rAct" "[I", Cond.fieldLink RX10 94 "TokenFloorModel" "rColour" "[I", Cond.fieldLink RX10 97 "TokenFloorModel" "cellKind" "[I", Cond.methodLink RX10 215 yX10_cells, Cond.instanceMethod yX10_cells, Cond.selects RX10 yX10_cells yX10_cells, Cond.code yX10_cells cX10_cells 10 (some .boolean), Cond.fieldLink RX10 100 "TokenFloorModel" "cellValue" "[I"]
def wsX10_ticks_r7 : List Cond := [Cond.fieldLink RX10 103 "TokenFloorModel" "cellOf" "[I", Cond.fieldLink RX10 106 "TokenFloorModel" "readCell" "[I", Cond.fieldLink RX10 109 "TokenFloorModel" "readPair" "[I"]
def wsX10_ticks : List Cond := .code yX10_ticks cX10_ticks 5 (some .int) :: ((wsX10_ticks_r1 ++ (wsX10_ticks_r2 ++ (wsX10_ticks_r3 ++ (wsX10_ticks_r4 ++ (wsX10_ticks_r5 ++ (wsX10_ticks_r6 ++ wsX10_ticks_r7)))))) ++ wsX100)
def wsX10_left : List Cond := .code yX10_left cX10_left 4 (some .int) :: ([.fieldLink RX10 169 "TokenFloorModel" "pairs" "I", .fieldLink RX10 61 "TokenFloorModel" "pHow" "[I", .fieldLink RX10 58 "TokenFloorModel" "pHas" "[I"] ++ wsX100)
def wsX10_waiting : List Cond := .code yX10_waiting cX10_waiting 3 (some .int) :: ([.fieldLink RX10 242 "TokenFloorModel" "readers" "I", .fieldLink RX10 106 "TokenFloorModel" "readCell" "[I"] ++ wsX100)
def wsX10_about : List Cond := .code yX10_about cX10_about 2 (some .int) :: ([.fieldLink RX10 149 "TokenFloorModel" "isRun" "Z", .fieldLink RX10 153 "TokenFloorModel" "how" "I", .fieldLink RX10 245 "TokenFloorModel" "steps" "I", .fieldLink RX10 248 "TokenFloorModel" "ticked" "I", .fieldLink RX10 251 "TokenFloorModel" "most" "I", .fieldLink RX10 218 "TokenFloorModel" "lost" "I", .fieldLink RX10 231 "TokenFloorModel" "strays" "I", .fieldLink RX10 162 "TokenFloorModel" "colours" "I", .fieldLink RX10 156 "TokenFloorModel" "clash" "I", .fieldLink RX10 175 "TokenFloorModel" "readyMany" "I", .methodLink RX10 265 yX10_left, .instanceMethod yX10_left, .selects RX10 yX10_left yX10_left, .initialized RX10, .code yX10_left cX10_left 4 (some .int), .fieldLink RX10 169 "TokenFloorModel" "pairs" "I", .fieldLink RX10 61 "TokenFloorModel" "pHow" "[I", .fieldLink RX10 58 "TokenFloorModel" "pHas" "[I", .methodLink RX10 269 yX10_waiting, .instanceMethod yX10_waiting, .selects RX10 yX10_waiting yX10_waiting, .code yX10_waiting cX10_waiting 3 (some .int), .fieldLink RX10 242 "TokenFloorModel" "readers" "I", .fieldLink RX10 106 "TokenFloorModel" "readCell" "[I"] ++ wsX100)
def wsX10_told1 : List Cond := .code yX10_told1 cX10_told1 5 (some .int) :: ([.fieldLink RX10 88 "TokenFloorModel" "rSize" "[I"] ++ wsX100)
def wsX10_end : List Cond := .code yX10_end cX10_end 3 (some .int) :: ([.fieldLink RX10 149 "TokenFloorModel" "isRun" "Z", .fieldLink RX10 112 "TokenFloorModel" "endKind" "[I", .fieldLink RX10 115 "TokenFloorModel" "endValue" "[I", .fieldLink RX10 118 "TokenFloorModel" "endOf" "[I", .methodLink RX10 131 yX10_in, .static yX10_in, .initialized RX10, .code yX10_in cX10_in 3 (some .boolean), .methodLink RX10 272 yX10_told1, .instanceMethod yX10_told1, .selects RX10 yX10_told1 yX10_told1, .code yX10_told1 cX10_told1 5 (some .int), .fieldLink RX10 88 "TokenFloorModel" "rSize" "[I"] ++ wsX100)
def wsX10_fired : List Cond := .code yX10_fired cX10_fired 2 (some .int) :: ([.fieldLink RX10 149 "TokenFloorModel" "isRun" "Z", .fieldLink RX10 79 "TokenFloorModel" "fired" "[I", .methodLink RX10 139 yX10_isAct, .instanceMethod yX10_isAct, .selects RX10 yX10_isAct yX10_isAct, .initialized RX10, .code yX10_isAct cX10_isAct 2 (some .boolean), .fieldLink RX10 127 "TokenFloorModel" "acts" "I", .methodLink RX10 131 yX10_in, .static yX10_in, .code yX10_in cX10_in 3 (some .boolean)] ++ wsX100)
def wsX10_cell : List Cond := .code yX10_cell cX10_cell 6 (some .int) :: ([.fieldLink RX10 149 "TokenFloorModel" "isRun" "Z", .fieldLink RX10 237 "TokenFloorModel" "rows" "I", .fieldLink RX10 91 "TokenFloorModel" "rAct" "[I", .fieldLink RX10 94 "TokenFloorModel" "rColour" "[I", .fieldLink RX10 88 "TokenFloorModel" "rSize" "[I", .fieldLink RX10 85 "TokenFloorModel" "rFrom" "[I", .fieldLink RX10 97 "TokenFloorModel" "cellKind" "[I", .fieldLink RX10 100 "TokenFloorModel" "cellValue" "[I", .fieldLink RX10 103 "TokenFloorModel" "cellOf" "[I", .methodLink RX10 131 yX10_in, .static yX10_in, .initialized RX10, .code yX10_in cX10_in 3 (some .boolean), .methodLink RX10 272 yX10_told1, .instanceMethod yX10_told1, .selects RX10 yX10_told1 yX10_told1, .code yX10_told1 cX10_told1 5 (some .int)] ++ wsX100)
def wsX10_told : List Cond := .code yX10_told cX10_told 5 (some .int) :: ([.fieldLink RX10 7 "TokenFloorModel" "kind" "[I", .fieldLink RX10 13 "TokenFloorModel" "own" "[I", .fieldLink RX10 16 "TokenFloorModel" "ports" "[I", .fieldLink RX10 143 "TokenFloorModel" "ways" "I", .fieldLink RX10 19 "TokenFloorModel" "wayFrom" "[I", .fieldLink RX10 22 "TokenFloorModel" "waySide" "[I", .fieldLink RX10 146 "TokenFloorModel" "tokens" "I", .fieldLink RX10 31 "TokenFloorModel" "tokenAct" "[I", .methodLink RX10 139 yX10_isAct, .instanceMethod yX10_isAct, .selects RX10 yX10_isAct yX10_isAct, .initialized RX10, .code yX10_isAct cX10_isAct 2 (some .boolean), .fieldLink RX10 127 "TokenFloorModel" "acts" "I", .methodLink RX10 131 yX10_in, .static yX10_in, .code yX10_in cX10_in 3 (some .boolean)] ++ wsX100)
def wsX10_notes_r1 : List Cond := [Cond.fieldLink RX10 153 "TokenFloorModel" "how" "I", Cond.fieldLink RX10 245 "TokenFloorModel" "steps" "I", Cond.fieldLink RX10 218 "TokenFloorModel" "lost" "I", Cond.fieldLink RX10 231 "TokenFloorModel" "strays" "I", Cond.fieldLink RX10 79 "TokenFloorModel" "fired" "[I", Cond.methodLink RX10 265 yX10_left, Cond.instanceMethod yX10_left, Cond.selects RX10 yX10_left yX10_left, Cond.initialized RX10, Cond.code yX10_left cX10_left 4 (some .int), Cond.fieldLink RX10 169 "TokenFloorModel" "pairs" "I", Cond.fieldLink RX10 61 "TokenFloorModel" "pHow" "[I", Cond.fieldLink RX10 58 "TokenFloorModel" "pHas" "[I", Cond.methodLink RX10 269 yX10_waiting, Cond.instanceMethod yX10_waiting, Cond.selects RX10 yX10_waiting yX10_waiting, Cond.code yX10_waiting cX10_waiting 3 (some .int), Cond.fieldLink RX10 242 "TokenFloorModel" "readers" "I", Cond.fieldLink RX10 106 "TokenFloorModel" "readCell" "[I", Cond.methodLink RX10 275 yX10_end, Cond.instanceMethod yX10_end, Cond.selects RX10 yX10_end yX10_end, Cond.code yX10_end cX10_end 3 (some .int), Cond.fieldLink RX10 149 "TokenFloorModel" "isRun" "Z"]
def wsX10_notes_r2 : List Cond := [Cond.fieldLink RX10 112 "TokenFloorModel" "endKind" "[I", Cond.fieldLink RX10 115 "TokenFloorModel" "endValue" "[I", Cond.fieldLink RX10 118 "TokenFloorModel" "endOf" "[I", Cond.methodLink RX10 131 yX10_in, Cond.static yX10_in, Cond.code yX10_in cX10_in 3 (some .boolean), Cond.methodLink RX10 272 yX10_told1, Cond.instanceMethod yX10_told1, Cond.selects RX10 yX10_told1 yX10_told1, Cond.code yX10_told1 cX10_told1 5 (some .int), Cond.fieldLink RX10 88 "TokenFloorModel" "rSize" "[I"]
def wsX10_notes : List Cond := .code yX10_notes cX10_notes 4 none :: ((wsX10_notes_r1 ++ wsX10_notes_r2) ++ wsX100)
def wsX10_beside_r1 : List Cond := [Cond.fieldLink RX10 121 "TokenFloorModel" "was" "[I", Cond.fieldLink RX10 124 "TokenFloorModel" "is" "[I", Cond.fieldLink RX10 127 "TokenFloorModel" "acts" "I", Cond.methodLink RX10 131 yX10_in, Cond.static yX10_in, Cond.initialized RX10, Cond.code yX10_in cX10_in 3 (some .boolean), Cond.methodLink RX10 278 yX10_run, Cond.instanceMethod yX10_run, Cond.selects RX10 yX10_run yX10_run, Cond.code yX10_run cX10_run 4 (some .int), Cond.fieldLink RX10 159 "TokenFloorModel" "isStopped" "Z", Cond.fieldLink RX10 175 "TokenFloorModel" "readyMany" "I", Cond.fieldLink RX10 245 "TokenFloorModel" "steps" "I", Cond.constant RX10 260 (1103515245), Cond.fieldLink RX10 251 "TokenFloorModel" "most" "I", Cond.fieldLink RX10 153 "TokenFloorModel" "how" "I", Cond.methodLink RX10 257 yX10_begins, Cond.instanceMethod yX10_begins, Cond.selects RX10 yX10_begins yX10_begins, Cond.code yX10_begins cX10_begins 3 none, Cond.fieldLink RX10 149 "TokenFloorModel" "isRun" "Z", Cond.fieldLink RX10 248 "TokenFloorModel" "ticked" "I", Cond.fieldLink RX10 218 "TokenFloorModel" "lost" "I"]
def wsX10_beside_r2 : List Cond := [Cond.fieldLink RX10 231 "TokenFloorModel" "strays" "I", Cond.fieldLink RX10 156 "TokenFloorModel" "clash" "I", Cond.fieldLink RX10 162 "TokenFloorModel" "colours" "I", Cond.fieldLink RX10 169 "TokenFloorModel" "pairs" "I", Cond.fieldLink RX10 237 "TokenFloorModel" "rows" "I", Cond.fieldLink RX10 240 "TokenFloorModel" "cells" "I", Cond.fieldLink RX10 242 "TokenFloorModel" "readers" "I", Cond.fieldLink RX10 76 "TokenFloorModel" "first" "[I", Cond.fieldLink RX10 79 "TokenFloorModel" "fired" "[I", Cond.fieldLink RX10 112 "TokenFloorModel" "endKind" "[I", Cond.fieldLink RX10 146 "TokenFloorModel" "tokens" "I", Cond.fieldLink RX10 31 "TokenFloorModel" "tokenAct" "[I", Cond.fieldLink RX10 34 "TokenFloorModel" "tokenPort" "[I", Cond.fieldLink RX10 37 "TokenFloorModel" "tokenValue" "[I", Cond.methodLink RX10 224 yX10_colour, Cond.instanceMethod yX10_colour, Cond.selects RX10 yX10_colour yX10_colour, Cond.code yX10_colour cX10_colour 6 (some .int), Cond.fieldLink RX10 40 "TokenFloorModel" "cSort" "[I", Cond.fieldLink RX10 43 "TokenFloorModel" "cOf" "[I", Cond.fieldLink RX10 46 "TokenFloorModel" "cTurn" "[I", Cond.fieldLink RX10 49 "TokenFloorModel" "cIn" "[I", Cond.methodLink RX10 165 yX10_stops, Cond.instanceMethod yX10_stops]
def wsX10_beside_r3 : List Cond := [Cond.selects RX10 yX10_stops yX10_stops, Cond.code yX10_stops cX10_stops 3 (some .boolean), Cond.methodLink RX10 178 yX10_comes, Cond.instanceMethod yX10_comes, Cond.selects RX10 yX10_comes yX10_comes, Cond.code yX10_comes cX10_comes 8 (some .boolean), Cond.fieldLink RX10 58 "TokenFloorModel" "pHas" "[I", Cond.fieldLink RX10 67 "TokenFloorModel" "pKind" "[I", Cond.fieldLink RX10 70 "TokenFloorModel" "pValue" "[I", Cond.fieldLink RX10 73 "TokenFloorModel" "pOf" "[I", Cond.fieldLink RX10 16 "TokenFloorModel" "ports" "[I", Cond.fieldLink RX10 61 "TokenFloorModel" "pHow" "[I", Cond.fieldLink RX10 82 "TokenFloorModel" "ready" "[I", Cond.methodLink RX10 172 yX10_pair, Cond.instanceMethod yX10_pair, Cond.selects RX10 yX10_pair yX10_pair, Cond.code yX10_pair cX10_pair 4 (some .int), Cond.fieldLink RX10 55 "TokenFloorModel" "pColour" "[I", Cond.fieldLink RX10 64 "TokenFloorModel" "pNext" "[I", Cond.fieldLink RX10 52 "TokenFloorModel" "pAct" "[I", Cond.methodLink RX10 261 yX10_stepped, Cond.instanceMethod yX10_stepped, Cond.selects RX10 yX10_stepped yX10_stepped, Cond.code yX10_stepped cX10_stepped 4 none]
def wsX10_beside_r4 : List Cond := [Cond.methodLink RX10 254 yX10_goesOff, Cond.instanceMethod yX10_goesOff, Cond.selects RX10 yX10_goesOff yX10_goesOff, Cond.code yX10_goesOff cX10_goesOff 6 (some .boolean), Cond.fieldLink RX10 7 "TokenFloorModel" "kind" "[I", Cond.fieldLink RX10 13 "TokenFloorModel" "own" "[I", Cond.methodLink RX10 188 yX10_passes, Cond.instanceMethod yX10_passes, Cond.selects RX10 yX10_passes yX10_passes, Cond.code yX10_passes cX10_passes 4 (some .boolean), Cond.methodLink RX10 182 yX10_gives, Cond.instanceMethod yX10_gives, Cond.selects RX10 yX10_gives yX10_gives, Cond.code yX10_gives cX10_gives 8 (some .boolean), Cond.fieldLink RX10 143 "TokenFloorModel" "ways" "I", Cond.fieldLink RX10 19 "TokenFloorModel" "wayFrom" "[I", Cond.fieldLink RX10 22 "TokenFloorModel" "waySide" "[I", Cond.fieldLink RX10 25 "TokenFloorModel" "wayTo" "[I", Cond.fieldLink RX10 28 "TokenFloorModel" "wayPort" "[I", Cond.methodLink RX10 191 yX10_number, Cond.instanceMethod yX10_number, Cond.selects RX10 yX10_number yX10_number, Cond.code yX10_number cX10_number 3 (some .boolean), Cond.methodLink RX10 194 yX10_switches]
def wsX10_beside_r5 : List Cond := [Cond.instanceMethod yX10_switches, Cond.selects RX10 yX10_switches yX10_switches, Cond.code yX10_switches cX10_switches 2 (some .boolean), Cond.methodLink RX10 185 yX10_kindAt, Cond.instanceMethod yX10_kindAt, Cond.selects RX10 yX10_kindAt yX10_kindAt, Cond.code yX10_kindAt cX10_kindAt 3 (some .int), Cond.methodLink RX10 221 yX10_valueAt, Cond.instanceMethod yX10_valueAt, Cond.selects RX10 yX10_valueAt yX10_valueAt, Cond.code yX10_valueAt cX10_valueAt 3 (some .int), Cond.methodLink RX10 197 yX10_loops, Cond.instanceMethod yX10_loops, Cond.selects RX10 yX10_loops yX10_loops, Cond.code yX10_loops cX10_loops 6 (some .boolean), Cond.methodLink RX10 228 yX10_faults, Cond.instanceMethod yX10_faults, Cond.selects RX10 yX10_faults yX10_faults, Cond.code yX10_faults cX10_faults 4 (some .boolean), Cond.methodLink RX10 200 yX10_calls, Cond.instanceMethod yX10_calls, Cond.selects RX10 yX10_calls yX10_calls, Cond.code yX10_calls cX10_calls 6 (some .boolean), Cond.methodLink RX10 203 yX10_returns]
def wsX10_beside_r6 : List Cond := [Cond.instanceMethod yX10_returns, Cond.selects RX10 yX10_returns yX10_returns, Cond.code yX10_returns cX10_returns 3 (some .boolean), Cond.methodLink RX10 206 yX10_ends, Cond.instanceMethod yX10_ends, Cond.selects RX10 yX10_ends yX10_ends, Cond.code yX10_ends cX10_ends 3 (some .boolean), Cond.fieldLink RX10 115 "TokenFloorModel" "endValue" "[I", Cond.fieldLink RX10 118 "TokenFloorModel" "endOf" "[I", Cond.methodLink RX10 209 yX10_faultOf, Cond.instanceMethod yX10_faultOf, Cond.selects RX10 yX10_faultOf yX10_faultOf, Cond.code yX10_faultOf cX10_faultOf 4 (some .int), Cond.methodLink RX10 212 yX10_reckons, Cond.instanceMethod yX10_reckons, Cond.selects RX10 yX10_reckons yX10_reckons, Cond.code yX10_reckons cX10_reckons 8 (some .boolean), Cond.methodLink RX10 234 yX10_makes, Cond.instanceMethod yX10_makes, Cond.selects RX10 yX10_makes yX10_makes, Cond.code yX10_makes cX10_makes 4 (some .boolean), Cond.fieldLink RX10 85 "TokenFloorModel" "rFrom" "[I", Cond.fieldLink RX10 88 "TokenFloorModel" "rSize" "[I", Cond.fieldLink RX10 91 "TokenFloorModel" "rAct" "[I"]
def wsX10_beside_r7 : List Cond := [Cond.fieldLink RX10 94 "TokenFloorModel" "rColour" "[I", Cond.fieldLink RX10 97 "TokenFloorModel" "cellKind" "[I", Cond.methodLink RX10 215 yX10_cells, Cond.instanceMethod yX10_cells, Cond.selects RX10 yX10_cells yX10_cells, Cond.code yX10_cells cX10_cells 10 (some .boolean), Cond.fieldLink RX10 100 "TokenFloorModel" "cellValue" "[I", Cond.fieldLink RX10 103 "TokenFloorModel" "cellOf" "[I", Cond.fieldLink RX10 106 "TokenFloorModel" "readCell" "[I", Cond.fieldLink RX10 109 "TokenFloorModel" "readPair" "[I", Cond.methodLink RX10 281 yX10_notes, Cond.instanceMethod yX10_notes, Cond.selects RX10 yX10_notes yX10_notes, Cond.code yX10_notes cX10_notes 4 none, Cond.methodLink RX10 265 yX10_left, Cond.instanceMethod yX10_left, Cond.selects RX10 yX10_left yX10_left, Cond.code yX10_left cX10_left 4 (some .int), Cond.methodLink RX10 269 yX10_waiting, Cond.instanceMethod yX10_waiting, Cond.selects RX10 yX10_waiting yX10_waiting, Cond.code yX10_waiting cX10_waiting 3 (some .int), Cond.methodLink RX10 275 yX10_end, Cond.instanceMethod yX10_end]
def wsX10_beside_r8 : List Cond := [Cond.selects RX10 yX10_end yX10_end, Cond.code yX10_end cX10_end 3 (some .int), Cond.methodLink RX10 272 yX10_told1, Cond.instanceMethod yX10_told1, Cond.selects RX10 yX10_told1 yX10_told1, Cond.code yX10_told1 cX10_told1 5 (some .int)]
def wsX10_beside : List Cond := .code yX10_beside cX10_beside 5 (some .int) :: ((wsX10_beside_r1 ++ (wsX10_beside_r2 ++ (wsX10_beside_r3 ++ (wsX10_beside_r4 ++ (wsX10_beside_r5 ++ (wsX10_beside_r6 ++ (wsX10_beside_r7 ++ wsX10_beside_r8))))))) ++ wsX100)
def wsJ9_max_7cf53 : List Cond := .code yJ9_max_7cf53 cJ9_max_7cf53 2 (some .int) :: ([])
def wsL_law_r1 : List Cond := [Cond.classLink RL 7 RX9, Cond.instantiable RX9 5, Cond.initialized RX9, Cond.classLink RL 10 RX10, Cond.instantiable RX10 57, Cond.initialized RX10, Cond.methodLink RL 9 yX9_init, Cond.instanceMethod yX9_init, Cond.code yX9_init cX9_init 1 none, Cond.methodLink RX9 1 objectInit, Cond.instanceMethod objectInit, Cond.code objectInit ⟨#[0xb1]⟩ 1 none, Cond.classLink RX9 7 RX2, Cond.instantiable RX2 15, Cond.initialized RX2, Cond.fieldLink RX9 10 "TokenFloor" "graph" "LTokenFloor$Graph;", Cond.classLink RX9 16 RX4, Cond.instantiable RX4 14, Cond.initialized RX4, Cond.fieldLink RX9 21 "TokenFloor" "machine" "LTokenFloor$Machine;", Cond.arrayClass .long, Cond.fieldLink RX9 25 "TokenFloor" "figuresA" "[J", Cond.fieldLink RX9 29 "TokenFloor" "figuresB" "[J", Cond.fieldLink RX9 32 "TokenFloor" "hasRun" "Z"]
def wsL_law_r2 : List Cond := [Cond.methodLink RX9 9 yX2_init, Cond.instanceMethod yX2_init, Cond.code yX2_init cX2_init 1 none, Cond.methodLink RX2 3 objectInit, Cond.arrayClass .int, Cond.fieldLink RX2 9 "TokenFloor$Graph" "kind" "[I", Cond.fieldLink RX2 15 "TokenFloor$Graph" "number" "[I", Cond.fieldLink RX2 18 "TokenFloor$Graph" "ports" "[I", Cond.fieldLink RX2 21 "TokenFloor$Graph" "parameter" "[I", Cond.fieldLink RX2 24 "TokenFloor$Graph" "wayTo" "[I", Cond.fieldLink RX2 27 "TokenFloor$Graph" "wayPort" "[I", Cond.fieldLink RX2 30 "TokenFloor$Graph" "nextWay" "[I", Cond.fieldLink RX2 33 "TokenFloor$Graph" "firstWay" "[I", Cond.fieldLink RX2 36 "TokenFloor$Graph" "lastWay" "[I", Cond.fieldLink RX2 39 "TokenFloor$Graph" "tokenAct" "[I", Cond.fieldLink RX2 42 "TokenFloor$Graph" "tokenPort" "[I", Cond.fieldLink RX2 45 "TokenFloor$Graph" "tokenValue" "[I", Cond.methodLink RX2 48 yJ7_fill_53178, Cond.static yJ7_fill_53178, Cond.initialized RJ7, Cond.code yJ7_fill_53178 cJ7_fill_53178 4 none, Cond.methodLink RX9 18 yX4_init, Cond.instanceMethod yX4_init, Cond.code yX4_init cX4_init 2 none]
def wsL_law_r3 : List Cond := [Cond.methodLink RX4 3 objectInit, Cond.classLink RX4 9 RX6, Cond.instantiable RX6 10, Cond.initialized RX6, Cond.fieldLink RX4 12 "TokenFloor$Machine" "store" "LTokenFloor$Store;", Cond.fieldLink RX4 18 "TokenFloor$Machine" "firings" "[I", Cond.fieldLink RX4 22 "TokenFloor$Machine" "ends" "[J", Cond.classLink RX4 26 RX0, Cond.instantiable RX0 6, Cond.initialized RX0, Cond.fieldLink RX4 29 "TokenFloor$Machine" "colours" "LTokenFloor$Colours;", Cond.classLink RX4 33 RX1, Cond.instantiable RX1 8, Cond.initialized RX1, Cond.fieldLink RX4 36 "TokenFloor$Machine" "floor" "LTokenFloor$Floor;", Cond.classLink RX4 40 RX5, Cond.instantiable RX5 3, Cond.initialized RX5, Cond.fieldLink RX4 43 "TokenFloor$Machine" "ready" "LTokenFloor$ReadyRow;", Cond.fieldLink RX4 47 "TokenFloor$Machine" "graph" "LTokenFloor$Graph;", Cond.instanceMethod yX6_init, Cond.code yX6_init cX6_init 1 none, Cond.methodLink RX6 3 objectInit, Cond.fieldLink RX6 9 "TokenFloor$Store" "rowOfAct" "[I"]
def wsL_law_r4 : List Cond := [Cond.fieldLink RX6 15 "TokenFloor$Store" "written" "[J", Cond.fieldLink RX6 19 "TokenFloor$Store" "start" "[I", Cond.fieldLink RX6 22 "TokenFloor$Store" "size" "[I", Cond.fieldLink RX6 25 "TokenFloor$Store" "firstReader" "[I", Cond.fieldLink RX6 28 "TokenFloor$Store" "lastReader" "[I", Cond.fieldLink RX6 31 "TokenFloor$Store" "nextReader" "[I", Cond.instanceMethod yX0_init, Cond.code yX0_init cX0_init 1 none, Cond.methodLink RX0 5 objectInit, Cond.fieldLink RX0 11 "TokenFloor$Colours" "origin" "[I", Cond.fieldLink RX0 15 "TokenFloor$Colours" "outer" "[I", Cond.fieldLink RX0 18 "TokenFloor$Colours" "key" "[I", Cond.fieldLink RX0 21 "TokenFloor$Colours" "firstReached" "[I", Cond.fieldLink RX0 24 "TokenFloor$Colours" "nextReached" "[I", Cond.instanceMethod yX1_init, Cond.code yX1_init cX1_init 1 none, Cond.methodLink RX1 3 objectInit, Cond.fieldLink RX1 9 "TokenFloor$Floor" "actOf" "[I", Cond.fieldLink RX1 15 "TokenFloor$Floor" "colourOf" "[I", Cond.fieldLink RX1 18 "TokenFloor$Floor" "had" "[I", Cond.fieldLink RX1 21 "TokenFloor$Floor" "came" "[J", Cond.fieldLink RX1 25 "TokenFloor$Floor" "firstPair" "[I", Cond.fieldLink RX1 28 "TokenFloor$Floor" "nextPair" "[I", Cond.instanceMethod yX5_init]
def wsL_law_r5 : List Cond := [Cond.code yX5_init cX5_init 1 none, Cond.methodLink RX5 3 objectInit, Cond.fieldLink RX5 9 "TokenFloor$ReadyRow" "row" "[I", Cond.methodLink RL 12 yX10_init, Cond.instanceMethod yX10_init, Cond.code yX10_init cX10_init 1 none, Cond.methodLink RX10 1 objectInit, Cond.fieldLink RX10 7 "TokenFloorModel" "kind" "[I", Cond.fieldLink RX10 13 "TokenFloorModel" "own" "[I", Cond.fieldLink RX10 16 "TokenFloorModel" "ports" "[I", Cond.fieldLink RX10 19 "TokenFloorModel" "wayFrom" "[I", Cond.fieldLink RX10 22 "TokenFloorModel" "waySide" "[I", Cond.fieldLink RX10 25 "TokenFloorModel" "wayTo" "[I", Cond.fieldLink RX10 28 "TokenFloorModel" "wayPort" "[I", Cond.fieldLink RX10 31 "TokenFloorModel" "tokenAct" "[I", Cond.fieldLink RX10 34 "TokenFloorModel" "tokenPort" "[I", Cond.fieldLink RX10 37 "TokenFloorModel" "tokenValue" "[I", Cond.fieldLink RX10 40 "TokenFloorModel" "cSort" "[I", Cond.fieldLink RX10 43 "TokenFloorModel" "cOf" "[I", Cond.fieldLink RX10 46 "TokenFloorModel" "cTurn" "[I", Cond.fieldLink RX10 49 "TokenFloorModel" "cIn" "[I", Cond.fieldLink RX10 52 "TokenFloorModel" "pAct" "[I", Cond.fieldLink RX10 55 "TokenFloorModel" "pColour" "[I", Cond.fieldLink RX10 58 "TokenFloorModel" "pHas" "[I"]
def wsL_law_r6 : List Cond := [Cond.fieldLink RX10 61 "TokenFloorModel" "pHow" "[I", Cond.fieldLink RX10 64 "TokenFloorModel" "pNext" "[I", Cond.fieldLink RX10 67 "TokenFloorModel" "pKind" "[I", Cond.fieldLink RX10 70 "TokenFloorModel" "pValue" "[I", Cond.fieldLink RX10 73 "TokenFloorModel" "pOf" "[I", Cond.fieldLink RX10 76 "TokenFloorModel" "first" "[I", Cond.fieldLink RX10 79 "TokenFloorModel" "fired" "[I", Cond.fieldLink RX10 82 "TokenFloorModel" "ready" "[I", Cond.fieldLink RX10 85 "TokenFloorModel" "rFrom" "[I", Cond.fieldLink RX10 88 "TokenFloorModel" "rSize" "[I", Cond.fieldLink RX10 91 "TokenFloorModel" "rAct" "[I", Cond.fieldLink RX10 94 "TokenFloorModel" "rColour" "[I", Cond.fieldLink RX10 97 "TokenFloorModel" "cellKind" "[I", Cond.fieldLink RX10 100 "TokenFloorModel" "cellValue" "[I", Cond.fieldLink RX10 103 "TokenFloorModel" "cellOf" "[I", Cond.fieldLink RX10 106 "TokenFloorModel" "readCell" "[I", Cond.fieldLink RX10 109 "TokenFloorModel" "readPair" "[I", Cond.fieldLink RX10 112 "TokenFloorModel" "endKind" "[I", Cond.fieldLink RX10 115 "TokenFloorModel" "endValue" "[I", Cond.fieldLink RX10 118 "TokenFloorModel" "endOf" "[I", Cond.fieldLink RX10 121 "TokenFloorModel" "was" "[I", Cond.fieldLink RX10 124 "TokenFloorModel" "is" "[I", Cond.methodLink RL 13 yX9_act, Cond.instanceMethod yX9_act]
def wsL_law_r7 : List Cond := [Cond.selects RX9 yX9_act yX9_act, Cond.code yX9_act cX9_act 4 (some .int), Cond.methodLink RX9 36 yX2_addAct, Cond.instanceMethod yX2_addAct, Cond.selects RX2 yX2_addAct yX2_addAct, Cond.code yX2_addAct cX2_addAct 6 (some .int), Cond.fieldLink RX2 54 "TokenFloor$Graph" "acts" "I", Cond.methodLink RX2 62 yX3_exists, Cond.static yX3_exists, Cond.initialized RX3, Cond.code yX3_exists cX3_exists 1 (some .boolean), Cond.methodLink RX2 67 yX3_allowsNumber, Cond.static yX3_allowsNumber, Cond.code yX3_allowsNumber cX3_allowsNumber 2 (some .boolean), Cond.methodLink RX2 71 yX3_allowsPorts, Cond.static yX3_allowsPorts, Cond.code yX3_allowsPorts cX3_allowsPorts 2 (some .boolean), Cond.methodLink RX2 74 yX3_portsOf, Cond.static yX3_portsOf, Cond.code yX3_portsOf cX3_portsOf 2 (some .int), Cond.fieldLink RX3 15 "TokenFloor$Kind" "PORTS" "[I", Cond.methodLink RX3 11 yX3_exists, Cond.methodLink RL 17 yX10_act, Cond.instanceMethod yX10_act]
def wsL_law_r8 : List Cond := [Cond.selects RX10 yX10_act yX10_act, Cond.code yX10_act cX10_act 4 (some .int), Cond.fieldLink RX10 127 "TokenFloorModel" "acts" "I", Cond.methodLink RX10 131 yX10_in, Cond.static yX10_in, Cond.code yX10_in cX10_in 3 (some .boolean), Cond.methodLink RX10 135 yX10_portsOf, Cond.static yX10_portsOf, Cond.code yX10_portsOf cX10_portsOf 2 (some .int), Cond.methodLink RL 18 yX9_way, Cond.instanceMethod yX9_way, Cond.selects RX9 yX9_way yX9_way, Cond.code yX9_way cX9_way 5 (some .int), Cond.methodLink RX9 40 yX2_addWay, Cond.instanceMethod yX2_addWay, Cond.selects RX2 yX2_addWay yX2_addWay, Cond.code yX2_addWay cX2_addWay 8 (some .int), Cond.fieldLink RX2 84 "TokenFloor$Graph" "ways" "I", Cond.methodLink RX2 58 yX2_hasAct, Cond.instanceMethod yX2_hasAct, Cond.selects RX2 yX2_hasAct yX2_hasAct, Cond.code yX2_hasAct cX2_hasAct 2 (some .boolean), Cond.methodLink RX2 78 yX3_hasSide, Cond.static yX3_hasSide]
def wsL_law_r9 : List Cond := [Cond.code yX3_hasSide cX3_hasSide 2 (some .boolean), Cond.methodLink RX2 81 yX2_hasPort, Cond.instanceMethod yX2_hasPort, Cond.selects RX2 yX2_hasPort yX2_hasPort, Cond.code yX2_hasPort cX2_hasPort 3 (some .boolean), Cond.methodLink RL 22 yX10_way, Cond.instanceMethod yX10_way, Cond.selects RX10 yX10_way yX10_way, Cond.code yX10_way cX10_way 5 (some .int), Cond.fieldLink RX10 143 "TokenFloorModel" "ways" "I", Cond.methodLink RX10 139 yX10_isAct, Cond.instanceMethod yX10_isAct, Cond.selects RX10 yX10_isAct yX10_isAct, Cond.code yX10_isAct cX10_isAct 2 (some .boolean), Cond.methodLink RL 23 yX9_token, Cond.instanceMethod yX9_token, Cond.selects RX9 yX9_token yX9_token, Cond.code yX9_token cX9_token 4 (some .int), Cond.methodLink RX9 44 yX2_addToken, Cond.instanceMethod yX2_addToken, Cond.selects RX2 yX2_addToken yX2_addToken, Cond.code yX2_addToken cX2_addToken 4 (some .int), Cond.fieldLink RX2 87 "TokenFloor$Graph" "tokens" "I", Cond.methodLink RL 26 yX10_token]
def wsL_law_r10 : List Cond := [Cond.instanceMethod yX10_token, Cond.selects RX10 yX10_token yX10_token, Cond.code yX10_token cX10_token 4 (some .int), Cond.fieldLink RX10 146 "TokenFloorModel" "tokens" "I", Cond.methodLink RL 27 yX9_clear, Cond.instanceMethod yX9_clear, Cond.selects RX9 yX9_clear yX9_clear, Cond.code yX9_clear cX9_clear 2 (some .boolean), Cond.methodLink RX9 47 yX2_dropTokens, Cond.instanceMethod yX2_dropTokens, Cond.selects RX2 yX2_dropTokens yX2_dropTokens, Cond.code yX2_dropTokens cX2_dropTokens 1 none, Cond.methodLink RX9 50 yX2_dropWays, Cond.instanceMethod yX2_dropWays, Cond.selects RX2 yX2_dropWays yX2_dropWays, Cond.code yX2_dropWays cX2_dropWays 1 none, Cond.methodLink RX9 53 yX2_dropActs, Cond.instanceMethod yX2_dropActs, Cond.selects RX2 yX2_dropActs yX2_dropActs, Cond.code yX2_dropActs cX2_dropActs 1 none, Cond.methodLink RL 31 yX10_clear, Cond.instanceMethod yX10_clear, Cond.selects RX10 yX10_clear yX10_clear, Cond.code yX10_clear cX10_clear 2 (some .boolean)]
def wsL_law_r11 : List Cond := [Cond.fieldLink RX10 149 "TokenFloorModel" "isRun" "Z", Cond.methodLink RL 32 yX9_run, Cond.instanceMethod yX9_run, Cond.selects RX9 yX9_run yX9_run, Cond.code yX9_run cX9_run 3 (some .int), Cond.methodLink RX9 56 yX9_isFuel, Cond.static yX9_isFuel, Cond.code yX9_isFuel cX9_isFuel 1 (some .boolean), Cond.methodLink RX9 60 yX4_goBySeed, Cond.instanceMethod yX4_goBySeed, Cond.selects RX4 yX4_goBySeed yX4_goBySeed, Cond.code yX4_goBySeed cX4_goBySeed 6 (some .int), Cond.constant RX4 58 (1103515245), Cond.fieldLink RX4 71 "TokenFloor$Machine" "steps" "I", Cond.fieldLink RX4 75 "TokenFloor$Machine" "most" "I", Cond.fieldLink RX4 78 "TokenFloor$Machine" "how" "I", Cond.methodLink RX4 51 yX4_begin, Cond.instanceMethod yX4_begin, Cond.selects RX4 yX4_begin yX4_begin, Cond.code yX4_begin cX4_begin 4 none, Cond.fieldLink RX4 84 "TokenFloor$Machine" "tickCount" "I", Cond.fieldLink RX4 93 "TokenFloor$Machine" "lost" "I", Cond.fieldLink RX4 96 "TokenFloor$Machine" "strays" "I", Cond.fieldLink RX4 102 "TokenFloor$Machine" "clashAct" "I"]
def wsL_law_r12 : List Cond := [Cond.fieldLink RX4 143 "TokenFloor$Graph" "tokens" "I", Cond.fieldLink RX4 148 "TokenFloor$Graph" "tokenValue" "[I", Cond.fieldLink RX4 154 "TokenFloor$Graph" "tokenAct" "[I", Cond.fieldLink RX4 157 "TokenFloor$Graph" "tokenPort" "[I", Cond.methodLink RX4 128 yX0_reset, Cond.instanceMethod yX0_reset, Cond.selects RX0 yX0_reset yX0_reset, Cond.code yX0_reset cX0_reset 1 none, Cond.fieldLink RX0 27 "TokenFloor$Colours" "count" "I", Cond.methodLink RX0 31 yX0_add, Cond.instanceMethod yX0_add, Cond.selects RX0 yX0_add yX0_add, Cond.code yX0_add cX0_add 5 (some .int), Cond.methodLink RX4 131 yX1_reset, Cond.instanceMethod yX1_reset, Cond.selects RX1 yX1_reset yX1_reset, Cond.code yX1_reset cX1_reset 1 none, Cond.fieldLink RX1 31 "TokenFloor$Floor" "left" "I", Cond.fieldLink RX1 35 "TokenFloor$Floor" "count" "I", Cond.methodLink RX1 38 yJ7_fill_53178, Cond.methodLink RX4 132 yX5_reset, Cond.instanceMethod yX5_reset, Cond.selects RX5 yX5_reset yX5_reset, Cond.code yX5_reset cX5_reset 1 none]
def wsL_law_r13 : List Cond := [Cond.fieldLink RX5 15 "TokenFloor$ReadyRow" "head" "I", Cond.fieldLink RX5 19 "TokenFloor$ReadyRow" "tail" "I", Cond.methodLink RX4 133 yX6_reset, Cond.instanceMethod yX6_reset, Cond.selects RX6 yX6_reset yX6_reset, Cond.code yX6_reset cX6_reset 1 none, Cond.fieldLink RX6 34 "TokenFloor$Store" "waiting" "I", Cond.fieldLink RX6 38 "TokenFloor$Store" "rows" "I", Cond.fieldLink RX6 41 "TokenFloor$Store" "cells" "I", Cond.methodLink RX6 44 yJ7_fill_53178, Cond.methodLink RX4 134 yJ7_fill_53178, Cond.methodLink RX4 140 yJ7_fill_d0a16, Cond.static yJ7_fill_d0a16, Cond.code yJ7_fill_d0a16 cJ7_fill_d0a16 5 none, Cond.methodLink RX4 151 yX8_ofNumber, Cond.static yX8_ofNumber, Cond.initialized RX8, Cond.code yX8_ofNumber cX8_ofNumber 1 (some .long), Cond.constantLong RX8 9 (1099511627776), Cond.constantLong RX8 11 (4294967295), Cond.methodLink RX4 160 yX4_arrive, Cond.instanceMethod yX4_arrive, Cond.selects RX4 yX4_arrive yX4_arrive, Cond.code yX4_arrive cX4_arrive 7 none]
def wsL_law_r14 : List Cond := [Cond.fieldLink RX4 258 "TokenFloor$Graph" "ports" "[I", Cond.methodLink RX4 312 yX1_find, Cond.instanceMethod yX1_find, Cond.selects RX1 yX1_find yX1_find, Cond.code yX1_find cX1_find 5 (some .int), Cond.methodLink RX4 315 yX1_add, Cond.instanceMethod yX1_add, Cond.selects RX1 yX1_add yX1_add, Cond.code yX1_add cX1_add 4 (some .int), Cond.methodLink RX4 318 yX1_hadToken, Cond.instanceMethod yX1_hadToken, Cond.selects RX1 yX1_hadToken yX1_hadToken, Cond.code yX1_hadToken cX1_hadToken 3 (some .boolean), Cond.methodLink RX4 287 yX4_clashAt, Cond.instanceMethod yX4_clashAt, Cond.selects RX4 yX4_clashAt yX4_clashAt, Cond.code yX4_clashAt cX4_clashAt 2 none, Cond.methodLink RX4 321 yX1_put, Cond.instanceMethod yX1_put, Cond.selects RX1 yX1_put yX1_put, Cond.code yX1_put cX1_put 7 (some .boolean), Cond.methodLink RX4 325 yX5_add, Cond.instanceMethod yX5_add, Cond.selects RX5 yX5_add yX5_add]
def wsL_law_r15 : List Cond := [Cond.code yX5_add cX5_add 2 none, Cond.methodLink RX4 54 yX4_mayStep, Cond.instanceMethod yX4_mayStep, Cond.selects RX4 yX4_mayStep yX4_mayStep, Cond.code yX4_mayStep cX4_mayStep 2 (some .boolean), Cond.methodLink RX4 59 yX5_size, Cond.instanceMethod yX5_size, Cond.selects RX5 yX5_size yX5_size, Cond.code yX5_size cX5_size 1 (some .int), Cond.methodLink RX4 63 yX5_take, Cond.instanceMethod yX5_take, Cond.selects RX5 yX5_take yX5_take, Cond.code yX5_take cX5_take 4 (some .int), Cond.methodLink RX5 26 arraycopyName, Cond.native arraycopyName, Cond.static arraycopyName, Cond.initialized "java/lang/System", Cond.methodLink RX5 22 yX5_size, Cond.methodLink RX4 67 yX4_goOff, Cond.instanceMethod yX4_goOff, Cond.selects RX4 yX4_goOff yX4_goOff, Cond.code yX4_goOff cX4_goOff 6 none, Cond.fieldLink RX4 170 "TokenFloor$Floor" "actOf" "[I", Cond.fieldLink RX4 172 "TokenFloor$Floor" "colourOf" "[I"]
def wsL_law_r16 : List Cond := [Cond.fieldLink RX4 179 "TokenFloor$Graph" "kind" "[I", Cond.fieldLink RX4 186 "TokenFloor$Graph" "number" "[I", Cond.methodLink RX4 175 yX1_cameTo, Cond.instanceMethod yX1_cameTo, Cond.selects RX1 yX1_cameTo yX1_cameTo, Cond.code yX1_cameTo cX1_cameTo 3 (some .long), Cond.methodLink RX4 182 yX4_goSwitch, Cond.instanceMethod yX4_goSwitch, Cond.selects RX4 yX4_goSwitch yX4_goSwitch, Cond.code yX4_goSwitch cX4_goSwitch 7 none, Cond.methodLink RX4 105 yX8_sortOf, Cond.static yX8_sortOf, Cond.code yX8_sortOf cX8_sortOf 2 (some .int), Cond.methodLink RX4 111 yX8_contentOf, Cond.static yX8_contentOf, Cond.code yX8_contentOf cX8_contentOf 2 (some .int), Cond.methodLink RX4 223 yX4_give, Cond.instanceMethod yX4_give, Cond.selects RX4 yX4_give yX4_give, Cond.code yX4_give cX4_give 8 none, Cond.fieldLink RX4 303 "TokenFloor$Graph" "wayTo" "[I", Cond.fieldLink RX4 306 "TokenFloor$Graph" "wayPort" "[I", Cond.fieldLink RX4 309 "TokenFloor$Graph" "nextWay" "[I", Cond.methodLink RX4 300 yX2_firstWayOf]
def wsL_law_r17 : List Cond := [Cond.instanceMethod yX2_firstWayOf, Cond.selects RX2 yX2_firstWayOf yX2_firstWayOf, Cond.code yX2_firstWayOf cX2_firstWayOf 3 (some .int), Cond.methodLink RX4 189 yX0_enter, Cond.instanceMethod yX0_enter, Cond.selects RX0 yX0_enter yX0_enter, Cond.code yX0_enter cX0_enter 3 (some .int), Cond.methodLink RX0 35 yX0_reach, Cond.instanceMethod yX0_reach, Cond.selects RX0 yX0_reach yX0_reach, Cond.code yX0_reach cX0_reach 7 (some .int), Cond.methodLink RX4 192 yX4_giveInside, Cond.instanceMethod yX4_giveInside, Cond.selects RX4 yX4_giveInside yX4_giveInside, Cond.code yX4_giveInside cX4_giveInside 5 none, Cond.methodLink RX4 196 yX4_goTurn, Cond.instanceMethod yX4_goTurn, Cond.selects RX4 yX4_goTurn yX4_goTurn, Cond.code yX4_goTurn cX4_goTurn 5 none, Cond.methodLink RX4 240 yX0_isTurnOf, Cond.instanceMethod yX0_isTurnOf, Cond.selects RX0 yX0_isTurnOf yX0_isTurnOf, Cond.code yX0_isTurnOf cX0_isTurnOf 3 (some .boolean), Cond.methodLink RX4 244 yX8_ofFault]
def wsL_law_r18 : List Cond := [Cond.static yX8_ofFault, Cond.code yX8_ofFault cX8_ofFault 2 (some .long), Cond.constantLong RX8 19 (3298534883328), Cond.methodLink RX4 249 yX0_nextTurn, Cond.instanceMethod yX0_nextTurn, Cond.selects RX0 yX0_nextTurn yX0_nextTurn, Cond.code yX0_nextTurn cX0_nextTurn 2 (some .int), Cond.methodLink RX4 252 yX0_outerOf, Cond.instanceMethod yX0_outerOf, Cond.selects RX0 yX0_outerOf yX0_outerOf, Cond.code yX0_outerOf cX0_outerOf 2 (some .int), Cond.methodLink RX4 199 yX4_goCall, Cond.instanceMethod yX4_goCall, Cond.selects RX4 yX4_goCall yX4_goCall, Cond.code yX4_goCall cX4_goCall 7 none, Cond.methodLink RX4 255 yX0_callBy, Cond.instanceMethod yX0_callBy, Cond.selects RX0 yX0_callBy yX0_callBy, Cond.code yX0_callBy cX0_callBy 3 (some .int), Cond.methodLink RX4 261 yX2_parameterFor, Cond.instanceMethod yX2_parameterFor, Cond.selects RX2 yX2_parameterFor yX2_parameterFor, Cond.code yX2_parameterFor cX2_parameterFor 4 (some .int), Cond.methodLink RX4 203 yX4_goReturn]
def wsL_law_r19 : List Cond := [Cond.instanceMethod yX4_goReturn, Cond.selects RX4 yX4_goReturn yX4_goReturn, Cond.code yX4_goReturn cX4_goReturn 5 none, Cond.methodLink RX4 264 yX0_callerOf, Cond.instanceMethod yX0_callerOf, Cond.selects RX0 yX0_callerOf yX0_callerOf, Cond.code yX0_callerOf cX0_callerOf 2 (some .int), Cond.methodLink RX4 207 yX4_goMake, Cond.instanceMethod yX4_goMake, Cond.selects RX4 yX4_goMake yX4_goMake, Cond.code yX4_goMake cX4_goMake 9 none, Cond.fieldLink RX4 270 "TokenFloor$Store" "rowOfAct" "[I", Cond.methodLink RX4 232 yX8_refuse, Cond.static yX8_refuse, Cond.code yX8_refuse cX8_refuse 5 (some .long), Cond.methodLink RX8 21 yX8_sortOf, Cond.methodLink RX8 25 yX8_ofFault, Cond.methodLink RX4 267 yX6_make, Cond.instanceMethod yX6_make, Cond.selects RX6 yX6_make yX6_make, Cond.code yX6_make cX6_make 4 (some .int), Cond.methodLink RX4 124 yX8_ofRow, Cond.static yX8_ofRow, Cond.code yX8_ofRow cX8_ofRow 1 (some .long)]
def wsL_law_r20 : List Cond := [Cond.constantLong RX8 17 (2199023255552), Cond.methodLink RX4 210 yX4_goRead, Cond.instanceMethod yX4_goRead, Cond.selects RX4 yX4_goRead yX4_goRead, Cond.code yX4_goRead cX4_goRead 9 none, Cond.fieldLink RX4 280 "TokenFloor$Store" "written" "[J", Cond.methodLink RX4 273 yX4_placeAsked, Cond.instanceMethod yX4_placeAsked, Cond.selects RX4 yX4_placeAsked yX4_placeAsked, Cond.code yX4_placeAsked cX4_placeAsked 3 (some .int), Cond.methodLink RX4 297 yX6_placeIn, Cond.instanceMethod yX6_placeIn, Cond.selects RX6 yX6_placeIn yX6_placeIn, Cond.code yX6_placeIn cX6_placeIn 3 (some .int), Cond.methodLink RX6 52 yX6_sizeOf, Cond.instanceMethod yX6_sizeOf, Cond.selects RX6 yX6_sizeOf yX6_sizeOf, Cond.code yX6_sizeOf cX6_sizeOf 2 (some .int), Cond.methodLink RX4 276 yX4_refuseCell, Cond.instanceMethod yX4_refuseCell, Cond.selects RX4 yX4_refuseCell yX4_refuseCell, Cond.code yX4_refuseCell cX4_refuseCell 10 (some .long), Cond.methodLink RX4 293 yX8_refuseTwo, Cond.static yX8_refuseTwo]
def wsL_law_r21 : List Cond := [Cond.code yX8_refuseTwo cX8_refuseTwo 8 (some .long), Cond.methodLink RX4 283 yX6_addReader, Cond.instanceMethod yX6_addReader, Cond.selects RX6 yX6_addReader yX6_addReader, Cond.code yX6_addReader cX6_addReader 4 none, Cond.methodLink RX4 213 yX4_goWrite, Cond.instanceMethod yX4_goWrite, Cond.selects RX4 yX4_goWrite yX4_goWrite, Cond.code yX4_goWrite cX4_goWrite 11 none, Cond.methodLink RX4 290 yX6_takeReader, Cond.instanceMethod yX6_takeReader, Cond.selects RX6 yX6_takeReader yX6_takeReader, Cond.code yX6_takeReader cX6_takeReader 3 (some .int), Cond.methodLink RX4 216 yX4_goEnd, Cond.instanceMethod yX4_goEnd, Cond.selects RX4 yX4_goEnd yX4_goEnd, Cond.code yX4_goEnd cX4_goEnd 6 none, Cond.methodLink RX4 219 yX4_plainResult, Cond.instanceMethod yX4_plainResult, Cond.selects RX4 yX4_plainResult yX4_plainResult, Cond.code yX4_plainResult cX4_plainResult 9 (some .long), Cond.methodLink RX4 226 yX7_not, Cond.static yX7_not, Cond.initialized RX7]
def wsL_law_r22 : List Cond := [Cond.code yX7_not cX7_not 5 (some .long), Cond.methodLink RX7 34 yX8_refuse, Cond.methodLink RX7 19 yX8_contentOf, Cond.methodLink RX7 30 yX8_ofTruth, Cond.static yX8_ofTruth, Cond.code yX8_ofTruth cX8_ofTruth 1 (some .long), Cond.methodLink RX8 13 yX8_ofNumber, Cond.methodLink RX4 114 yX6_sizeOf, Cond.methodLink RX4 236 yX7_ofTwo, Cond.static yX7_ofTwo, Cond.code yX7_ofTwo cX7_ofTwo 11 (some .long), Cond.methodLink RX7 9 yX8_sortOf, Cond.methodLink RX7 15 yX8_refuseTwo, Cond.methodLink RX7 22 yX8_ofNumber, Cond.methodLink RX7 26 yX8_ofFault, Cond.methodLink RL 36 yX10_run, Cond.instanceMethod yX10_run, Cond.selects RX10 yX10_run yX10_run, Cond.code yX10_run cX10_run 4 (some .int), Cond.fieldLink RX10 159 "TokenFloorModel" "isStopped" "Z", Cond.fieldLink RX10 175 "TokenFloorModel" "readyMany" "I", Cond.fieldLink RX10 245 "TokenFloorModel" "steps" "I", Cond.constant RX10 260 (1103515245), Cond.fieldLink RX10 251 "TokenFloorModel" "most" "I"]
def wsL_law_r23 : List Cond := [Cond.fieldLink RX10 153 "TokenFloorModel" "how" "I", Cond.methodLink RX10 257 yX10_begins, Cond.instanceMethod yX10_begins, Cond.selects RX10 yX10_begins yX10_begins, Cond.code yX10_begins cX10_begins 3 none, Cond.fieldLink RX10 248 "TokenFloorModel" "ticked" "I", Cond.fieldLink RX10 218 "TokenFloorModel" "lost" "I", Cond.fieldLink RX10 231 "TokenFloorModel" "strays" "I", Cond.fieldLink RX10 156 "TokenFloorModel" "clash" "I", Cond.fieldLink RX10 162 "TokenFloorModel" "colours" "I", Cond.fieldLink RX10 169 "TokenFloorModel" "pairs" "I", Cond.fieldLink RX10 237 "TokenFloorModel" "rows" "I", Cond.fieldLink RX10 240 "TokenFloorModel" "cells" "I", Cond.fieldLink RX10 242 "TokenFloorModel" "readers" "I", Cond.methodLink RX10 224 yX10_colour, Cond.instanceMethod yX10_colour, Cond.selects RX10 yX10_colour yX10_colour, Cond.code yX10_colour cX10_colour 6 (some .int), Cond.methodLink RX10 165 yX10_stops, Cond.instanceMethod yX10_stops, Cond.selects RX10 yX10_stops yX10_stops, Cond.code yX10_stops cX10_stops 3 (some .boolean), Cond.methodLink RX10 178 yX10_comes, Cond.instanceMethod yX10_comes]
def wsL_law_r24 : List Cond := [Cond.selects RX10 yX10_comes yX10_comes, Cond.code yX10_comes cX10_comes 8 (some .boolean), Cond.methodLink RX10 172 yX10_pair, Cond.instanceMethod yX10_pair, Cond.selects RX10 yX10_pair yX10_pair, Cond.code yX10_pair cX10_pair 4 (some .int), Cond.methodLink RX10 261 yX10_stepped, Cond.instanceMethod yX10_stepped, Cond.selects RX10 yX10_stepped yX10_stepped, Cond.code yX10_stepped cX10_stepped 4 none, Cond.methodLink RX10 254 yX10_goesOff, Cond.instanceMethod yX10_goesOff, Cond.selects RX10 yX10_goesOff yX10_goesOff, Cond.code yX10_goesOff cX10_goesOff 6 (some .boolean), Cond.methodLink RX10 188 yX10_passes, Cond.instanceMethod yX10_passes, Cond.selects RX10 yX10_passes yX10_passes, Cond.code yX10_passes cX10_passes 4 (some .boolean), Cond.methodLink RX10 182 yX10_gives, Cond.instanceMethod yX10_gives, Cond.selects RX10 yX10_gives yX10_gives, Cond.code yX10_gives cX10_gives 8 (some .boolean), Cond.methodLink RX10 191 yX10_number, Cond.instanceMethod yX10_number]
def wsL_law_r25 : List Cond := [Cond.selects RX10 yX10_number yX10_number, Cond.code yX10_number cX10_number 3 (some .boolean), Cond.methodLink RX10 194 yX10_switches, Cond.instanceMethod yX10_switches, Cond.selects RX10 yX10_switches yX10_switches, Cond.code yX10_switches cX10_switches 2 (some .boolean), Cond.methodLink RX10 185 yX10_kindAt, Cond.instanceMethod yX10_kindAt, Cond.selects RX10 yX10_kindAt yX10_kindAt, Cond.code yX10_kindAt cX10_kindAt 3 (some .int), Cond.methodLink RX10 221 yX10_valueAt, Cond.instanceMethod yX10_valueAt, Cond.selects RX10 yX10_valueAt yX10_valueAt, Cond.code yX10_valueAt cX10_valueAt 3 (some .int), Cond.methodLink RX10 197 yX10_loops, Cond.instanceMethod yX10_loops, Cond.selects RX10 yX10_loops yX10_loops, Cond.code yX10_loops cX10_loops 6 (some .boolean), Cond.methodLink RX10 228 yX10_faults, Cond.instanceMethod yX10_faults, Cond.selects RX10 yX10_faults yX10_faults, Cond.code yX10_faults cX10_faults 4 (some .boolean), Cond.methodLink RX10 200 yX10_calls, Cond.instanceMethod yX10_calls]
def wsL_law_r26 : List Cond := [Cond.selects RX10 yX10_calls yX10_calls, Cond.code yX10_calls cX10_calls 6 (some .boolean), Cond.methodLink RX10 203 yX10_returns, Cond.instanceMethod yX10_returns, Cond.selects RX10 yX10_returns yX10_returns, Cond.code yX10_returns cX10_returns 3 (some .boolean), Cond.methodLink RX10 206 yX10_ends, Cond.instanceMethod yX10_ends, Cond.selects RX10 yX10_ends yX10_ends, Cond.code yX10_ends cX10_ends 3 (some .boolean), Cond.methodLink RX10 209 yX10_faultOf, Cond.instanceMethod yX10_faultOf, Cond.selects RX10 yX10_faultOf yX10_faultOf, Cond.code yX10_faultOf cX10_faultOf 4 (some .int), Cond.methodLink RX10 212 yX10_reckons, Cond.instanceMethod yX10_reckons, Cond.selects RX10 yX10_reckons yX10_reckons, Cond.code yX10_reckons cX10_reckons 8 (some .boolean), Cond.methodLink RX10 234 yX10_makes, Cond.instanceMethod yX10_makes, Cond.selects RX10 yX10_makes yX10_makes, Cond.code yX10_makes cX10_makes 4 (some .boolean), Cond.methodLink RX10 215 yX10_cells, Cond.instanceMethod yX10_cells]
def wsL_law_r27 : List Cond := [Cond.selects RX10 yX10_cells yX10_cells, Cond.code yX10_cells cX10_cells 10 (some .boolean), Cond.methodLink RL 37 yX9_ticks, Cond.instanceMethod yX9_ticks, Cond.selects RX9 yX9_ticks yX9_ticks, Cond.code yX9_ticks cX9_ticks 2 (some .int), Cond.methodLink RX9 64 yX4_goByTicks, Cond.instanceMethod yX4_goByTicks, Cond.selects RX4 yX4_goByTicks yX4_goByTicks, Cond.code yX4_goByTicks cX4_goByTicks 3 (some .int), Cond.methodLink RX4 81 yX4_goTick, Cond.instanceMethod yX4_goTick, Cond.selects RX4 yX4_goTick yX4_goTick, Cond.code yX4_goTick cX4_goTick 4 none, Cond.methodLink RX4 164 Lib.Math.max.name, Cond.static Lib.Math.max.name, Cond.initialized "java/lang/Math", Cond.code Lib.Math.max.name Lib.Math.max.code 2 (some .int), Cond.methodLink RL 41 yX10_ticks, Cond.instanceMethod yX10_ticks, Cond.selects RX10 yX10_ticks yX10_ticks, Cond.code yX10_ticks cX10_ticks 5 (some .int), Cond.methodLink RL 42 yX9_about, Cond.instanceMethod yX9_about]
def wsL_law_r28 : List Cond := [Cond.selects RX9 yX9_about yX9_about, Cond.code yX9_about cX9_about 2 (some .int), Cond.methodLink RX9 68 yX4_figure, Cond.instanceMethod yX4_figure, Cond.selects RX4 yX4_figure yX4_figure, Cond.code yX4_figure cX4_figure 2 (some .int), Cond.fieldLink RX4 87 "TokenFloor$Floor" "left" "I", Cond.fieldLink RX4 90 "TokenFloor$Store" "waiting" "I", Cond.fieldLink RX4 99 "TokenFloor$Colours" "count" "I", Cond.methodLink RL 45 yX10_about, Cond.instanceMethod yX10_about, Cond.selects RX10 yX10_about yX10_about, Cond.code yX10_about cX10_about 2 (some .int), Cond.methodLink RX10 265 yX10_left, Cond.instanceMethod yX10_left, Cond.selects RX10 yX10_left yX10_left, Cond.code yX10_left cX10_left 4 (some .int), Cond.methodLink RX10 269 yX10_waiting, Cond.instanceMethod yX10_waiting, Cond.selects RX10 yX10_waiting yX10_waiting, Cond.code yX10_waiting cX10_waiting 3 (some .int), Cond.methodLink RL 46 yX9_end, Cond.instanceMethod yX9_end, Cond.selects RX9 yX9_end yX9_end]
def wsL_law_r29 : List Cond := [Cond.code yX9_end cX9_end 3 (some .int), Cond.fieldLink RX9 71 "TokenFloor$Machine" "ends" "[J", Cond.methodLink RX9 74 yX4_describe, Cond.instanceMethod yX4_describe, Cond.selects RX4 yX4_describe yX4_describe, Cond.code yX4_describe cX4_describe 6 (some .int), Cond.methodLink RX4 117 yX8_actOf, Cond.static yX8_actOf, Cond.code yX8_actOf cX8_actOf 2 (some .int), Cond.methodLink RL 49 yX10_end, Cond.instanceMethod yX10_end, Cond.selects RX10 yX10_end yX10_end, Cond.code yX10_end cX10_end 3 (some .int), Cond.methodLink RX10 272 yX10_told1, Cond.instanceMethod yX10_told1, Cond.selects RX10 yX10_told1 yX10_told1, Cond.code yX10_told1 cX10_told1 5 (some .int), Cond.methodLink RL 50 yX9_fired, Cond.instanceMethod yX9_fired, Cond.selects RX9 yX9_fired yX9_fired, Cond.code yX9_fired cX9_fired 2 (some .int), Cond.fieldLink RX9 81 "TokenFloor$Machine" "firings" "[I", Cond.methodLink RX9 78 yX2_hasAct, Cond.methodLink RL 53 yX10_fired]
def wsL_law_r30 : List Cond := [Cond.instanceMethod yX10_fired, Cond.selects RX10 yX10_fired yX10_fired, Cond.code yX10_fired cX10_fired 2 (some .int), Cond.methodLink RL 54 yX9_cell, Cond.instanceMethod yX9_cell, Cond.selects RX9 yX9_cell yX9_cell, Cond.code yX9_cell cX9_cell 5 (some .int), Cond.fieldLink RX9 85 "TokenFloor$Machine" "store" "LTokenFloor$Store;", Cond.fieldLink RX9 89 "TokenFloor$Store" "rowOfAct" "[I", Cond.fieldLink RX9 97 "TokenFloor$Store" "written" "[J", Cond.methodLink RX9 94 yX6_placeIn, Cond.methodLink RL 57 yX10_cell, Cond.instanceMethod yX10_cell, Cond.selects RX10 yX10_cell yX10_cell, Cond.code yX10_cell cX10_cell 6 (some .int), Cond.methodLink RL 58 yX9_told, Cond.instanceMethod yX9_told, Cond.selects RX9 yX9_told yX9_told, Cond.code yX9_told cX9_told 3 (some .int), Cond.fieldLink RX9 100 "TokenFloor$Graph" "kind" "[I", Cond.fieldLink RX9 103 "TokenFloor$Graph" "number" "[I", Cond.fieldLink RX9 106 "TokenFloor$Graph" "ports" "[I", Cond.methodLink RX9 109 yX2_countWays, Cond.instanceMethod yX2_countWays]
def wsL_law_r31 : List Cond := [Cond.selects RX2 yX2_countWays yX2_countWays, Cond.code yX2_countWays cX2_countWays 5 (some .int), Cond.methodLink RX2 90 yX2_firstWayOf, Cond.methodLink RX9 112 yX2_countTokens, Cond.instanceMethod yX2_countTokens, Cond.selects RX2 yX2_countTokens yX2_countTokens, Cond.code yX2_countTokens cX2_countTokens 4 (some .int), Cond.methodLink RL 61 yX10_told, Cond.instanceMethod yX10_told, Cond.selects RX10 yX10_told yX10_told, Cond.code yX10_told cX10_told 5 (some .int), Cond.methodLink RL 62 yX9_beside, Cond.instanceMethod yX9_beside, Cond.selects RX9 yX9_beside yX9_beside, Cond.code yX9_beside cX9_beside 6 (some .int), Cond.methodLink RX9 115 yX4_copyFigures, Cond.instanceMethod yX4_copyFigures, Cond.selects RX4 yX4_copyFigures yX4_copyFigures, Cond.code yX4_copyFigures cX4_copyFigures 3 none, Cond.methodLink RX4 120 yX4_comparable, Cond.instanceMethod yX4_comparable, Cond.selects RX4 yX4_comparable yX4_comparable, Cond.code yX4_comparable cX4_comparable 3 (some .long), Cond.methodLink RX9 119 yX9_firstDifference]
def wsL_law_r32 : List Cond := [Cond.instanceMethod yX9_firstDifference, Cond.selects RX9 yX9_firstDifference yX9_firstDifference, Cond.code yX9_firstDifference cX9_firstDifference 2 (some .int), Cond.methodLink RL 65 yX10_beside, Cond.instanceMethod yX10_beside, Cond.selects RX10 yX10_beside yX10_beside, Cond.code yX10_beside cX10_beside 5 (some .int), Cond.methodLink RX10 278 yX10_run, Cond.methodLink RX10 281 yX10_notes, Cond.instanceMethod yX10_notes, Cond.selects RX10 yX10_notes yX10_notes, Cond.code yX10_notes cX10_notes 4 none, Cond.methodLink RX10 275 yX10_end]
def wsL_law : List Cond := (wsL_law_r1 ++ (wsL_law_r2 ++ (wsL_law_r3 ++ (wsL_law_r4 ++ (wsL_law_r5 ++ (wsL_law_r6 ++ (wsL_law_r7 ++ (wsL_law_r8 ++ (wsL_law_r9 ++ (wsL_law_r10 ++ (wsL_law_r11 ++ (wsL_law_r12 ++ (wsL_law_r13 ++ (wsL_law_r14 ++ (wsL_law_r15 ++ (wsL_law_r16 ++ (wsL_law_r17 ++ (wsL_law_r18 ++ (wsL_law_r19 ++ (wsL_law_r20 ++ (wsL_law_r21 ++ (wsL_law_r22 ++ (wsL_law_r23 ++ (wsL_law_r24 ++ (wsL_law_r25 ++ (wsL_law_r26 ++ (wsL_law_r27 ++ (wsL_law_r28 ++ (wsL_law_r29 ++ (wsL_law_r30 ++ (wsL_law_r31 ++ wsL_law_r32))))))))))))))))))))))))))))))) ++ wsX90 ++ wsX100 ++ wsX20 ++ wsX40 ++ wsX60 ++ wsX00 ++ wsX10 ++ wsX50 ++ ([] : List Cond)
abbrev vwCl : List vw_C := [(RX0, TX0, 6), (RX1, TX1, 8), (RX2, TX2, 15), (RX4, TX4, 14), (RX5, TX5, 3), (RX6, TX6, 10), (RX9, TX9, 5), (RX10, TX10, 57)]
end
section
theorem dX0_init_0 : decode cX0_init 0 = .ok (.aload_n 0, 1) := by decide +kernel
theorem dX0_init_1 : decode cX0_init 1 = .ok (.invokespecial 5, 3) := by decide +kernel
theorem dX0_init_4 : decode cX0_init 4 = .ok (.aload_n 0, 1) := by decide +kernel
theorem dX0_init_5 : decode cX0_init 5 = .ok (.sipush 600, 3) := by decide +kernel
theorem dX0_init_8 : decode cX0_init 8 = .ok (.newarray .int, 2) := by decide +kernel
theorem dX0_init_10 : decode cX0_init 10 = .ok (.putfield 11, 3) := by decide +kernel
theorem dX0_init_13 : decode cX0_init 13 = .ok (.aload_n 0, 1) := by decide +kernel
theorem dX0_init_14 : decode cX0_init 14 = .ok (.sipush 600, 3) := by decide +kernel
theorem dX0_init_17 : decode cX0_init 17 = .ok (.newarray .int, 2) := by decide +kernel
theorem dX0_init_19 : decode cX0_init 19 = .ok (.putfield 15, 3) := by decide +kernel
theorem dX0_init_22 : decode cX0_init 22 = .ok (.aload_n 0, 1) := by decide +kernel
theorem dX0_init_23 : decode cX0_init 23 = .ok (.sipush 600, 3) := by decide +kernel
theorem dX0_init_26 : decode cX0_init 26 = .ok (.newarray .int, 2) := by decide +kernel
theorem dX0_init_28 : decode cX0_init 28 = .ok (.putfield 18, 3) := by decide +kernel
theorem dX0_init_31 : decode cX0_init 31 = .ok (.aload_n 0, 1) := by decide +kernel
theorem dX0_init_32 : decode cX0_init 32 = .ok (.sipush 600, 3) := by decide +kernel
theorem dX0_init_35 : decode cX0_init 35 = .ok (.newarray .int, 2) := by decide +kernel
theorem dX0_init_37 : decode cX0_init 37 = .ok (.putfield 21, 3) := by decide +kernel
theorem dX0_init_40 : decode cX0_init 40 = .ok (.aload_n 0, 1) := by decide +kernel
theorem dX0_init_41 : decode cX0_init 41 = .ok (.sipush 600, 3) := by decide +kernel
theorem dX0_init_44 : decode cX0_init 44 = .ok (.newarray .int, 2) := by decide +kernel
theorem dX0_init_46 : decode cX0_init 46 = .ok (.putfield 24, 3) := by decide +kernel
theorem dX0_init_49 : decode cX0_init 49 = .ok (.return_, 1) := by decide +kernel
set_option maxRecDepth 20000 in
theorem ggX0_reset_X0_add : GoodIn wsX0_reset wsX0_add := goodIn_r _ [6, 1, 7, 8, 9, 10, 11, 12, 13, 14, 15, 16, 17] (by decide +kernel) (by decide +kernel)
set_option maxRecDepth 20000 in
theorem gX0_reset_X0_add : GoodIn wsX0_reset (wsV RX0 31 RX0 yX0_add wsX0_add) := goodIn_app (goodIn_of _ (by decide +kernel)) ggX0_reset_X0_add
theorem dX0_reset_0 : decode cX0_reset 0 = .ok (.aload_n 0, 1) := by decide +kernel
theorem dX0_reset_1 : decode cX0_reset 1 = .ok (.iconst 0, 1) := by decide +kernel
theorem dX0_reset_2 : decode cX0_reset 2 = .ok (.putfield 27, 3) := by decide +kernel
theorem dX0_reset_5 : decode cX0_reset 5 = .ok (.aload_n 0, 1) := by decide +kernel
theorem dX0_reset_6 : decode cX0_reset 6 = .ok (.iconst (-1), 1) := by decide +kernel
theorem dX0_reset_7 : decode cX0_reset 7 = .ok (.iconst (-1), 1) := by decide +kernel
theorem dX0_reset_8 : decode cX0_reset 8 = .ok (.iconst (-1), 1) := by decide +kernel
theorem dX0_reset_9 : decode cX0_reset 9 = .ok (.invokevirtual 31, 3) := by decide +kernel
theorem dX0_reset_12 : decode cX0_reset 12 = .ok (.pop, 1) := by decide +kernel
theorem dX0_reset_13 : decode cX0_reset 13 = .ok (.return_, 1) := by decide +kernel
set_option maxRecDepth 20000 in
theorem ggX0_enter_X0_reach : GoodIn wsX0_enter wsX0_reach := goodIn_r _ [5, 6, 7, 8, 9, 10, 11, 12, 4, 13, 14, 15, 16, 17, 18, 19, 20, 21] (by decide +kernel) (by decide +kernel)
set_option maxRecDepth 20000 in
theorem gX0_enter_X0_reach : GoodIn wsX0_enter (wsV RX0 35 RX0 yX0_reach wsX0_reach) := goodIn_app (goodIn_of _ (by decide +kernel)) ggX0_enter_X0_reach
theorem dX0_enter_0 : decode cX0_enter 0 = .ok (.aload_n 0, 1) := by decide +kernel
theorem dX0_enter_1 : decode cX0_enter 1 = .ok (.iload_n 1, 1) := by decide +kernel
theorem dX0_enter_2 : decode cX0_enter 2 = .ok (.iload_n 2, 1) := by decide +kernel
theorem dX0_enter_3 : decode cX0_enter 3 = .ok (.iload_n 2, 1) := by decide +kernel
theorem dX0_enter_4 : decode cX0_enter 4 = .ok (.iload_n 1, 1) := by decide +kernel
theorem dX0_enter_5 : decode cX0_enter 5 = .ok (.invokevirtual 35, 3) := by decide +kernel
theorem dX0_enter_8 : decode cX0_enter 8 = .ok (.ireturn, 1) := by decide +kernel
set_option maxRecDepth 20000 in
theorem ggX0_nextTurn_X0_reach : GoodIn wsX0_nextTurn wsX0_reach := goodIn_r _ [7, 8, 9, 10, 11, 12, 13, 14, 6, 15, 1, 2, 16, 17, 18, 19, 20, 21] (by decide +kernel) (by decide +kernel)
set_option maxRecDepth 20000 in
theorem gX0_nextTurn_X0_reach : GoodIn wsX0_nextTurn (wsV RX0 35 RX0 yX0_reach wsX0_reach) := goodIn_app (goodIn_of _ (by decide +kernel)) ggX0_nextTurn_X0_reach
theorem dX0_nextTurn_0 : decode cX0_nextTurn 0 = .ok (.aload_n 0, 1) := by decide +kernel
theorem dX0_nextTurn_1 : decode cX0_nextTurn 1 = .ok (.iload_n 1, 1) := by decide +kernel
theorem dX0_nextTurn_2 : decode cX0_nextTurn 2 = .ok (.bipush 90, 2) := by decide +kernel
theorem dX0_nextTurn_4 : decode cX0_nextTurn 4 = .ok (.aload_n 0, 1) := by decide +kernel
theorem dX0_nextTurn_5 : decode cX0_nextTurn 5 = .ok (.getfield 11, 3) := by decide +kernel
theorem dX0_nextTurn_8 : decode cX0_nextTurn 8 = .ok (.iload_n 1, 1) := by decide +kernel
theorem dX0_nextTurn_9 : decode cX0_nextTurn 9 = .ok (.iaload, 1) := by decide +kernel
theorem dX0_nextTurn_10 : decode cX0_nextTurn 10 = .ok (.aload_n 0, 1) := by decide +kernel
theorem dX0_nextTurn_11 : decode cX0_nextTurn 11 = .ok (.getfield 15, 3) := by decide +kernel
theorem dX0_nextTurn_14 : decode cX0_nextTurn 14 = .ok (.iload_n 1, 1) := by decide +kernel
theorem dX0_nextTurn_15 : decode cX0_nextTurn 15 = .ok (.iaload, 1) := by decide +kernel
theorem dX0_nextTurn_16 : decode cX0_nextTurn 16 = .ok (.invokevirtual 35, 3) := by decide +kernel
theorem dX0_nextTurn_19 : decode cX0_nextTurn 19 = .ok (.ireturn, 1) := by decide +kernel
set_option maxRecDepth 20000 in
theorem ggX0_callBy_X0_reach : GoodIn wsX0_callBy wsX0_reach := goodIn_r _ [5, 6, 7, 8, 9, 10, 11, 12, 4, 13, 14, 15, 16, 17, 18, 19, 20, 21] (by decide +kernel) (by decide +kernel)
set_option maxRecDepth 20000 in
theorem gX0_callBy_X0_reach : GoodIn wsX0_callBy (wsV RX0 35 RX0 yX0_reach wsX0_reach) := goodIn_app (goodIn_of _ (by decide +kernel)) ggX0_callBy_X0_reach
theorem dX0_callBy_0 : decode cX0_callBy 0 = .ok (.aload_n 0, 1) := by decide +kernel
theorem dX0_callBy_1 : decode cX0_callBy 1 = .ok (.iload_n 1, 1) := by decide +kernel
theorem dX0_callBy_2 : decode cX0_callBy 2 = .ok (.bipush 10, 2) := by decide +kernel
theorem dX0_callBy_4 : decode cX0_callBy 4 = .ok (.iload_n 2, 1) := by decide +kernel
theorem dX0_callBy_5 : decode cX0_callBy 5 = .ok (.iadd, 1) := by decide +kernel
theorem dX0_callBy_6 : decode cX0_callBy 6 = .ok (.bipush 10, 2) := by decide +kernel
theorem dX0_callBy_8 : decode cX0_callBy 8 = .ok (.iload_n 2, 1) := by decide +kernel
theorem dX0_callBy_9 : decode cX0_callBy 9 = .ok (.iadd, 1) := by decide +kernel
theorem dX0_callBy_10 : decode cX0_callBy 10 = .ok (.iload_n 1, 1) := by decide +kernel
theorem dX0_callBy_11 : decode cX0_callBy 11 = .ok (.invokevirtual 35, 3) := by decide +kernel
theorem dX0_callBy_14 : decode cX0_callBy 14 = .ok (.ireturn, 1) := by decide +kernel
theorem dX0_isTurnOf_0 : decode cX0_isTurnOf 0 = .ok (.aload_n 0, 1) := by decide +kernel
theorem dX0_isTurnOf_1 : decode cX0_isTurnOf 1 = .ok (.getfield 11, 3) := by decide +kernel
theorem dX0_isTurnOf_4 : decode cX0_isTurnOf 4 = .ok (.iload_n 1, 1) := by decide +kernel
theorem dX0_isTurnOf_5 : decode cX0_isTurnOf 5 = .ok (.iaload, 1) := by decide +kernel
theorem dX0_isTurnOf_6 : decode cX0_isTurnOf 6 = .ok (.iload_n 2, 1) := by decide +kernel
theorem dX0_isTurnOf_7 : decode cX0_isTurnOf 7 = .ok (.if_icmp .ne 7, 3) := by decide +kernel
theorem dX0_isTurnOf_10 : decode cX0_isTurnOf 10 = .ok (.iconst 1, 1) := by decide +kernel
theorem dX0_isTurnOf_11 : decode cX0_isTurnOf 11 = .ok (.goto 4, 3) := by decide +kernel
theorem dX0_isTurnOf_14 : decode cX0_isTurnOf 14 = .ok (.iconst 0, 1) := by decide +kernel
theorem dX0_isTurnOf_15 : decode cX0_isTurnOf 15 = .ok (.ireturn, 1) := by decide +kernel
theorem dX0_outerOf_0 : decode cX0_outerOf 0 = .ok (.aload_n 0, 1) := by decide +kernel
theorem dX0_outerOf_1 : decode cX0_outerOf 1 = .ok (.getfield 15, 3) := by decide +kernel
theorem dX0_outerOf_4 : decode cX0_outerOf 4 = .ok (.iload_n 1, 1) := by decide +kernel
theorem dX0_outerOf_5 : decode cX0_outerOf 5 = .ok (.iaload, 1) := by decide +kernel
theorem dX0_outerOf_6 : decode cX0_outerOf 6 = .ok (.ireturn, 1) := by decide +kernel
theorem dX0_callerOf_0 : decode cX0_callerOf 0 = .ok (.aload_n 0, 1) := by decide +kernel
theorem dX0_callerOf_1 : decode cX0_callerOf 1 = .ok (.getfield 11, 3) := by decide +kernel
theorem dX0_callerOf_4 : decode cX0_callerOf 4 = .ok (.iload_n 1, 1) := by decide +kernel
theorem dX0_callerOf_5 : decode cX0_callerOf 5 = .ok (.iaload, 1) := by decide +kernel
theorem dX0_callerOf_6 : decode cX0_callerOf 6 = .ok (.bipush 10, 2) := by decide +kernel
theorem dX0_callerOf_8 : decode cX0_callerOf 8 = .ok (.if_icmp .lt 15, 3) := by decide +kernel
theorem dX0_callerOf_11 : decode cX0_callerOf 11 = .ok (.aload_n 0, 1) := by decide +kernel
theorem dX0_callerOf_12 : decode cX0_callerOf 12 = .ok (.getfield 11, 3) := by decide +kernel
theorem dX0_callerOf_15 : decode cX0_callerOf 15 = .ok (.iload_n 1, 1) := by decide +kernel
theorem dX0_callerOf_16 : decode cX0_callerOf 16 = .ok (.iaload, 1) := by decide +kernel
theorem dX0_callerOf_17 : decode cX0_callerOf 17 = .ok (.bipush 10, 2) := by decide +kernel
theorem dX0_callerOf_19 : decode cX0_callerOf 19 = .ok (.isub, 1) := by decide +kernel
theorem dX0_callerOf_20 : decode cX0_callerOf 20 = .ok (.goto 4, 3) := by decide +kernel
theorem dX0_callerOf_23 : decode cX0_callerOf 23 = .ok (.iconst (-1), 1) := by decide +kernel
theorem dX0_callerOf_24 : decode cX0_callerOf 24 = .ok (.ireturn, 1) := by decide +kernel
set_option maxRecDepth 20000 in
theorem ggX0_reach_X0_add : GoodIn wsX0_reach wsX0_add := goodIn_r _ [9, 4, 2, 10, 11, 1, 3, 12, 13, 14, 15, 16, 17] (by decide +kernel) (by decide +kernel)
set_option maxRecDepth 20000 in
theorem gX0_reach_X0_add : GoodIn wsX0_reach (wsV RX0 31 RX0 yX0_add wsX0_add) := goodIn_app (goodIn_of _ (by decide +kernel)) ggX0_reach_X0_add
theorem dX0_reach_0 : decode cX0_reach 0 = .ok (.aload_n 0, 1) := by decide +kernel
theorem dX0_reach_1 : decode cX0_reach 1 = .ok (.getfield 21, 3) := by decide +kernel
theorem dX0_reach_4 : decode cX0_reach 4 = .ok (.iload_n 1, 1) := by decide +kernel
theorem dX0_reach_5 : decode cX0_reach 5 = .ok (.iaload, 1) := by decide +kernel
theorem dX0_reach_6 : decode cX0_reach 6 = .ok (.istore 5, 2) := by decide +kernel
theorem dX0_reach_8 : decode cX0_reach 8 = .ok (.iconst 0, 1) := by decide +kernel
theorem dX0_reach_9 : decode cX0_reach 9 = .ok (.istore 6, 2) := by decide +kernel
theorem dX0_reach_11 : decode cX0_reach 11 = .ok (.iload 6, 2) := by decide +kernel
theorem dX0_reach_13 : decode cX0_reach 13 = .ok (.sipush 600, 3) := by decide +kernel
theorem dX0_reach_16 : decode cX0_reach 16 = .ok (.if_icmp .ge 38, 3) := by decide +kernel
theorem dX0_reach_19 : decode cX0_reach 19 = .ok (.iload 5, 2) := by decide +kernel
theorem dX0_reach_21 : decode cX0_reach 21 = .ok (.iconst (-1), 1) := by decide +kernel
theorem dX0_reach_22 : decode cX0_reach 22 = .ok (.if_icmp .eq 32, 3) := by decide +kernel
theorem dX0_reach_25 : decode cX0_reach 25 = .ok (.aload_n 0, 1) := by decide +kernel
theorem dX0_reach_26 : decode cX0_reach 26 = .ok (.getfield 18, 3) := by decide +kernel
theorem dX0_reach_29 : decode cX0_reach 29 = .ok (.iload 5, 2) := by decide +kernel
theorem dX0_reach_31 : decode cX0_reach 31 = .ok (.iaload, 1) := by decide +kernel
theorem dX0_reach_32 : decode cX0_reach 32 = .ok (.iload_n 2, 1) := by decide +kernel
theorem dX0_reach_33 : decode cX0_reach 33 = .ok (.if_icmp .ne 6, 3) := by decide +kernel
theorem dX0_reach_36 : decode cX0_reach 36 = .ok (.iload 5, 2) := by decide +kernel
theorem dX0_reach_38 : decode cX0_reach 38 = .ok (.ireturn, 1) := by decide +kernel
theorem dX0_reach_39 : decode cX0_reach 39 = .ok (.aload_n 0, 1) := by decide +kernel
theorem dX0_reach_40 : decode cX0_reach 40 = .ok (.getfield 24, 3) := by decide +kernel
theorem dX0_reach_43 : decode cX0_reach 43 = .ok (.iload 5, 2) := by decide +kernel
theorem dX0_reach_45 : decode cX0_reach 45 = .ok (.iaload, 1) := by decide +kernel
theorem dX0_reach_46 : decode cX0_reach 46 = .ok (.istore 5, 2) := by decide +kernel
theorem dX0_reach_48 : decode cX0_reach 48 = .ok (.iinc 6 1, 3) := by decide +kernel
theorem dX0_reach_51 : decode cX0_reach 51 = .ok (.goto (-40), 3) := by decide +kernel
theorem dX0_reach_54 : decode cX0_reach 54 = .ok (.aload_n 0, 1) := by decide +kernel
theorem dX0_reach_55 : decode cX0_reach 55 = .ok (.getfield 27, 3) := by decide +kernel
theorem dX0_reach_58 : decode cX0_reach 58 = .ok (.sipush 600, 3) := by decide +kernel
theorem dX0_reach_61 : decode cX0_reach 61 = .ok (.if_icmp .lt 5, 3) := by decide +kernel
theorem dX0_reach_64 : decode cX0_reach 64 = .ok (.iconst (-1), 1) := by decide +kernel
theorem dX0_reach_65 : decode cX0_reach 65 = .ok (.ireturn, 1) := by decide +kernel
theorem dX0_reach_66 : decode cX0_reach 66 = .ok (.aload_n 0, 1) := by decide +kernel
theorem dX0_reach_67 : decode cX0_reach 67 = .ok (.iload_n 2, 1) := by decide +kernel
theorem dX0_reach_68 : decode cX0_reach 68 = .ok (.iload_n 3, 1) := by decide +kernel
theorem dX0_reach_69 : decode cX0_reach 69 = .ok (.iload 4, 2) := by decide +kernel
theorem dX0_reach_71 : decode cX0_reach 71 = .ok (.invokevirtual 31, 3) := by decide +kernel
theorem dX0_reach_74 : decode cX0_reach 74 = .ok (.istore 6, 2) := by decide +kernel
theorem dX0_reach_76 : decode cX0_reach 76 = .ok (.aload_n 0, 1) := by decide +kernel
theorem dX0_reach_77 : decode cX0_reach 77 = .ok (.getfield 24, 3) := by decide +kernel
theorem dX0_reach_80 : decode cX0_reach 80 = .ok (.iload 6, 2) := by decide +kernel
theorem dX0_reach_82 : decode cX0_reach 82 = .ok (.aload_n 0, 1) := by decide +kernel
theorem dX0_reach_83 : decode cX0_reach 83 = .ok (.getfield 21, 3) := by decide +kernel
theorem dX0_reach_86 : decode cX0_reach 86 = .ok (.iload_n 1, 1) := by decide +kernel
theorem dX0_reach_87 : decode cX0_reach 87 = .ok (.iaload, 1) := by decide +kernel
theorem dX0_reach_88 : decode cX0_reach 88 = .ok (.iastore, 1) := by decide +kernel
theorem dX0_reach_89 : decode cX0_reach 89 = .ok (.aload_n 0, 1) := by decide +kernel
theorem dX0_reach_90 : decode cX0_reach 90 = .ok (.getfield 21, 3) := by decide +kernel
theorem dX0_reach_93 : decode cX0_reach 93 = .ok (.iload_n 1, 1) := by decide +kernel
theorem dX0_reach_94 : decode cX0_reach 94 = .ok (.iload 6, 2) := by decide +kernel
theorem dX0_reach_96 : decode cX0_reach 96 = .ok (.iastore, 1) := by decide +kernel
theorem dX0_reach_97 : decode cX0_reach 97 = .ok (.iload 6, 2) := by decide +kernel
theorem dX0_reach_99 : decode cX0_reach 99 = .ok (.ireturn, 1) := by decide +kernel
theorem dX0_add_0 : decode cX0_add 0 = .ok (.aload_n 0, 1) := by decide +kernel
theorem dX0_add_1 : decode cX0_add 1 = .ok (.getfield 27, 3) := by decide +kernel
theorem dX0_add_4 : decode cX0_add 4 = .ok (.istore 4, 2) := by decide +kernel
theorem dX0_add_6 : decode cX0_add 6 = .ok (.aload_n 0, 1) := by decide +kernel
theorem dX0_add_7 : decode cX0_add 7 = .ok (.dup, 1) := by decide +kernel
theorem dX0_add_8 : decode cX0_add 8 = .ok (.getfield 27, 3) := by decide +kernel
theorem dX0_add_11 : decode cX0_add 11 = .ok (.iconst 1, 1) := by decide +kernel
theorem dX0_add_12 : decode cX0_add 12 = .ok (.iadd, 1) := by decide +kernel
theorem dX0_add_13 : decode cX0_add 13 = .ok (.putfield 27, 3) := by decide +kernel
theorem dX0_add_16 : decode cX0_add 16 = .ok (.aload_n 0, 1) := by decide +kernel
theorem dX0_add_17 : decode cX0_add 17 = .ok (.getfield 18, 3) := by decide +kernel
theorem dX0_add_20 : decode cX0_add 20 = .ok (.iload 4, 2) := by decide +kernel
theorem dX0_add_22 : decode cX0_add 22 = .ok (.iload_n 1, 1) := by decide +kernel
theorem dX0_add_23 : decode cX0_add 23 = .ok (.iastore, 1) := by decide +kernel
theorem dX0_add_24 : decode cX0_add 24 = .ok (.aload_n 0, 1) := by decide +kernel
theorem dX0_add_25 : decode cX0_add 25 = .ok (.getfield 11, 3) := by decide +kernel
theorem dX0_add_28 : decode cX0_add 28 = .ok (.iload 4, 2) := by decide +kernel
theorem dX0_add_30 : decode cX0_add 30 = .ok (.iload_n 2, 1) := by decide +kernel
theorem dX0_add_31 : decode cX0_add 31 = .ok (.iastore, 1) := by decide +kernel
theorem dX0_add_32 : decode cX0_add 32 = .ok (.aload_n 0, 1) := by decide +kernel
theorem dX0_add_33 : decode cX0_add 33 = .ok (.getfield 15, 3) := by decide +kernel
theorem dX0_add_36 : decode cX0_add 36 = .ok (.iload 4, 2) := by decide +kernel
theorem dX0_add_38 : decode cX0_add 38 = .ok (.iload_n 3, 1) := by decide +kernel
theorem dX0_add_39 : decode cX0_add 39 = .ok (.iastore, 1) := by decide +kernel
theorem dX0_add_40 : decode cX0_add 40 = .ok (.aload_n 0, 1) := by decide +kernel
theorem dX0_add_41 : decode cX0_add 41 = .ok (.getfield 21, 3) := by decide +kernel
theorem dX0_add_44 : decode cX0_add 44 = .ok (.iload 4, 2) := by decide +kernel
theorem dX0_add_46 : decode cX0_add 46 = .ok (.iconst (-1), 1) := by decide +kernel
theorem dX0_add_47 : decode cX0_add 47 = .ok (.iastore, 1) := by decide +kernel
theorem dX0_add_48 : decode cX0_add 48 = .ok (.aload_n 0, 1) := by decide +kernel
theorem dX0_add_49 : decode cX0_add 49 = .ok (.getfield 24, 3) := by decide +kernel
theorem dX0_add_52 : decode cX0_add 52 = .ok (.iload 4, 2) := by decide +kernel
theorem dX0_add_54 : decode cX0_add 54 = .ok (.iconst (-1), 1) := by decide +kernel
theorem dX0_add_55 : decode cX0_add 55 = .ok (.iastore, 1) := by decide +kernel
theorem dX0_add_56 : decode cX0_add 56 = .ok (.iload 4, 2) := by decide +kernel
theorem dX0_add_58 : decode cX0_add 58 = .ok (.ireturn, 1) := by decide +kernel
theorem dX1_init_0 : decode cX1_init 0 = .ok (.aload_n 0, 1) := by decide +kernel
theorem dX1_init_1 : decode cX1_init 1 = .ok (.invokespecial 3, 3) := by decide +kernel
theorem dX1_init_4 : decode cX1_init 4 = .ok (.aload_n 0, 1) := by decide +kernel
theorem dX1_init_5 : decode cX1_init 5 = .ok (.sipush 3000, 3) := by decide +kernel
theorem dX1_init_8 : decode cX1_init 8 = .ok (.newarray .int, 2) := by decide +kernel
theorem dX1_init_10 : decode cX1_init 10 = .ok (.putfield 9, 3) := by decide +kernel
theorem dX1_init_13 : decode cX1_init 13 = .ok (.aload_n 0, 1) := by decide +kernel
theorem dX1_init_14 : decode cX1_init 14 = .ok (.sipush 3000, 3) := by decide +kernel
theorem dX1_init_17 : decode cX1_init 17 = .ok (.newarray .int, 2) := by decide +kernel
theorem dX1_init_19 : decode cX1_init 19 = .ok (.putfield 15, 3) := by decide +kernel
theorem dX1_init_22 : decode cX1_init 22 = .ok (.aload_n 0, 1) := by decide +kernel
theorem dX1_init_23 : decode cX1_init 23 = .ok (.sipush 3000, 3) := by decide +kernel
theorem dX1_init_26 : decode cX1_init 26 = .ok (.newarray .int, 2) := by decide +kernel
theorem dX1_init_28 : decode cX1_init 28 = .ok (.putfield 18, 3) := by decide +kernel
theorem dX1_init_31 : decode cX1_init 31 = .ok (.aload_n 0, 1) := by decide +kernel
theorem dX1_init_32 : decode cX1_init 32 = .ok (.sipush 9000, 3) := by decide +kernel
theorem dX1_init_35 : decode cX1_init 35 = .ok (.newarray .long, 2) := by decide +kernel
theorem dX1_init_37 : decode cX1_init 37 = .ok (.putfield 21, 3) := by decide +kernel
theorem dX1_init_40 : decode cX1_init 40 = .ok (.aload_n 0, 1) := by decide +kernel
theorem dX1_init_41 : decode cX1_init 41 = .ok (.sipush 600, 3) := by decide +kernel
theorem dX1_init_44 : decode cX1_init 44 = .ok (.newarray .int, 2) := by decide +kernel
theorem dX1_init_46 : decode cX1_init 46 = .ok (.putfield 25, 3) := by decide +kernel
theorem dX1_init_49 : decode cX1_init 49 = .ok (.aload_n 0, 1) := by decide +kernel
theorem dX1_init_50 : decode cX1_init 50 = .ok (.sipush 3000, 3) := by decide +kernel
theorem dX1_init_53 : decode cX1_init 53 = .ok (.newarray .int, 2) := by decide +kernel
theorem dX1_init_55 : decode cX1_init 55 = .ok (.putfield 28, 3) := by decide +kernel
theorem dX1_init_58 : decode cX1_init 58 = .ok (.return_, 1) := by decide +kernel
set_option maxRecDepth 20000 in
theorem ggX1_reset_J7_fill_53178 : GoodIn wsX1_reset wsJ7_fill_53178 := goodIn_r _ [7] (by decide +kernel) (by decide +kernel)
set_option maxRecDepth 20000 in
theorem gX1_reset_J7_fill_53178 : GoodIn wsX1_reset (va_wsS RX1 38 yJ7_fill_53178 wsJ7_fill_53178) := goodIn_app (goodIn_of _ (by decide +kernel)) ggX1_reset_J7_fill_53178
theorem dX1_reset_0 : decode cX1_reset 0 = .ok (.aload_n 0, 1) := by decide +kernel
theorem dX1_reset_1 : decode cX1_reset 1 = .ok (.iconst 0, 1) := by decide +kernel
theorem dX1_reset_2 : decode cX1_reset 2 = .ok (.putfield 31, 3) := by decide +kernel
theorem dX1_reset_5 : decode cX1_reset 5 = .ok (.aload_n 0, 1) := by decide +kernel
theorem dX1_reset_6 : decode cX1_reset 6 = .ok (.iconst 0, 1) := by decide +kernel
theorem dX1_reset_7 : decode cX1_reset 7 = .ok (.putfield 35, 3) := by decide +kernel
theorem dX1_reset_10 : decode cX1_reset 10 = .ok (.aload_n 0, 1) := by decide +kernel
theorem dX1_reset_11 : decode cX1_reset 11 = .ok (.getfield 25, 3) := by decide +kernel
theorem dX1_reset_14 : decode cX1_reset 14 = .ok (.iconst (-1), 1) := by decide +kernel
theorem dX1_reset_15 : decode cX1_reset 15 = .ok (.invokestatic 38, 3) := by decide +kernel
theorem dX1_reset_18 : decode cX1_reset 18 = .ok (.return_, 1) := by decide +kernel
theorem dX1_find_0 : decode cX1_find 0 = .ok (.aload_n 0, 1) := by decide +kernel
theorem dX1_find_1 : decode cX1_find 1 = .ok (.getfield 25, 3) := by decide +kernel
theorem dX1_find_4 : decode cX1_find 4 = .ok (.iload_n 2, 1) := by decide +kernel
theorem dX1_find_5 : decode cX1_find 5 = .ok (.iaload, 1) := by decide +kernel
theorem dX1_find_6 : decode cX1_find 6 = .ok (.istore_n 3, 1) := by decide +kernel
theorem dX1_find_7 : decode cX1_find 7 = .ok (.iconst 0, 1) := by decide +kernel
theorem dX1_find_8 : decode cX1_find 8 = .ok (.istore 4, 2) := by decide +kernel
theorem dX1_find_10 : decode cX1_find 10 = .ok (.iload 4, 2) := by decide +kernel
theorem dX1_find_12 : decode cX1_find 12 = .ok (.bipush 80, 2) := by decide +kernel
theorem dX1_find_14 : decode cX1_find 14 = .ok (.if_icmp .ge 33, 3) := by decide +kernel
theorem dX1_find_17 : decode cX1_find 17 = .ok (.iload_n 3, 1) := by decide +kernel
theorem dX1_find_18 : decode cX1_find 18 = .ok (.iconst (-1), 1) := by decide +kernel
theorem dX1_find_19 : decode cX1_find 19 = .ok (.if_icmp .eq 28, 3) := by decide +kernel
theorem dX1_find_22 : decode cX1_find 22 = .ok (.aload_n 0, 1) := by decide +kernel
theorem dX1_find_23 : decode cX1_find 23 = .ok (.getfield 9, 3) := by decide +kernel
theorem dX1_find_26 : decode cX1_find 26 = .ok (.iload_n 3, 1) := by decide +kernel
theorem dX1_find_27 : decode cX1_find 27 = .ok (.iaload, 1) := by decide +kernel
theorem dX1_find_28 : decode cX1_find 28 = .ok (.iload_n 1, 1) := by decide +kernel
theorem dX1_find_29 : decode cX1_find 29 = .ok (.if_icmp .ne 5, 3) := by decide +kernel
theorem dX1_find_32 : decode cX1_find 32 = .ok (.iload_n 3, 1) := by decide +kernel
theorem dX1_find_33 : decode cX1_find 33 = .ok (.ireturn, 1) := by decide +kernel
theorem dX1_find_34 : decode cX1_find 34 = .ok (.aload_n 0, 1) := by decide +kernel
theorem dX1_find_35 : decode cX1_find 35 = .ok (.getfield 28, 3) := by decide +kernel
theorem dX1_find_38 : decode cX1_find 38 = .ok (.iload_n 3, 1) := by decide +kernel
theorem dX1_find_39 : decode cX1_find 39 = .ok (.iaload, 1) := by decide +kernel
theorem dX1_find_40 : decode cX1_find 40 = .ok (.istore_n 3, 1) := by decide +kernel
theorem dX1_find_41 : decode cX1_find 41 = .ok (.iinc 4 1, 3) := by decide +kernel
theorem dX1_find_44 : decode cX1_find 44 = .ok (.goto (-34), 3) := by decide +kernel
theorem dX1_find_47 : decode cX1_find 47 = .ok (.iconst (-1), 1) := by decide +kernel
theorem dX1_find_48 : decode cX1_find 48 = .ok (.ireturn, 1) := by decide +kernel
theorem dX1_add_0 : decode cX1_add 0 = .ok (.aload_n 0, 1) := by decide +kernel
theorem dX1_add_1 : decode cX1_add 1 = .ok (.getfield 35, 3) := by decide +kernel
theorem dX1_add_4 : decode cX1_add 4 = .ok (.sipush 3000, 3) := by decide +kernel
theorem dX1_add_7 : decode cX1_add 7 = .ok (.if_icmp .lt 5, 3) := by decide +kernel
theorem dX1_add_10 : decode cX1_add 10 = .ok (.iconst (-1), 1) := by decide +kernel
theorem dX1_add_11 : decode cX1_add 11 = .ok (.ireturn, 1) := by decide +kernel
theorem dX1_add_12 : decode cX1_add 12 = .ok (.aload_n 0, 1) := by decide +kernel
theorem dX1_add_13 : decode cX1_add 13 = .ok (.getfield 35, 3) := by decide +kernel
theorem dX1_add_16 : decode cX1_add 16 = .ok (.istore_n 3, 1) := by decide +kernel
theorem dX1_add_17 : decode cX1_add 17 = .ok (.aload_n 0, 1) := by decide +kernel
theorem dX1_add_18 : decode cX1_add 18 = .ok (.dup, 1) := by decide +kernel
theorem dX1_add_19 : decode cX1_add 19 = .ok (.getfield 35, 3) := by decide +kernel
theorem dX1_add_22 : decode cX1_add 22 = .ok (.iconst 1, 1) := by decide +kernel
theorem dX1_add_23 : decode cX1_add 23 = .ok (.iadd, 1) := by decide +kernel
theorem dX1_add_24 : decode cX1_add 24 = .ok (.putfield 35, 3) := by decide +kernel
theorem dX1_add_27 : decode cX1_add 27 = .ok (.aload_n 0, 1) := by decide +kernel
theorem dX1_add_28 : decode cX1_add 28 = .ok (.getfield 9, 3) := by decide +kernel
theorem dX1_add_31 : decode cX1_add 31 = .ok (.iload_n 3, 1) := by decide +kernel
theorem dX1_add_32 : decode cX1_add 32 = .ok (.iload_n 1, 1) := by decide +kernel
theorem dX1_add_33 : decode cX1_add 33 = .ok (.iastore, 1) := by decide +kernel
theorem dX1_add_34 : decode cX1_add 34 = .ok (.aload_n 0, 1) := by decide +kernel
theorem dX1_add_35 : decode cX1_add 35 = .ok (.getfield 15, 3) := by decide +kernel
theorem dX1_add_38 : decode cX1_add 38 = .ok (.iload_n 3, 1) := by decide +kernel
theorem dX1_add_39 : decode cX1_add 39 = .ok (.iload_n 2, 1) := by decide +kernel
theorem dX1_add_40 : decode cX1_add 40 = .ok (.iastore, 1) := by decide +kernel
theorem dX1_add_41 : decode cX1_add 41 = .ok (.aload_n 0, 1) := by decide +kernel
theorem dX1_add_42 : decode cX1_add 42 = .ok (.getfield 18, 3) := by decide +kernel
theorem dX1_add_45 : decode cX1_add 45 = .ok (.iload_n 3, 1) := by decide +kernel
theorem dX1_add_46 : decode cX1_add 46 = .ok (.iconst 0, 1) := by decide +kernel
theorem dX1_add_47 : decode cX1_add 47 = .ok (.iastore, 1) := by decide +kernel
theorem dX1_add_48 : decode cX1_add 48 = .ok (.aload_n 0, 1) := by decide +kernel
theorem dX1_add_49 : decode cX1_add 49 = .ok (.getfield 28, 3) := by decide +kernel
theorem dX1_add_52 : decode cX1_add 52 = .ok (.iload_n 3, 1) := by decide +kernel
theorem dX1_add_53 : decode cX1_add 53 = .ok (.aload_n 0, 1) := by decide +kernel
theorem dX1_add_54 : decode cX1_add 54 = .ok (.getfield 25, 3) := by decide +kernel
theorem dX1_add_57 : decode cX1_add 57 = .ok (.iload_n 2, 1) := by decide +kernel
theorem dX1_add_58 : decode cX1_add 58 = .ok (.iaload, 1) := by decide +kernel
theorem dX1_add_59 : decode cX1_add 59 = .ok (.iastore, 1) := by decide +kernel
theorem dX1_add_60 : decode cX1_add 60 = .ok (.aload_n 0, 1) := by decide +kernel
theorem dX1_add_61 : decode cX1_add 61 = .ok (.getfield 25, 3) := by decide +kernel
theorem dX1_add_64 : decode cX1_add 64 = .ok (.iload_n 2, 1) := by decide +kernel
theorem dX1_add_65 : decode cX1_add 65 = .ok (.iload_n 3, 1) := by decide +kernel
theorem dX1_add_66 : decode cX1_add 66 = .ok (.iastore, 1) := by decide +kernel
theorem dX1_add_67 : decode cX1_add 67 = .ok (.iload_n 3, 1) := by decide +kernel
theorem dX1_add_68 : decode cX1_add 68 = .ok (.ireturn, 1) := by decide +kernel
theorem dX1_hadToken_0 : decode cX1_hadToken 0 = .ok (.aload_n 0, 1) := by decide +kernel
theorem dX1_hadToken_1 : decode cX1_hadToken 1 = .ok (.getfield 18, 3) := by decide +kernel
theorem dX1_hadToken_4 : decode cX1_hadToken 4 = .ok (.iload_n 1, 1) := by decide +kernel
theorem dX1_hadToken_5 : decode cX1_hadToken 5 = .ok (.iaload, 1) := by decide +kernel
theorem dX1_hadToken_6 : decode cX1_hadToken 6 = .ok (.iload_n 2, 1) := by decide +kernel
theorem dX1_hadToken_7 : decode cX1_hadToken 7 = .ok (.ishr, 1) := by decide +kernel
theorem dX1_hadToken_8 : decode cX1_hadToken 8 = .ok (.iconst 1, 1) := by decide +kernel
theorem dX1_hadToken_9 : decode cX1_hadToken 9 = .ok (.iand, 1) := by decide +kernel
theorem dX1_hadToken_10 : decode cX1_hadToken 10 = .ok (.iconst 1, 1) := by decide +kernel
theorem dX1_hadToken_11 : decode cX1_hadToken 11 = .ok (.if_icmp .ne 7, 3) := by decide +kernel
theorem dX1_hadToken_14 : decode cX1_hadToken 14 = .ok (.iconst 1, 1) := by decide +kernel
theorem dX1_hadToken_15 : decode cX1_hadToken 15 = .ok (.goto 4, 3) := by decide +kernel
theorem dX1_hadToken_18 : decode cX1_hadToken 18 = .ok (.iconst 0, 1) := by decide +kernel
theorem dX1_hadToken_19 : decode cX1_hadToken 19 = .ok (.ireturn, 1) := by decide +kernel
theorem dX1_put_0 : decode cX1_put 0 = .ok (.aload_n 0, 1) := by decide +kernel
theorem dX1_put_1 : decode cX1_put 1 = .ok (.getfield 18, 3) := by decide +kernel
theorem dX1_put_4 : decode cX1_put 4 = .ok (.iload_n 1, 1) := by decide +kernel
theorem dX1_put_5 : decode cX1_put 5 = .ok (.dup2, 1) := by decide +kernel
theorem dX1_put_6 : decode cX1_put 6 = .ok (.iaload, 1) := by decide +kernel
theorem dX1_put_7 : decode cX1_put 7 = .ok (.iconst 1, 1) := by decide +kernel
theorem dX1_put_8 : decode cX1_put 8 = .ok (.iload_n 2, 1) := by decide +kernel
theorem dX1_put_9 : decode cX1_put 9 = .ok (.ishl, 1) := by decide +kernel
theorem dX1_put_10 : decode cX1_put 10 = .ok (.ior, 1) := by decide +kernel
theorem dX1_put_11 : decode cX1_put 11 = .ok (.iastore, 1) := by decide +kernel
theorem dX1_put_12 : decode cX1_put 12 = .ok (.aload_n 0, 1) := by decide +kernel
theorem dX1_put_13 : decode cX1_put 13 = .ok (.getfield 21, 3) := by decide +kernel
theorem dX1_put_16 : decode cX1_put 16 = .ok (.iconst 3, 1) := by decide +kernel
theorem dX1_put_17 : decode cX1_put 17 = .ok (.iload_n 1, 1) := by decide +kernel
theorem dX1_put_18 : decode cX1_put 18 = .ok (.imul, 1) := by decide +kernel
theorem dX1_put_19 : decode cX1_put 19 = .ok (.iload_n 2, 1) := by decide +kernel
theorem dX1_put_20 : decode cX1_put 20 = .ok (.iadd, 1) := by decide +kernel
theorem dX1_put_21 : decode cX1_put 21 = .ok (.lload_n 3, 1) := by decide +kernel
theorem dX1_put_22 : decode cX1_put 22 = .ok (.lastore, 1) := by decide +kernel
theorem dX1_put_23 : decode cX1_put 23 = .ok (.aload_n 0, 1) := by decide +kernel
theorem dX1_put_24 : decode cX1_put 24 = .ok (.dup, 1) := by decide +kernel
theorem dX1_put_25 : decode cX1_put 25 = .ok (.getfield 31, 3) := by decide +kernel
theorem dX1_put_28 : decode cX1_put 28 = .ok (.iconst 1, 1) := by decide +kernel
theorem dX1_put_29 : decode cX1_put 29 = .ok (.iadd, 1) := by decide +kernel
theorem dX1_put_30 : decode cX1_put 30 = .ok (.putfield 31, 3) := by decide +kernel
theorem dX1_put_33 : decode cX1_put 33 = .ok (.aload_n 0, 1) := by decide +kernel
theorem dX1_put_34 : decode cX1_put 34 = .ok (.getfield 18, 3) := by decide +kernel
theorem dX1_put_37 : decode cX1_put 37 = .ok (.iload_n 1, 1) := by decide +kernel
theorem dX1_put_38 : decode cX1_put 38 = .ok (.iaload, 1) := by decide +kernel
theorem dX1_put_39 : decode cX1_put 39 = .ok (.iconst 1, 1) := by decide +kernel
theorem dX1_put_40 : decode cX1_put 40 = .ok (.iload 5, 2) := by decide +kernel
theorem dX1_put_42 : decode cX1_put 42 = .ok (.ishl, 1) := by decide +kernel
theorem dX1_put_43 : decode cX1_put 43 = .ok (.iconst 1, 1) := by decide +kernel
theorem dX1_put_44 : decode cX1_put 44 = .ok (.isub, 1) := by decide +kernel
theorem dX1_put_45 : decode cX1_put 45 = .ok (.if_icmp .ne 7, 3) := by decide +kernel
theorem dX1_put_48 : decode cX1_put 48 = .ok (.iconst 1, 1) := by decide +kernel
theorem dX1_put_49 : decode cX1_put 49 = .ok (.goto 4, 3) := by decide +kernel
theorem dX1_put_52 : decode cX1_put 52 = .ok (.iconst 0, 1) := by decide +kernel
theorem dX1_put_53 : decode cX1_put 53 = .ok (.istore 6, 2) := by decide +kernel
theorem dX1_put_55 : decode cX1_put 55 = .ok (.iload 6, 2) := by decide +kernel
theorem dX1_put_57 : decode cX1_put 57 = .ok (.ifCond .eq 14, 3) := by decide +kernel
theorem dX1_put_60 : decode cX1_put 60 = .ok (.aload_n 0, 1) := by decide +kernel
theorem dX1_put_61 : decode cX1_put 61 = .ok (.dup, 1) := by decide +kernel
theorem dX1_put_62 : decode cX1_put 62 = .ok (.getfield 31, 3) := by decide +kernel
theorem dX1_put_65 : decode cX1_put 65 = .ok (.iload 5, 2) := by decide +kernel
theorem dX1_put_67 : decode cX1_put 67 = .ok (.isub, 1) := by decide +kernel
theorem dX1_put_68 : decode cX1_put 68 = .ok (.putfield 31, 3) := by decide +kernel
theorem dX1_put_71 : decode cX1_put 71 = .ok (.iload 6, 2) := by decide +kernel
theorem dX1_put_73 : decode cX1_put 73 = .ok (.ireturn, 1) := by decide +kernel
theorem dX1_cameTo_0 : decode cX1_cameTo 0 = .ok (.aload_n 0, 1) := by decide +kernel
theorem dX1_cameTo_1 : decode cX1_cameTo 1 = .ok (.getfield 21, 3) := by decide +kernel
theorem dX1_cameTo_4 : decode cX1_cameTo 4 = .ok (.iconst 3, 1) := by decide +kernel
theorem dX1_cameTo_5 : decode cX1_cameTo 5 = .ok (.iload_n 1, 1) := by decide +kernel
theorem dX1_cameTo_6 : decode cX1_cameTo 6 = .ok (.imul, 1) := by decide +kernel
theorem dX1_cameTo_7 : decode cX1_cameTo 7 = .ok (.iload_n 2, 1) := by decide +kernel
theorem dX1_cameTo_8 : decode cX1_cameTo 8 = .ok (.iadd, 1) := by decide +kernel
theorem dX1_cameTo_9 : decode cX1_cameTo 9 = .ok (.laload, 1) := by decide +kernel
theorem dX1_cameTo_10 : decode cX1_cameTo 10 = .ok (.lreturn, 1) := by decide +kernel
set_option maxRecDepth 20000 in
theorem ggX2_init_J7_fill_53178 : GoodIn wsX2_init wsJ7_fill_53178 := goodIn_r _ [20] (by decide +kernel) (by decide +kernel)
set_option maxRecDepth 20000 in
theorem gX2_init_J7_fill_53178 : GoodIn wsX2_init (va_wsS RX2 48 yJ7_fill_53178 wsJ7_fill_53178) := goodIn_app (goodIn_of _ (by decide +kernel)) ggX2_init_J7_fill_53178
theorem dX2_init_0 : decode cX2_init 0 = .ok (.aload_n 0, 1) := by decide +kernel
theorem dX2_init_1 : decode cX2_init 1 = .ok (.invokespecial 3, 3) := by decide +kernel
theorem dX2_init_4 : decode cX2_init 4 = .ok (.aload_n 0, 1) := by decide +kernel
theorem dX2_init_5 : decode cX2_init 5 = .ok (.bipush 80, 2) := by decide +kernel
theorem dX2_init_7 : decode cX2_init 7 = .ok (.newarray .int, 2) := by decide +kernel
theorem dX2_init_9 : decode cX2_init 9 = .ok (.putfield 9, 3) := by decide +kernel
theorem dX2_init_12 : decode cX2_init 12 = .ok (.aload_n 0, 1) := by decide +kernel
theorem dX2_init_13 : decode cX2_init 13 = .ok (.bipush 80, 2) := by decide +kernel
theorem dX2_init_15 : decode cX2_init 15 = .ok (.newarray .int, 2) := by decide +kernel
theorem dX2_init_17 : decode cX2_init 17 = .ok (.putfield 15, 3) := by decide +kernel
theorem dX2_init_20 : decode cX2_init 20 = .ok (.aload_n 0, 1) := by decide +kernel
theorem dX2_init_21 : decode cX2_init 21 = .ok (.bipush 80, 2) := by decide +kernel
theorem dX2_init_23 : decode cX2_init 23 = .ok (.newarray .int, 2) := by decide +kernel
theorem dX2_init_25 : decode cX2_init 25 = .ok (.putfield 18, 3) := by decide +kernel
theorem dX2_init_28 : decode cX2_init 28 = .ok (.aload_n 0, 1) := by decide +kernel
theorem dX2_init_29 : decode cX2_init 29 = .ok (.bipush 100, 2) := by decide +kernel
theorem dX2_init_31 : decode cX2_init 31 = .ok (.newarray .int, 2) := by decide +kernel
theorem dX2_init_33 : decode cX2_init 33 = .ok (.putfield 21, 3) := by decide +kernel
theorem dX2_init_36 : decode cX2_init 36 = .ok (.aload_n 0, 1) := by decide +kernel
theorem dX2_init_37 : decode cX2_init 37 = .ok (.sipush 300, 3) := by decide +kernel
theorem dX2_init_40 : decode cX2_init 40 = .ok (.newarray .int, 2) := by decide +kernel
theorem dX2_init_42 : decode cX2_init 42 = .ok (.putfield 24, 3) := by decide +kernel
theorem dX2_init_45 : decode cX2_init 45 = .ok (.aload_n 0, 1) := by decide +kernel
theorem dX2_init_46 : decode cX2_init 46 = .ok (.sipush 300, 3) := by decide +kernel
theorem dX2_init_49 : decode cX2_init 49 = .ok (.newarray .int, 2) := by decide +kernel
theorem dX2_init_51 : decode cX2_init 51 = .ok (.putfield 27, 3) := by decide +kernel
theorem dX2_init_54 : decode cX2_init 54 = .ok (.aload_n 0, 1) := by decide +kernel
theorem dX2_init_55 : decode cX2_init 55 = .ok (.sipush 300, 3) := by decide +kernel
theorem dX2_init_58 : decode cX2_init 58 = .ok (.newarray .int, 2) := by decide +kernel
theorem dX2_init_60 : decode cX2_init 60 = .ok (.putfield 30, 3) := by decide +kernel
theorem dX2_init_63 : decode cX2_init 63 = .ok (.aload_n 0, 1) := by decide +kernel
theorem dX2_init_64 : decode cX2_init 64 = .ok (.sipush 160, 3) := by decide +kernel
theorem dX2_init_67 : decode cX2_init 67 = .ok (.newarray .int, 2) := by decide +kernel
theorem dX2_init_69 : decode cX2_init 69 = .ok (.putfield 33, 3) := by decide +kernel
theorem dX2_init_72 : decode cX2_init 72 = .ok (.aload_n 0, 1) := by decide +kernel
theorem dX2_init_73 : decode cX2_init 73 = .ok (.sipush 160, 3) := by decide +kernel
theorem dX2_init_76 : decode cX2_init 76 = .ok (.newarray .int, 2) := by decide +kernel
theorem dX2_init_78 : decode cX2_init 78 = .ok (.putfield 36, 3) := by decide +kernel
theorem dX2_init_81 : decode cX2_init 81 = .ok (.aload_n 0, 1) := by decide +kernel
theorem dX2_init_82 : decode cX2_init 82 = .ok (.bipush 40, 2) := by decide +kernel
theorem dX2_init_84 : decode cX2_init 84 = .ok (.newarray .int, 2) := by decide +kernel
theorem dX2_init_86 : decode cX2_init 86 = .ok (.putfield 39, 3) := by decide +kernel
theorem dX2_init_89 : decode cX2_init 89 = .ok (.aload_n 0, 1) := by decide +kernel
theorem dX2_init_90 : decode cX2_init 90 = .ok (.bipush 40, 2) := by decide +kernel
theorem dX2_init_92 : decode cX2_init 92 = .ok (.newarray .int, 2) := by decide +kernel
theorem dX2_init_94 : decode cX2_init 94 = .ok (.putfield 42, 3) := by decide +kernel
theorem dX2_init_97 : decode cX2_init 97 = .ok (.aload_n 0, 1) := by decide +kernel
theorem dX2_init_98 : decode cX2_init 98 = .ok (.bipush 40, 2) := by decide +kernel
theorem dX2_init_100 : decode cX2_init 100 = .ok (.newarray .int, 2) := by decide +kernel
theorem dX2_init_102 : decode cX2_init 102 = .ok (.putfield 45, 3) := by decide +kernel
theorem dX2_init_105 : decode cX2_init 105 = .ok (.aload_n 0, 1) := by decide +kernel
theorem dX2_init_106 : decode cX2_init 106 = .ok (.getfield 21, 3) := by decide +kernel
theorem dX2_init_109 : decode cX2_init 109 = .ok (.iconst (-1), 1) := by decide +kernel
theorem dX2_init_110 : decode cX2_init 110 = .ok (.invokestatic 48, 3) := by decide +kernel
theorem dX2_init_113 : decode cX2_init 113 = .ok (.aload_n 0, 1) := by decide +kernel
theorem dX2_init_114 : decode cX2_init 114 = .ok (.getfield 33, 3) := by decide +kernel
theorem dX2_init_117 : decode cX2_init 117 = .ok (.iconst (-1), 1) := by decide +kernel
theorem dX2_init_118 : decode cX2_init 118 = .ok (.invokestatic 48, 3) := by decide +kernel
theorem dX2_init_121 : decode cX2_init 121 = .ok (.aload_n 0, 1) := by decide +kernel
theorem dX2_init_122 : decode cX2_init 122 = .ok (.getfield 36, 3) := by decide +kernel
theorem dX2_init_125 : decode cX2_init 125 = .ok (.iconst (-1), 1) := by decide +kernel
theorem dX2_init_126 : decode cX2_init 126 = .ok (.invokestatic 48, 3) := by decide +kernel
theorem dX2_init_129 : decode cX2_init 129 = .ok (.return_, 1) := by decide +kernel
theorem dX2_hasAct_0 : decode cX2_hasAct 0 = .ok (.iload_n 1, 1) := by decide +kernel
theorem dX2_hasAct_1 : decode cX2_hasAct 1 = .ok (.ifCond .lt 15, 3) := by decide +kernel
theorem dX2_hasAct_4 : decode cX2_hasAct 4 = .ok (.iload_n 1, 1) := by decide +kernel
theorem dX2_hasAct_5 : decode cX2_hasAct 5 = .ok (.aload_n 0, 1) := by decide +kernel
theorem dX2_hasAct_6 : decode cX2_hasAct 6 = .ok (.getfield 54, 3) := by decide +kernel
theorem dX2_hasAct_9 : decode cX2_hasAct 9 = .ok (.if_icmp .ge 7, 3) := by decide +kernel
theorem dX2_hasAct_12 : decode cX2_hasAct 12 = .ok (.iconst 1, 1) := by decide +kernel
theorem dX2_hasAct_13 : decode cX2_hasAct 13 = .ok (.goto 4, 3) := by decide +kernel
theorem dX2_hasAct_16 : decode cX2_hasAct 16 = .ok (.iconst 0, 1) := by decide +kernel
theorem dX2_hasAct_17 : decode cX2_hasAct 17 = .ok (.ireturn, 1) := by decide +kernel
set_option maxRecDepth 20000 in
theorem ggX2_hasPort_X2_hasAct : GoodIn wsX2_hasPort wsX2_hasAct := goodIn_r _ [6, 7, 8, 9, 10, 11, 12, 13, 14, 15, 16, 17, 18, 19, 20, 21, 22] (by decide +kernel) (by decide +kernel)
set_option maxRecDepth 20000 in
theorem gX2_hasPort_X2_hasAct : GoodIn wsX2_hasPort (wsV RX2 58 RX2 yX2_hasAct wsX2_hasAct) := goodIn_app (goodIn_of _ (by decide +kernel)) ggX2_hasPort_X2_hasAct
theorem dX2_hasPort_0 : decode cX2_hasPort 0 = .ok (.aload_n 0, 1) := by decide +kernel
theorem dX2_hasPort_1 : decode cX2_hasPort 1 = .ok (.iload_n 1, 1) := by decide +kernel
theorem dX2_hasPort_2 : decode cX2_hasPort 2 = .ok (.invokevirtual 58, 3) := by decide +kernel
theorem dX2_hasPort_5 : decode cX2_hasPort 5 = .ok (.ifCond .eq 21, 3) := by decide +kernel
theorem dX2_hasPort_8 : decode cX2_hasPort 8 = .ok (.iload_n 2, 1) := by decide +kernel
theorem dX2_hasPort_9 : decode cX2_hasPort 9 = .ok (.ifCond .lt 17, 3) := by decide +kernel
theorem dX2_hasPort_12 : decode cX2_hasPort 12 = .ok (.iload_n 2, 1) := by decide +kernel
theorem dX2_hasPort_13 : decode cX2_hasPort 13 = .ok (.aload_n 0, 1) := by decide +kernel
theorem dX2_hasPort_14 : decode cX2_hasPort 14 = .ok (.getfield 18, 3) := by decide +kernel
theorem dX2_hasPort_17 : decode cX2_hasPort 17 = .ok (.iload_n 1, 1) := by decide +kernel
theorem dX2_hasPort_18 : decode cX2_hasPort 18 = .ok (.iaload, 1) := by decide +kernel
theorem dX2_hasPort_19 : decode cX2_hasPort 19 = .ok (.if_icmp .ge 7, 3) := by decide +kernel
theorem dX2_hasPort_22 : decode cX2_hasPort 22 = .ok (.iconst 1, 1) := by decide +kernel
theorem dX2_hasPort_23 : decode cX2_hasPort 23 = .ok (.goto 4, 3) := by decide +kernel
theorem dX2_hasPort_26 : decode cX2_hasPort 26 = .ok (.iconst 0, 1) := by decide +kernel
theorem dX2_hasPort_27 : decode cX2_hasPort 27 = .ok (.ireturn, 1) := by decide +kernel
set_option maxRecDepth 20000 in
theorem ggX2_addAct_X3_exists : GoodIn wsX2_addAct wsX3_exists := goodIn_r _ [9] (by decide +kernel) (by decide +kernel)
set_option maxRecDepth 20000 in
theorem gX2_addAct_X3_exists : GoodIn wsX2_addAct (va_wsS RX2 62 yX3_exists wsX3_exists) := goodIn_app (goodIn_of _ (by decide +kernel)) ggX2_addAct_X3_exists
set_option maxRecDepth 20000 in
theorem ggX2_addAct_X3_allowsNumber : GoodIn wsX2_addAct wsX3_allowsNumber := goodIn_r _ [12] (by decide +kernel) (by decide +kernel)
set_option maxRecDepth 20000 in
theorem gX2_addAct_X3_allowsNumber : GoodIn wsX2_addAct (va_wsS RX2 67 yX3_allowsNumber wsX3_allowsNumber) := goodIn_app (goodIn_of _ (by decide +kernel)) ggX2_addAct_X3_allowsNumber
set_option maxRecDepth 20000 in
theorem ggX2_addAct_X3_allowsPorts : GoodIn wsX2_addAct wsX3_allowsPorts := goodIn_r _ [15] (by decide +kernel) (by decide +kernel)
set_option maxRecDepth 20000 in
theorem gX2_addAct_X3_allowsPorts : GoodIn wsX2_addAct (va_wsS RX2 71 yX3_allowsPorts wsX3_allowsPorts) := goodIn_app (goodIn_of _ (by decide +kernel)) ggX2_addAct_X3_allowsPorts
set_option maxRecDepth 20000 in
theorem ggX2_addAct_X3_portsOf : GoodIn wsX2_addAct wsX3_portsOf := goodIn_r _ [18, 19, 20, 7, 8, 9] (by decide +kernel) (by decide +kernel)
set_option maxRecDepth 20000 in
theorem gX2_addAct_X3_portsOf : GoodIn wsX2_addAct (va_wsS RX2 74 yX3_portsOf wsX3_portsOf) := goodIn_app (goodIn_of _ (by decide +kernel)) ggX2_addAct_X3_portsOf
theorem dX2_addAct_0 : decode cX2_addAct 0 = .ok (.iload_n 1, 1) := by decide +kernel
theorem dX2_addAct_1 : decode cX2_addAct 1 = .ok (.invokestatic 62, 3) := by decide +kernel
theorem dX2_addAct_4 : decode cX2_addAct 4 = .ok (.ifCond .eq 23, 3) := by decide +kernel
theorem dX2_addAct_7 : decode cX2_addAct 7 = .ok (.iload_n 1, 1) := by decide +kernel
theorem dX2_addAct_8 : decode cX2_addAct 8 = .ok (.iload_n 2, 1) := by decide +kernel
theorem dX2_addAct_9 : decode cX2_addAct 9 = .ok (.invokestatic 67, 3) := by decide +kernel
theorem dX2_addAct_12 : decode cX2_addAct 12 = .ok (.ifCond .eq 15, 3) := by decide +kernel
theorem dX2_addAct_15 : decode cX2_addAct 15 = .ok (.iload_n 1, 1) := by decide +kernel
theorem dX2_addAct_16 : decode cX2_addAct 16 = .ok (.iload_n 3, 1) := by decide +kernel
theorem dX2_addAct_17 : decode cX2_addAct 17 = .ok (.invokestatic 71, 3) := by decide +kernel
theorem dX2_addAct_20 : decode cX2_addAct 20 = .ok (.ifCond .eq 7, 3) := by decide +kernel
theorem dX2_addAct_23 : decode cX2_addAct 23 = .ok (.iconst 1, 1) := by decide +kernel
theorem dX2_addAct_24 : decode cX2_addAct 24 = .ok (.goto 4, 3) := by decide +kernel
theorem dX2_addAct_27 : decode cX2_addAct 27 = .ok (.iconst 0, 1) := by decide +kernel
theorem dX2_addAct_28 : decode cX2_addAct 28 = .ok (.istore 4, 2) := by decide +kernel
theorem dX2_addAct_30 : decode cX2_addAct 30 = .ok (.iload 4, 2) := by decide +kernel
theorem dX2_addAct_32 : decode cX2_addAct 32 = .ok (.ifCond .eq 12, 3) := by decide +kernel
theorem dX2_addAct_35 : decode cX2_addAct 35 = .ok (.aload_n 0, 1) := by decide +kernel
theorem dX2_addAct_36 : decode cX2_addAct 36 = .ok (.getfield 54, 3) := by decide +kernel
theorem dX2_addAct_39 : decode cX2_addAct 39 = .ok (.bipush 80, 2) := by decide +kernel
theorem dX2_addAct_41 : decode cX2_addAct 41 = .ok (.if_icmp .lt 5, 3) := by decide +kernel
theorem dX2_addAct_44 : decode cX2_addAct 44 = .ok (.iconst (-1), 1) := by decide +kernel
theorem dX2_addAct_45 : decode cX2_addAct 45 = .ok (.ireturn, 1) := by decide +kernel
theorem dX2_addAct_46 : decode cX2_addAct 46 = .ok (.aload_n 0, 1) := by decide +kernel
theorem dX2_addAct_47 : decode cX2_addAct 47 = .ok (.getfield 54, 3) := by decide +kernel
theorem dX2_addAct_50 : decode cX2_addAct 50 = .ok (.istore 5, 2) := by decide +kernel
theorem dX2_addAct_52 : decode cX2_addAct 52 = .ok (.aload_n 0, 1) := by decide +kernel
theorem dX2_addAct_53 : decode cX2_addAct 53 = .ok (.dup, 1) := by decide +kernel
theorem dX2_addAct_54 : decode cX2_addAct 54 = .ok (.getfield 54, 3) := by decide +kernel
theorem dX2_addAct_57 : decode cX2_addAct 57 = .ok (.iconst 1, 1) := by decide +kernel
theorem dX2_addAct_58 : decode cX2_addAct 58 = .ok (.iadd, 1) := by decide +kernel
theorem dX2_addAct_59 : decode cX2_addAct 59 = .ok (.putfield 54, 3) := by decide +kernel
theorem dX2_addAct_62 : decode cX2_addAct 62 = .ok (.aload_n 0, 1) := by decide +kernel
theorem dX2_addAct_63 : decode cX2_addAct 63 = .ok (.getfield 9, 3) := by decide +kernel
theorem dX2_addAct_66 : decode cX2_addAct 66 = .ok (.iload 5, 2) := by decide +kernel
theorem dX2_addAct_68 : decode cX2_addAct 68 = .ok (.iload_n 1, 1) := by decide +kernel
theorem dX2_addAct_69 : decode cX2_addAct 69 = .ok (.iastore, 1) := by decide +kernel
theorem dX2_addAct_70 : decode cX2_addAct 70 = .ok (.aload_n 0, 1) := by decide +kernel
theorem dX2_addAct_71 : decode cX2_addAct 71 = .ok (.getfield 15, 3) := by decide +kernel
theorem dX2_addAct_74 : decode cX2_addAct 74 = .ok (.iload 5, 2) := by decide +kernel
theorem dX2_addAct_76 : decode cX2_addAct 76 = .ok (.iload_n 2, 1) := by decide +kernel
theorem dX2_addAct_77 : decode cX2_addAct 77 = .ok (.iastore, 1) := by decide +kernel
theorem dX2_addAct_78 : decode cX2_addAct 78 = .ok (.aload_n 0, 1) := by decide +kernel
theorem dX2_addAct_79 : decode cX2_addAct 79 = .ok (.getfield 18, 3) := by decide +kernel
theorem dX2_addAct_82 : decode cX2_addAct 82 = .ok (.iload 5, 2) := by decide +kernel
theorem dX2_addAct_84 : decode cX2_addAct 84 = .ok (.iload_n 1, 1) := by decide +kernel
theorem dX2_addAct_85 : decode cX2_addAct 85 = .ok (.iload_n 3, 1) := by decide +kernel
theorem dX2_addAct_86 : decode cX2_addAct 86 = .ok (.invokestatic 74, 3) := by decide +kernel
theorem dX2_addAct_89 : decode cX2_addAct 89 = .ok (.iastore, 1) := by decide +kernel
theorem dX2_addAct_90 : decode cX2_addAct 90 = .ok (.iload_n 1, 1) := by decide +kernel
theorem dX2_addAct_91 : decode cX2_addAct 91 = .ok (.bipush 15, 2) := by decide +kernel
theorem dX2_addAct_93 : decode cX2_addAct 93 = .ok (.if_icmp .ne 21, 3) := by decide +kernel
theorem dX2_addAct_96 : decode cX2_addAct 96 = .ok (.aload_n 0, 1) := by decide +kernel
theorem dX2_addAct_97 : decode cX2_addAct 97 = .ok (.getfield 21, 3) := by decide +kernel
theorem dX2_addAct_100 : decode cX2_addAct 100 = .ok (.iload_n 2, 1) := by decide +kernel
theorem dX2_addAct_101 : decode cX2_addAct 101 = .ok (.iaload, 1) := by decide +kernel
theorem dX2_addAct_102 : decode cX2_addAct 102 = .ok (.iconst (-1), 1) := by decide +kernel
theorem dX2_addAct_103 : decode cX2_addAct 103 = .ok (.if_icmp .ne 11, 3) := by decide +kernel
theorem dX2_addAct_106 : decode cX2_addAct 106 = .ok (.aload_n 0, 1) := by decide +kernel
theorem dX2_addAct_107 : decode cX2_addAct 107 = .ok (.getfield 21, 3) := by decide +kernel
theorem dX2_addAct_110 : decode cX2_addAct 110 = .ok (.iload_n 2, 1) := by decide +kernel
theorem dX2_addAct_111 : decode cX2_addAct 111 = .ok (.iload 5, 2) := by decide +kernel
theorem dX2_addAct_113 : decode cX2_addAct 113 = .ok (.iastore, 1) := by decide +kernel
theorem dX2_addAct_114 : decode cX2_addAct 114 = .ok (.iload 5, 2) := by decide +kernel
theorem dX2_addAct_116 : decode cX2_addAct 116 = .ok (.ireturn, 1) := by decide +kernel
set_option maxRecDepth 20000 in
theorem ggX2_addWay_X2_hasAct : GoodIn wsX2_addWay wsX2_hasAct := goodIn_r _ [12, 13, 23, 24, 25, 26, 27, 28, 29, 30, 31, 32, 33, 34, 35, 36, 37] (by decide +kernel) (by decide +kernel)
set_option maxRecDepth 20000 in
theorem gX2_addWay_X2_hasAct : GoodIn wsX2_addWay (wsV RX2 58 RX2 yX2_hasAct wsX2_hasAct) := goodIn_app (goodIn_of _ (by decide +kernel)) ggX2_addWay_X2_hasAct
set_option maxRecDepth 20000 in
theorem ggX2_addWay_X3_hasSide : GoodIn wsX2_addWay wsX3_hasSide := goodIn_r _ [17] (by decide +kernel) (by decide +kernel)
set_option maxRecDepth 20000 in
theorem gX2_addWay_X3_hasSide : GoodIn wsX2_addWay (va_wsS RX2 78 yX3_hasSide wsX3_hasSide) := goodIn_app (goodIn_of _ (by decide +kernel)) ggX2_addWay_X3_hasSide
set_option maxRecDepth 20000 in
theorem ggX2_addWay_X2_hasPort : GoodIn wsX2_addWay wsX2_hasPort := goodIn_r _ [21, 22, 8, 9, 10, 11, 12, 13, 23, 24, 25, 26, 27, 28, 29, 30, 31, 32, 33, 34, 35, 36, 37] (by decide +kernel) (by decide +kernel)
set_option maxRecDepth 20000 in
theorem gX2_addWay_X2_hasPort : GoodIn wsX2_addWay (wsV RX2 81 RX2 yX2_hasPort wsX2_hasPort) := goodIn_app (goodIn_of _ (by decide +kernel)) ggX2_addWay_X2_hasPort
theorem dX2_addWay_0 : decode cX2_addWay 0 = .ok (.aload_n 0, 1) := by decide +kernel
theorem dX2_addWay_1 : decode cX2_addWay 1 = .ok (.iload_n 1, 1) := by decide +kernel
theorem dX2_addWay_2 : decode cX2_addWay 2 = .ok (.invokevirtual 58, 3) := by decide +kernel
theorem dX2_addWay_5 : decode cX2_addWay 5 = .ok (.ifCond .eq 26, 3) := by decide +kernel
theorem dX2_addWay_8 : decode cX2_addWay 8 = .ok (.aload_n 0, 1) := by decide +kernel
theorem dX2_addWay_9 : decode cX2_addWay 9 = .ok (.getfield 9, 3) := by decide +kernel
theorem dX2_addWay_12 : decode cX2_addWay 12 = .ok (.iload_n 1, 1) := by decide +kernel
theorem dX2_addWay_13 : decode cX2_addWay 13 = .ok (.iaload, 1) := by decide +kernel
theorem dX2_addWay_14 : decode cX2_addWay 14 = .ok (.iload_n 2, 1) := by decide +kernel
theorem dX2_addWay_15 : decode cX2_addWay 15 = .ok (.invokestatic 78, 3) := by decide +kernel
theorem dX2_addWay_18 : decode cX2_addWay 18 = .ok (.ifCond .eq 13, 3) := by decide +kernel
theorem dX2_addWay_21 : decode cX2_addWay 21 = .ok (.aload_n 0, 1) := by decide +kernel
theorem dX2_addWay_22 : decode cX2_addWay 22 = .ok (.iload_n 3, 1) := by decide +kernel
theorem dX2_addWay_23 : decode cX2_addWay 23 = .ok (.iload 4, 2) := by decide +kernel
theorem dX2_addWay_25 : decode cX2_addWay 25 = .ok (.invokevirtual 81, 3) := by decide +kernel
theorem dX2_addWay_28 : decode cX2_addWay 28 = .ok (.ifCond .ne 5, 3) := by decide +kernel
theorem dX2_addWay_31 : decode cX2_addWay 31 = .ok (.iconst (-1), 1) := by decide +kernel
theorem dX2_addWay_32 : decode cX2_addWay 32 = .ok (.ireturn, 1) := by decide +kernel
theorem dX2_addWay_33 : decode cX2_addWay 33 = .ok (.aload_n 0, 1) := by decide +kernel
theorem dX2_addWay_34 : decode cX2_addWay 34 = .ok (.getfield 84, 3) := by decide +kernel
theorem dX2_addWay_37 : decode cX2_addWay 37 = .ok (.sipush 300, 3) := by decide +kernel
theorem dX2_addWay_40 : decode cX2_addWay 40 = .ok (.if_icmp .lt 5, 3) := by decide +kernel
theorem dX2_addWay_43 : decode cX2_addWay 43 = .ok (.iconst (-1), 1) := by decide +kernel
theorem dX2_addWay_44 : decode cX2_addWay 44 = .ok (.ireturn, 1) := by decide +kernel
theorem dX2_addWay_45 : decode cX2_addWay 45 = .ok (.aload_n 0, 1) := by decide +kernel
theorem dX2_addWay_46 : decode cX2_addWay 46 = .ok (.getfield 84, 3) := by decide +kernel
theorem dX2_addWay_49 : decode cX2_addWay 49 = .ok (.istore 5, 2) := by decide +kernel
theorem dX2_addWay_51 : decode cX2_addWay 51 = .ok (.aload_n 0, 1) := by decide +kernel
theorem dX2_addWay_52 : decode cX2_addWay 52 = .ok (.dup, 1) := by decide +kernel
theorem dX2_addWay_53 : decode cX2_addWay 53 = .ok (.getfield 84, 3) := by decide +kernel
theorem dX2_addWay_56 : decode cX2_addWay 56 = .ok (.iconst 1, 1) := by decide +kernel
theorem dX2_addWay_57 : decode cX2_addWay 57 = .ok (.iadd, 1) := by decide +kernel
theorem dX2_addWay_58 : decode cX2_addWay 58 = .ok (.putfield 84, 3) := by decide +kernel
theorem dX2_addWay_61 : decode cX2_addWay 61 = .ok (.aload_n 0, 1) := by decide +kernel
theorem dX2_addWay_62 : decode cX2_addWay 62 = .ok (.getfield 24, 3) := by decide +kernel
theorem dX2_addWay_65 : decode cX2_addWay 65 = .ok (.iload 5, 2) := by decide +kernel
theorem dX2_addWay_67 : decode cX2_addWay 67 = .ok (.iload_n 3, 1) := by decide +kernel
theorem dX2_addWay_68 : decode cX2_addWay 68 = .ok (.iastore, 1) := by decide +kernel
theorem dX2_addWay_69 : decode cX2_addWay 69 = .ok (.aload_n 0, 1) := by decide +kernel
theorem dX2_addWay_70 : decode cX2_addWay 70 = .ok (.getfield 27, 3) := by decide +kernel
theorem dX2_addWay_73 : decode cX2_addWay 73 = .ok (.iload 5, 2) := by decide +kernel
theorem dX2_addWay_75 : decode cX2_addWay 75 = .ok (.iload 4, 2) := by decide +kernel
theorem dX2_addWay_77 : decode cX2_addWay 77 = .ok (.iastore, 1) := by decide +kernel
theorem dX2_addWay_78 : decode cX2_addWay 78 = .ok (.aload_n 0, 1) := by decide +kernel
theorem dX2_addWay_79 : decode cX2_addWay 79 = .ok (.getfield 30, 3) := by decide +kernel
theorem dX2_addWay_82 : decode cX2_addWay 82 = .ok (.iload 5, 2) := by decide +kernel
theorem dX2_addWay_84 : decode cX2_addWay 84 = .ok (.iconst (-1), 1) := by decide +kernel
theorem dX2_addWay_85 : decode cX2_addWay 85 = .ok (.iastore, 1) := by decide +kernel
theorem dX2_addWay_86 : decode cX2_addWay 86 = .ok (.iconst 2, 1) := by decide +kernel
theorem dX2_addWay_87 : decode cX2_addWay 87 = .ok (.iload_n 1, 1) := by decide +kernel
theorem dX2_addWay_88 : decode cX2_addWay 88 = .ok (.imul, 1) := by decide +kernel
theorem dX2_addWay_89 : decode cX2_addWay 89 = .ok (.iload_n 2, 1) := by decide +kernel
theorem dX2_addWay_90 : decode cX2_addWay 90 = .ok (.iadd, 1) := by decide +kernel
theorem dX2_addWay_91 : decode cX2_addWay 91 = .ok (.istore 6, 2) := by decide +kernel
theorem dX2_addWay_93 : decode cX2_addWay 93 = .ok (.aload_n 0, 1) := by decide +kernel
theorem dX2_addWay_94 : decode cX2_addWay 94 = .ok (.getfield 36, 3) := by decide +kernel
theorem dX2_addWay_97 : decode cX2_addWay 97 = .ok (.iload 6, 2) := by decide +kernel
theorem dX2_addWay_99 : decode cX2_addWay 99 = .ok (.iaload, 1) := by decide +kernel
theorem dX2_addWay_100 : decode cX2_addWay 100 = .ok (.istore 7, 2) := by decide +kernel
theorem dX2_addWay_102 : decode cX2_addWay 102 = .ok (.iload 7, 2) := by decide +kernel
theorem dX2_addWay_104 : decode cX2_addWay 104 = .ok (.iconst (-1), 1) := by decide +kernel
theorem dX2_addWay_105 : decode cX2_addWay 105 = .ok (.if_icmp .ne 15, 3) := by decide +kernel
theorem dX2_addWay_108 : decode cX2_addWay 108 = .ok (.aload_n 0, 1) := by decide +kernel
theorem dX2_addWay_109 : decode cX2_addWay 109 = .ok (.getfield 33, 3) := by decide +kernel
theorem dX2_addWay_112 : decode cX2_addWay 112 = .ok (.iload 6, 2) := by decide +kernel
theorem dX2_addWay_114 : decode cX2_addWay 114 = .ok (.iload 5, 2) := by decide +kernel
theorem dX2_addWay_116 : decode cX2_addWay 116 = .ok (.iastore, 1) := by decide +kernel
theorem dX2_addWay_117 : decode cX2_addWay 117 = .ok (.goto 12, 3) := by decide +kernel
theorem dX2_addWay_120 : decode cX2_addWay 120 = .ok (.aload_n 0, 1) := by decide +kernel
theorem dX2_addWay_121 : decode cX2_addWay 121 = .ok (.getfield 30, 3) := by decide +kernel
theorem dX2_addWay_124 : decode cX2_addWay 124 = .ok (.iload 7, 2) := by decide +kernel
theorem dX2_addWay_126 : decode cX2_addWay 126 = .ok (.iload 5, 2) := by decide +kernel
theorem dX2_addWay_128 : decode cX2_addWay 128 = .ok (.iastore, 1) := by decide +kernel
theorem dX2_addWay_129 : decode cX2_addWay 129 = .ok (.aload_n 0, 1) := by decide +kernel
theorem dX2_addWay_130 : decode cX2_addWay 130 = .ok (.getfield 36, 3) := by decide +kernel
theorem dX2_addWay_133 : decode cX2_addWay 133 = .ok (.iload 6, 2) := by decide +kernel
theorem dX2_addWay_135 : decode cX2_addWay 135 = .ok (.iload 5, 2) := by decide +kernel
theorem dX2_addWay_137 : decode cX2_addWay 137 = .ok (.iastore, 1) := by decide +kernel
theorem dX2_addWay_138 : decode cX2_addWay 138 = .ok (.iload 5, 2) := by decide +kernel
theorem dX2_addWay_140 : decode cX2_addWay 140 = .ok (.ireturn, 1) := by decide +kernel
set_option maxRecDepth 20000 in
theorem ggX2_addToken_X2_hasPort : GoodIn wsX2_addToken wsX2_hasPort := goodIn_r _ [9, 10, 11, 12, 13, 8, 14, 15, 16, 17, 18, 19, 20, 21, 22, 23, 24, 25, 26, 27, 28, 29, 30] (by decide +kernel) (by decide +kernel)
set_option maxRecDepth 20000 in
theorem gX2_addToken_X2_hasPort : GoodIn wsX2_addToken (wsV RX2 81 RX2 yX2_hasPort wsX2_hasPort) := goodIn_app (goodIn_of _ (by decide +kernel)) ggX2_addToken_X2_hasPort
theorem dX2_addToken_0 : decode cX2_addToken 0 = .ok (.aload_n 0, 1) := by decide +kernel
theorem dX2_addToken_1 : decode cX2_addToken 1 = .ok (.iload_n 1, 1) := by decide +kernel
theorem dX2_addToken_2 : decode cX2_addToken 2 = .ok (.iload_n 2, 1) := by decide +kernel
theorem dX2_addToken_3 : decode cX2_addToken 3 = .ok (.invokevirtual 81, 3) := by decide +kernel
theorem dX2_addToken_6 : decode cX2_addToken 6 = .ok (.ifCond .eq 12, 3) := by decide +kernel
theorem dX2_addToken_9 : decode cX2_addToken 9 = .ok (.aload_n 0, 1) := by decide +kernel
theorem dX2_addToken_10 : decode cX2_addToken 10 = .ok (.getfield 87, 3) := by decide +kernel
theorem dX2_addToken_13 : decode cX2_addToken 13 = .ok (.bipush 40, 2) := by decide +kernel
theorem dX2_addToken_15 : decode cX2_addToken 15 = .ok (.if_icmp .lt 5, 3) := by decide +kernel
theorem dX2_addToken_18 : decode cX2_addToken 18 = .ok (.iconst (-1), 1) := by decide +kernel
theorem dX2_addToken_19 : decode cX2_addToken 19 = .ok (.ireturn, 1) := by decide +kernel
theorem dX2_addToken_20 : decode cX2_addToken 20 = .ok (.aload_n 0, 1) := by decide +kernel
theorem dX2_addToken_21 : decode cX2_addToken 21 = .ok (.getfield 39, 3) := by decide +kernel
theorem dX2_addToken_24 : decode cX2_addToken 24 = .ok (.aload_n 0, 1) := by decide +kernel
theorem dX2_addToken_25 : decode cX2_addToken 25 = .ok (.getfield 87, 3) := by decide +kernel
theorem dX2_addToken_28 : decode cX2_addToken 28 = .ok (.iload_n 1, 1) := by decide +kernel
theorem dX2_addToken_29 : decode cX2_addToken 29 = .ok (.iastore, 1) := by decide +kernel
theorem dX2_addToken_30 : decode cX2_addToken 30 = .ok (.aload_n 0, 1) := by decide +kernel
theorem dX2_addToken_31 : decode cX2_addToken 31 = .ok (.getfield 42, 3) := by decide +kernel
theorem dX2_addToken_34 : decode cX2_addToken 34 = .ok (.aload_n 0, 1) := by decide +kernel
theorem dX2_addToken_35 : decode cX2_addToken 35 = .ok (.getfield 87, 3) := by decide +kernel
theorem dX2_addToken_38 : decode cX2_addToken 38 = .ok (.iload_n 2, 1) := by decide +kernel
theorem dX2_addToken_39 : decode cX2_addToken 39 = .ok (.iastore, 1) := by decide +kernel
theorem dX2_addToken_40 : decode cX2_addToken 40 = .ok (.aload_n 0, 1) := by decide +kernel
theorem dX2_addToken_41 : decode cX2_addToken 41 = .ok (.getfield 45, 3) := by decide +kernel
theorem dX2_addToken_44 : decode cX2_addToken 44 = .ok (.aload_n 0, 1) := by decide +kernel
theorem dX2_addToken_45 : decode cX2_addToken 45 = .ok (.getfield 87, 3) := by decide +kernel
theorem dX2_addToken_48 : decode cX2_addToken 48 = .ok (.iload_n 3, 1) := by decide +kernel
theorem dX2_addToken_49 : decode cX2_addToken 49 = .ok (.iastore, 1) := by decide +kernel
theorem dX2_addToken_50 : decode cX2_addToken 50 = .ok (.aload_n 0, 1) := by decide +kernel
theorem dX2_addToken_51 : decode cX2_addToken 51 = .ok (.dup, 1) := by decide +kernel
theorem dX2_addToken_52 : decode cX2_addToken 52 = .ok (.getfield 87, 3) := by decide +kernel
theorem dX2_addToken_55 : decode cX2_addToken 55 = .ok (.iconst 1, 1) := by decide +kernel
theorem dX2_addToken_56 : decode cX2_addToken 56 = .ok (.iadd, 1) := by decide +kernel
theorem dX2_addToken_57 : decode cX2_addToken 57 = .ok (.putfield 87, 3) := by decide +kernel
theorem dX2_addToken_60 : decode cX2_addToken 60 = .ok (.aload_n 0, 1) := by decide +kernel
theorem dX2_addToken_61 : decode cX2_addToken 61 = .ok (.getfield 87, 3) := by decide +kernel
theorem dX2_addToken_64 : decode cX2_addToken 64 = .ok (.ireturn, 1) := by decide +kernel
theorem dX2_dropTokens_0 : decode cX2_dropTokens 0 = .ok (.aload_n 0, 1) := by decide +kernel
theorem dX2_dropTokens_1 : decode cX2_dropTokens 1 = .ok (.iconst 0, 1) := by decide +kernel
theorem dX2_dropTokens_2 : decode cX2_dropTokens 2 = .ok (.putfield 87, 3) := by decide +kernel
theorem dX2_dropTokens_5 : decode cX2_dropTokens 5 = .ok (.return_, 1) := by decide +kernel
set_option maxRecDepth 20000 in
theorem ggX2_dropWays_J7_fill_53178 : GoodIn wsX2_dropWays wsJ7_fill_53178 := goodIn_r _ [7] (by decide +kernel) (by decide +kernel)
set_option maxRecDepth 20000 in
theorem gX2_dropWays_J7_fill_53178 : GoodIn wsX2_dropWays (va_wsS RX2 48 yJ7_fill_53178 wsJ7_fill_53178) := goodIn_app (goodIn_of _ (by decide +kernel)) ggX2_dropWays_J7_fill_53178
theorem dX2_dropWays_0 : decode cX2_dropWays 0 = .ok (.aload_n 0, 1) := by decide +kernel
theorem dX2_dropWays_1 : decode cX2_dropWays 1 = .ok (.iconst 0, 1) := by decide +kernel
theorem dX2_dropWays_2 : decode cX2_dropWays 2 = .ok (.putfield 84, 3) := by decide +kernel
theorem dX2_dropWays_5 : decode cX2_dropWays 5 = .ok (.aload_n 0, 1) := by decide +kernel
theorem dX2_dropWays_6 : decode cX2_dropWays 6 = .ok (.getfield 33, 3) := by decide +kernel
theorem dX2_dropWays_9 : decode cX2_dropWays 9 = .ok (.iconst (-1), 1) := by decide +kernel
theorem dX2_dropWays_10 : decode cX2_dropWays 10 = .ok (.invokestatic 48, 3) := by decide +kernel
theorem dX2_dropWays_13 : decode cX2_dropWays 13 = .ok (.aload_n 0, 1) := by decide +kernel
theorem dX2_dropWays_14 : decode cX2_dropWays 14 = .ok (.getfield 36, 3) := by decide +kernel
theorem dX2_dropWays_17 : decode cX2_dropWays 17 = .ok (.iconst (-1), 1) := by decide +kernel
theorem dX2_dropWays_18 : decode cX2_dropWays 18 = .ok (.invokestatic 48, 3) := by decide +kernel
theorem dX2_dropWays_21 : decode cX2_dropWays 21 = .ok (.return_, 1) := by decide +kernel
set_option maxRecDepth 20000 in
theorem ggX2_dropActs_J7_fill_53178 : GoodIn wsX2_dropActs wsJ7_fill_53178 := goodIn_r _ [6] (by decide +kernel) (by decide +kernel)
set_option maxRecDepth 20000 in
theorem gX2_dropActs_J7_fill_53178 : GoodIn wsX2_dropActs (va_wsS RX2 48 yJ7_fill_53178 wsJ7_fill_53178) := goodIn_app (goodIn_of _ (by decide +kernel)) ggX2_dropActs_J7_fill_53178
theorem dX2_dropActs_0 : decode cX2_dropActs 0 = .ok (.aload_n 0, 1) := by decide +kernel
theorem dX2_dropActs_1 : decode cX2_dropActs 1 = .ok (.iconst 0, 1) := by decide +kernel
theorem dX2_dropActs_2 : decode cX2_dropActs 2 = .ok (.putfield 54, 3) := by decide +kernel
theorem dX2_dropActs_5 : decode cX2_dropActs 5 = .ok (.aload_n 0, 1) := by decide +kernel
theorem dX2_dropActs_6 : decode cX2_dropActs 6 = .ok (.getfield 21, 3) := by decide +kernel
theorem dX2_dropActs_9 : decode cX2_dropActs 9 = .ok (.iconst (-1), 1) := by decide +kernel
theorem dX2_dropActs_10 : decode cX2_dropActs 10 = .ok (.invokestatic 48, 3) := by decide +kernel
theorem dX2_dropActs_13 : decode cX2_dropActs 13 = .ok (.return_, 1) := by decide +kernel
theorem dX2_firstWayOf_0 : decode cX2_firstWayOf 0 = .ok (.aload_n 0, 1) := by decide +kernel
theorem dX2_firstWayOf_1 : decode cX2_firstWayOf 1 = .ok (.getfield 33, 3) := by decide +kernel
theorem dX2_firstWayOf_4 : decode cX2_firstWayOf 4 = .ok (.iconst 2, 1) := by decide +kernel
theorem dX2_firstWayOf_5 : decode cX2_firstWayOf 5 = .ok (.iload_n 1, 1) := by decide +kernel
theorem dX2_firstWayOf_6 : decode cX2_firstWayOf 6 = .ok (.imul, 1) := by decide +kernel
theorem dX2_firstWayOf_7 : decode cX2_firstWayOf 7 = .ok (.iload_n 2, 1) := by decide +kernel
theorem dX2_firstWayOf_8 : decode cX2_firstWayOf 8 = .ok (.iadd, 1) := by decide +kernel
theorem dX2_firstWayOf_9 : decode cX2_firstWayOf 9 = .ok (.iaload, 1) := by decide +kernel
theorem dX2_firstWayOf_10 : decode cX2_firstWayOf 10 = .ok (.ireturn, 1) := by decide +kernel
set_option maxRecDepth 20000 in
theorem ggX2_countWays_X2_firstWayOf : GoodIn wsX2_countWays wsX2_firstWayOf := goodIn_r _ [6, 7, 8, 9, 10, 11, 12, 13, 14, 15, 16, 17, 18, 19, 20, 21, 22] (by decide +kernel) (by decide +kernel)
set_option maxRecDepth 20000 in
theorem gX2_countWays_X2_firstWayOf : GoodIn wsX2_countWays (wsV RX2 90 RX2 yX2_firstWayOf wsX2_firstWayOf) := goodIn_app (goodIn_of _ (by decide +kernel)) ggX2_countWays_X2_firstWayOf
theorem dX2_countWays_0 : decode cX2_countWays 0 = .ok (.iconst 0, 1) := by decide +kernel
theorem dX2_countWays_1 : decode cX2_countWays 1 = .ok (.istore_n 3, 1) := by decide +kernel
theorem dX2_countWays_2 : decode cX2_countWays 2 = .ok (.aload_n 0, 1) := by decide +kernel
theorem dX2_countWays_3 : decode cX2_countWays 3 = .ok (.iload_n 1, 1) := by decide +kernel
theorem dX2_countWays_4 : decode cX2_countWays 4 = .ok (.iload_n 2, 1) := by decide +kernel
theorem dX2_countWays_5 : decode cX2_countWays 5 = .ok (.invokevirtual 90, 3) := by decide +kernel
theorem dX2_countWays_8 : decode cX2_countWays 8 = .ok (.istore 4, 2) := by decide +kernel
theorem dX2_countWays_10 : decode cX2_countWays 10 = .ok (.iload 4, 2) := by decide +kernel
theorem dX2_countWays_12 : decode cX2_countWays 12 = .ok (.iconst (-1), 1) := by decide +kernel
theorem dX2_countWays_13 : decode cX2_countWays 13 = .ok (.if_icmp .eq 25, 3) := by decide +kernel
theorem dX2_countWays_16 : decode cX2_countWays 16 = .ok (.iload_n 3, 1) := by decide +kernel
theorem dX2_countWays_17 : decode cX2_countWays 17 = .ok (.sipush 300, 3) := by decide +kernel
theorem dX2_countWays_20 : decode cX2_countWays 20 = .ok (.if_icmp .ge 18, 3) := by decide +kernel
theorem dX2_countWays_23 : decode cX2_countWays 23 = .ok (.iinc 3 1, 3) := by decide +kernel
theorem dX2_countWays_26 : decode cX2_countWays 26 = .ok (.aload_n 0, 1) := by decide +kernel
theorem dX2_countWays_27 : decode cX2_countWays 27 = .ok (.getfield 30, 3) := by decide +kernel
theorem dX2_countWays_30 : decode cX2_countWays 30 = .ok (.iload 4, 2) := by decide +kernel
theorem dX2_countWays_32 : decode cX2_countWays 32 = .ok (.iaload, 1) := by decide +kernel
theorem dX2_countWays_33 : decode cX2_countWays 33 = .ok (.istore 4, 2) := by decide +kernel
theorem dX2_countWays_35 : decode cX2_countWays 35 = .ok (.goto (-25), 3) := by decide +kernel
theorem dX2_countWays_38 : decode cX2_countWays 38 = .ok (.iload_n 3, 1) := by decide +kernel
theorem dX2_countWays_39 : decode cX2_countWays 39 = .ok (.ireturn, 1) := by decide +kernel
theorem dX2_countTokens_0 : decode cX2_countTokens 0 = .ok (.iconst 0, 1) := by decide +kernel
theorem dX2_countTokens_1 : decode cX2_countTokens 1 = .ok (.istore_n 2, 1) := by decide +kernel
theorem dX2_countTokens_2 : decode cX2_countTokens 2 = .ok (.iconst 0, 1) := by decide +kernel
theorem dX2_countTokens_3 : decode cX2_countTokens 3 = .ok (.istore_n 3, 1) := by decide +kernel
theorem dX2_countTokens_4 : decode cX2_countTokens 4 = .ok (.iload_n 3, 1) := by decide +kernel
theorem dX2_countTokens_5 : decode cX2_countTokens 5 = .ok (.aload_n 0, 1) := by decide +kernel
theorem dX2_countTokens_6 : decode cX2_countTokens 6 = .ok (.getfield 87, 3) := by decide +kernel
theorem dX2_countTokens_9 : decode cX2_countTokens 9 = .ok (.if_icmp .ge 22, 3) := by decide +kernel
theorem dX2_countTokens_12 : decode cX2_countTokens 12 = .ok (.aload_n 0, 1) := by decide +kernel
theorem dX2_countTokens_13 : decode cX2_countTokens 13 = .ok (.getfield 39, 3) := by decide +kernel
theorem dX2_countTokens_16 : decode cX2_countTokens 16 = .ok (.iload_n 3, 1) := by decide +kernel
theorem dX2_countTokens_17 : decode cX2_countTokens 17 = .ok (.iaload, 1) := by decide +kernel
theorem dX2_countTokens_18 : decode cX2_countTokens 18 = .ok (.iload_n 1, 1) := by decide +kernel
theorem dX2_countTokens_19 : decode cX2_countTokens 19 = .ok (.if_icmp .ne 6, 3) := by decide +kernel
theorem dX2_countTokens_22 : decode cX2_countTokens 22 = .ok (.iinc 2 1, 3) := by decide +kernel
theorem dX2_countTokens_25 : decode cX2_countTokens 25 = .ok (.iinc 3 1, 3) := by decide +kernel
theorem dX2_countTokens_28 : decode cX2_countTokens 28 = .ok (.goto (-24), 3) := by decide +kernel
theorem dX2_countTokens_31 : decode cX2_countTokens 31 = .ok (.iload_n 2, 1) := by decide +kernel
theorem dX2_countTokens_32 : decode cX2_countTokens 32 = .ok (.ireturn, 1) := by decide +kernel
theorem dX2_parameterFor_0 : decode cX2_parameterFor 0 = .ok (.bipush 10, 2) := by decide +kernel
theorem dX2_parameterFor_2 : decode cX2_parameterFor 2 = .ok (.aload_n 0, 1) := by decide +kernel
theorem dX2_parameterFor_3 : decode cX2_parameterFor 3 = .ok (.getfield 15, 3) := by decide +kernel
theorem dX2_parameterFor_6 : decode cX2_parameterFor 6 = .ok (.iload_n 1, 1) := by decide +kernel
theorem dX2_parameterFor_7 : decode cX2_parameterFor 7 = .ok (.iaload, 1) := by decide +kernel
theorem dX2_parameterFor_8 : decode cX2_parameterFor 8 = .ok (.imul, 1) := by decide +kernel
theorem dX2_parameterFor_9 : decode cX2_parameterFor 9 = .ok (.iload_n 2, 1) := by decide +kernel
theorem dX2_parameterFor_10 : decode cX2_parameterFor 10 = .ok (.iadd, 1) := by decide +kernel
theorem dX2_parameterFor_11 : decode cX2_parameterFor 11 = .ok (.istore_n 3, 1) := by decide +kernel
theorem dX2_parameterFor_12 : decode cX2_parameterFor 12 = .ok (.iload_n 3, 1) := by decide +kernel
theorem dX2_parameterFor_13 : decode cX2_parameterFor 13 = .ok (.ifCond .lt 18, 3) := by decide +kernel
theorem dX2_parameterFor_16 : decode cX2_parameterFor 16 = .ok (.iload_n 3, 1) := by decide +kernel
theorem dX2_parameterFor_17 : decode cX2_parameterFor 17 = .ok (.bipush 100, 2) := by decide +kernel
theorem dX2_parameterFor_19 : decode cX2_parameterFor 19 = .ok (.if_icmp .ge 12, 3) := by decide +kernel
theorem dX2_parameterFor_22 : decode cX2_parameterFor 22 = .ok (.aload_n 0, 1) := by decide +kernel
theorem dX2_parameterFor_23 : decode cX2_parameterFor 23 = .ok (.getfield 21, 3) := by decide +kernel
theorem dX2_parameterFor_26 : decode cX2_parameterFor 26 = .ok (.iload_n 3, 1) := by decide +kernel
theorem dX2_parameterFor_27 : decode cX2_parameterFor 27 = .ok (.iaload, 1) := by decide +kernel
theorem dX2_parameterFor_28 : decode cX2_parameterFor 28 = .ok (.goto 4, 3) := by decide +kernel
theorem dX2_parameterFor_31 : decode cX2_parameterFor 31 = .ok (.iconst (-1), 1) := by decide +kernel
theorem dX2_parameterFor_32 : decode cX2_parameterFor 32 = .ok (.ireturn, 1) := by decide +kernel
theorem dX3_exists_0 : decode cX3_exists 0 = .ok (.iload_n 0, 1) := by decide +kernel
theorem dX3_exists_1 : decode cX3_exists 1 = .ok (.ifCond .lt 13, 3) := by decide +kernel
theorem dX3_exists_4 : decode cX3_exists 4 = .ok (.iload_n 0, 1) := by decide +kernel
theorem dX3_exists_5 : decode cX3_exists 5 = .ok (.bipush 21, 2) := by decide +kernel
theorem dX3_exists_7 : decode cX3_exists 7 = .ok (.if_icmp .gt 7, 3) := by decide +kernel
theorem dX3_exists_10 : decode cX3_exists 10 = .ok (.iconst 1, 1) := by decide +kernel
theorem dX3_exists_11 : decode cX3_exists 11 = .ok (.goto 4, 3) := by decide +kernel
theorem dX3_exists_14 : decode cX3_exists 14 = .ok (.iconst 0, 1) := by decide +kernel
theorem dX3_exists_15 : decode cX3_exists 15 = .ok (.ireturn, 1) := by decide +kernel
theorem dX3_allowsNumber_0 : decode cX3_allowsNumber 0 = .ok (.iload_n 0, 1) := by decide +kernel
theorem dX3_allowsNumber_1 : decode cX3_allowsNumber 1 = .ok (.tableswitch 99 11 21 #[59, 59, 59, 59, 75, 99, 99, 99, 99, 99, 59], 59) := by decide +kernel
theorem dX3_allowsNumber_60 : decode cX3_allowsNumber 60 = .ok (.iload_n 1, 1) := by decide +kernel
theorem dX3_allowsNumber_61 : decode cX3_allowsNumber 61 = .ok (.ifCond .lt 13, 3) := by decide +kernel
theorem dX3_allowsNumber_64 : decode cX3_allowsNumber 64 = .ok (.iload_n 1, 1) := by decide +kernel
theorem dX3_allowsNumber_65 : decode cX3_allowsNumber 65 = .ok (.bipush 9, 2) := by decide +kernel
theorem dX3_allowsNumber_67 : decode cX3_allowsNumber 67 = .ok (.if_icmp .gt 7, 3) := by decide +kernel
theorem dX3_allowsNumber_70 : decode cX3_allowsNumber 70 = .ok (.iconst 1, 1) := by decide +kernel
theorem dX3_allowsNumber_71 : decode cX3_allowsNumber 71 = .ok (.goto 4, 3) := by decide +kernel
theorem dX3_allowsNumber_74 : decode cX3_allowsNumber 74 = .ok (.iconst 0, 1) := by decide +kernel
theorem dX3_allowsNumber_75 : decode cX3_allowsNumber 75 = .ok (.ireturn, 1) := by decide +kernel
theorem dX3_allowsNumber_76 : decode cX3_allowsNumber 76 = .ok (.iload_n 1, 1) := by decide +kernel
theorem dX3_allowsNumber_77 : decode cX3_allowsNumber 77 = .ok (.ifCond .lt 21, 3) := by decide +kernel
theorem dX3_allowsNumber_80 : decode cX3_allowsNumber 80 = .ok (.iload_n 1, 1) := by decide +kernel
theorem dX3_allowsNumber_81 : decode cX3_allowsNumber 81 = .ok (.bipush 99, 2) := by decide +kernel
theorem dX3_allowsNumber_83 : decode cX3_allowsNumber 83 = .ok (.if_icmp .gt 15, 3) := by decide +kernel
theorem dX3_allowsNumber_86 : decode cX3_allowsNumber 86 = .ok (.iload_n 1, 1) := by decide +kernel
theorem dX3_allowsNumber_87 : decode cX3_allowsNumber 87 = .ok (.bipush 10, 2) := by decide +kernel
theorem dX3_allowsNumber_89 : decode cX3_allowsNumber 89 = .ok (.irem, 1) := by decide +kernel
theorem dX3_allowsNumber_90 : decode cX3_allowsNumber 90 = .ok (.iconst 3, 1) := by decide +kernel
theorem dX3_allowsNumber_91 : decode cX3_allowsNumber 91 = .ok (.if_icmp .ge 7, 3) := by decide +kernel
theorem dX3_allowsNumber_94 : decode cX3_allowsNumber 94 = .ok (.iconst 1, 1) := by decide +kernel
theorem dX3_allowsNumber_95 : decode cX3_allowsNumber 95 = .ok (.goto 4, 3) := by decide +kernel
theorem dX3_allowsNumber_98 : decode cX3_allowsNumber 98 = .ok (.iconst 0, 1) := by decide +kernel
theorem dX3_allowsNumber_99 : decode cX3_allowsNumber 99 = .ok (.ireturn, 1) := by decide +kernel
theorem dX3_allowsNumber_100 : decode cX3_allowsNumber 100 = .ok (.iconst 1, 1) := by decide +kernel
theorem dX3_allowsNumber_101 : decode cX3_allowsNumber 101 = .ok (.ireturn, 1) := by decide +kernel
theorem dX3_allowsPorts_0 : decode cX3_allowsPorts 0 = .ok (.iload_n 0, 1) := by decide +kernel
end
section
/-! the state of one side (class or reference): int fields, int rows, long rows, by number -/
abbrev St : Type := (Nat → Int32) × (Nat → Nat → Int32) × (Nat → Nat → Int64)
def gS (σ : St) (k : Nat) : Int32 := σ.1 k
def gA (σ : St) (k : Nat) : Nat → Int32 := σ.2.1 k
def gL (σ : St) (k : Nat) : Nat → Int64 := σ.2.2 k
def sS (σ : St) (k : Nat) (v : Int32) : St := (upd σ.1 k v, σ.2)
def fA (σ : St) (k : Nat) (f : Nat → Int32) : St := (σ.1, va_up σ.2.1 k f, σ.2.2)
def fL (σ : St) (k : Nat) (f : Nat → Int64) : St := (σ.1, σ.2.1, va_up σ.2.2 k f)
def sA (σ : St) (k i : Nat) (v : Int32) : St := fA σ k (upd (gA σ k) i v)
def sL (σ : St) (k i : Nat) (v : Int64) : St := fL σ k (vp_updL (gL σ k) i v)
def zb (r : Int32) : Prop := r = 0 ∨ r = 1
def jfill {α : Type} (f : Nat → α) (n : Nat) (v : α) : Nat → α := fun i => if i < n then v else f i
def jports (j : Nat) : Int32 := ([1, 1, 2, 2, 2, 2, 2, 2, 2, 1, 2, 1, 1, 1, 0, 1, 1, 1, 2, 3, 1, 1] : List Int32).getD j 0
/- wdC: ints: 0 TokenFloor.hasRun, 1 TokenFloor$Graph.acts, 2 TokenFloor$Graph.ways, 3 TokenFloor$Graph.tokens, 4 TokenFloor$Machine.how, 5 TokenFloor$Machine.steps, 6 TokenFloor$Machine.tickCount, 7 TokenFloor$Machine.most, 8 TokenFloor$Machine.lost, 9 TokenFloor$Machine.strays, 10 TokenFloor$Machine.clashAct, 11 TokenFloor$Store.waiting, 12 TokenFloor$Store.rows, 13 TokenFloor$Store.cells, 14 TokenFloor$Colours.count, 15 TokenFloor$Floor.left, 16 TokenFloor$Floor.count, 17 TokenFloor$ReadyRow.head, 18 TokenFloor$ReadyRow.tail; int rows: 0 TokenFloor$Graph.kind(80), 1 TokenFloor$Graph.number(80), 2 TokenFloor$Graph.ports(80), 3 TokenFloor$Graph.parameter(100), 4 TokenFloor$Graph.wayTo(300), 5 TokenFloor$Graph.wayPort(300), 6 TokenFloor$Graph.nextWay(300), 7 TokenFloor$Graph.firstWay(160), 8 TokenFloor$Graph.lastWay(160), 9 TokenFloor$Graph.tokenAct(40), 10 TokenFloor$Graph.tokenPort(40), 11 TokenFloor$Graph.tokenValue(40), 12 TokenFloor$Machine.firings(80), 13 TokenFloor$Store.rowOfAct(80), 14 TokenFloor$Store.start(300), 15 TokenFloor$Store.size(300), 16 TokenFloor$Store.firstReader(2000), 17 TokenFloor$Store.lastReader(2000), 18 TokenFloor$Store.nextReader(3000), 19 TokenFloor$Colours.origin(600), 20 TokenFloor$Colours.outer(600), 21 TokenFloor$Colours.key(600), 22 TokenFloor$Colours.firstReached(600), 23 TokenFloor$Colours.nextReached(600), 24 TokenFloor$Floor.actOf(3000), 25 TokenFloor$Floor.colourOf(3000), 26 TokenFloor$Floor.had(3000), 27 TokenFloor$Floor.firstPair(600), 28 TokenFloor$Floor.nextPair(3000), 29 TokenFloor$ReadyRow.row(3000); long rows: 0 TokenFloor.figuresA(100), 1 TokenFloor.figuresB(100), 2 TokenFloor$Machine.ends(10), 3 TokenFloor$Store.written(2000), 4 TokenFloor$Floor.came(9000) -/
/- wdM: ints: 0 TokenFloorModel.acts, 1 TokenFloorModel.ways, 2 TokenFloorModel.tokens, 3 TokenFloorModel.isRun, 4 TokenFloorModel.isStopped, 5 TokenFloorModel.how, 6 TokenFloorModel.steps, 7 TokenFloorModel.ticked, 8 TokenFloorModel.most, 9 TokenFloorModel.lost, 10 TokenFloorModel.strays, 11 TokenFloorModel.clash, 12 TokenFloorModel.colours, 13 TokenFloorModel.pairs, 14 TokenFloorModel.readyMany, 15 TokenFloorModel.rows, 16 TokenFloorModel.cells, 17 TokenFloorModel.readers; int rows: 0 TokenFloorModel.kind(80), 1 TokenFloorModel.own(80), 2 TokenFloorModel.ports(80), 3 TokenFloorModel.wayFrom(300), 4 TokenFloorModel.waySide(300), 5 TokenFloorModel.wayTo(300), 6 TokenFloorModel.wayPort(300), 7 TokenFloorModel.tokenAct(40), 8 TokenFloorModel.tokenPort(40), 9 TokenFloorModel.tokenValue(40), 10 TokenFloorModel.cSort(600), 11 TokenFloorModel.cOf(600), 12 TokenFloorModel.cTurn(600), 13 TokenFloorModel.cIn(600), 14 TokenFloorModel.pAct(3000), 15 TokenFloorModel.pColour(3000), 16 TokenFloorModel.pHas(3000), 17 TokenFloorModel.pHow(3000), 18 TokenFloorModel.pNext(3000), 19 TokenFloorModel.pKind(9000), 20 TokenFloorModel.pValue(9000), 21 TokenFloorModel.pOf(9000), 22 TokenFloorModel.first(80), 23 TokenFloorModel.fired(80), 24 TokenFloorModel.ready(3000), 25 TokenFloorModel.rFrom(300), 26 TokenFloorModel.rSize(300), 27 TokenFloorModel.rAct(300), 28 TokenFloorModel.rColour(300), 29 TokenFloorModel.cellKind(2000), 30 TokenFloorModel.cellValue(2000), 31 TokenFloorModel.cellOf(2000), 32 TokenFloorModel.readCell(3000), 33 TokenFloorModel.readPair(3000), 34 TokenFloorModel.endKind(10), 35 TokenFloorModel.endValue(10), 36 TokenFloorModel.endOf(10), 37 TokenFloorModel.was(116), 38 TokenFloorModel.is(116); long rows:  -/
def w_X0_add (σ : St) (a1 : Int32) (a2 : Int32) (a3 : Int32) (K : Int32 → St → Prop) : Prop :=
  vp_in (gS σ 14) 600 ∧ (vp_in (gS σ 14) 600 ∧ (vp_in (gS σ 14) 600 ∧ (vp_in (gS σ 14) 600 ∧ (vp_in (gS σ 14) 600 ∧ (K (gS σ 14) (sA (sA (sA (sA (sA (sS σ 14 ((gS σ 14) + 1)) 21 ((gS σ 14)).toNatClampNeg a1) 19 ((gS σ 14)).toNatClampNeg a2) 20 ((gS σ 14)).toNatClampNeg a3) 22 ((gS σ 14)).toNatClampNeg (-1)) 23 ((gS σ 14)).toNatClampNeg (-1)))))))

def w_X0_reset (σ : St) (K : St → Prop) : Prop :=
  w_X0_add (sS σ 14 0) (-1) (-1) (-1) (fun (r_2 : Int32) (u_1 : St) => K u_1)

def b_X0_reach_54 (K : Int32 → St → Prop) (σ : St) (x1 : Int32) (x2 : Int32) (x3 : Int32) (x4 : Int32) : Prop :=
  ((gS σ 14) < 600 → (w_X0_add σ x2 x3 x4 (fun (r_2 : Int32) (u_1 : St) => vp_in x1 600 ∧ (vp_in r_2 600 ∧ (vp_in x1 600 ∧ (K r_2 (sA (sA u_1 23 (r_2).toNatClampNeg (gA u_1 22 (x1).toNatClampNeg)) 22 (x1).toNatClampNeg r_2))))))) ∧ (¬ (gS σ 14) < 600 → (K (-1) σ))

def b_X0_reach_11 (L11 : St → Int32 → Int32 → Int32 → Int32 → Int32 → Int32 → Prop) (K : Int32 → St → Prop) (σ : St) (x1 : Int32) (x2 : Int32) (x3 : Int32) (x4 : Int32) (x5 : Int32) (x6 : Int32) : Prop :=
  (600 ≤ x6 → (b_X0_reach_54 K σ x1 x2 x3 x4)) ∧ (¬ 600 ≤ x6 → ((x5 = (-1) → (b_X0_reach_54 K σ x1 x2 x3 x4)) ∧ (¬ x5 = (-1) → (vp_in x5 600 ∧ ((¬ (gA σ 21 (x5).toNatClampNeg) = x2 → (vp_in x5 600 ∧ (L11 σ x1 x2 x3 x4 (gA σ 23 (x5).toNatClampNeg) (x6 + 1)))) ∧ ((gA σ 21 (x5).toNatClampNeg) = x2 → (K x5 σ)))))))

def w_X0_reach_11 (K : Int32 → St → Prop) : Nat → St → Int32 → Int32 → Int32 → Int32 → Int32 → Int32 → Prop
  | 0 => fun _ _ _ _ _ _ _ => False
  | n + 1 => fun σ x1 x2 x3 x4 x5 x6 => b_X0_reach_11 (w_X0_reach_11 K n) K σ x1 x2 x3 x4 x5 x6

def w_X0_reach (σ : St) (a1 : Int32) (a2 : Int32) (a3 : Int32) (a4 : Int32) (K : Int32 → St → Prop) : Prop :=
  vp_in a1 600 ∧ (∃ n : Nat, w_X0_reach_11 K n σ a1 a2 a3 a4 (gA σ 22 (a1).toNatClampNeg) 0)

def w_X0_enter (σ : St) (a1 : Int32) (a2 : Int32) (K : Int32 → St → Prop) : Prop :=
  w_X0_reach σ a1 a2 a2 a1 (fun (r_2 : Int32) (u_1 : St) => K r_2 u_1)

def w_X0_nextTurn (σ : St) (a1 : Int32) (K : Int32 → St → Prop) : Prop :=
  vp_in a1 600 ∧ (vp_in a1 600 ∧ (w_X0_reach σ a1 90 (gA σ 19 (a1).toNatClampNeg) (gA σ 20 (a1).toNatClampNeg) (fun (r_2 : Int32) (u_1 : St) => K r_2 u_1)))

def w_X0_callBy (σ : St) (a1 : Int32) (a2 : Int32) (K : Int32 → St → Prop) : Prop :=
  w_X0_reach σ a1 (10 + a2) (10 + a2) a1 (fun (r_2 : Int32) (u_1 : St) => K r_2 u_1)

def w_X0_isTurnOf (σ : St) (a1 : Int32) (a2 : Int32) (K : Int32 → St → Prop) : Prop :=
  vp_in a1 600 ∧ ((¬ (gA σ 19 (a1).toNatClampNeg) = a2 → (K 0 σ)) ∧ ((gA σ 19 (a1).toNatClampNeg) = a2 → (K 1 σ)))

def w_X0_outerOf (σ : St) (a1 : Int32) (K : Int32 → St → Prop) : Prop :=
  vp_in a1 600 ∧ (K (gA σ 20 (a1).toNatClampNeg) σ)

def w_X0_callerOf (σ : St) (a1 : Int32) (K : Int32 → St → Prop) : Prop :=
  vp_in a1 600 ∧ (((gA σ 19 (a1).toNatClampNeg) < 10 → (K (-1) σ)) ∧ (¬ (gA σ 19 (a1).toNatClampNeg) < 10 → (vp_in a1 600 ∧ (K ((gA σ 19 (a1).toNatClampNeg) - 10) σ))))

def w_X1_reset (σ : St) (K : St → Prop) : Prop :=
  K (fA (sS (sS σ 15 0) 16 0) 27 (jfill (gA (sS (sS σ 15 0) 16 0) 27) 600 (-1)))

def b_X1_find_10 (L10 : St → Int32 → Int32 → Int32 → Prop) (K : Int32 → St → Prop) (σ : St) (x1 : Int32) (x3 : Int32) (x4 : Int32) : Prop :=
  (80 ≤ x4 → (K (-1) σ)) ∧ (¬ 80 ≤ x4 → ((x3 = (-1) → (K (-1) σ)) ∧ (¬ x3 = (-1) → (vp_in x3 3000 ∧ ((¬ (gA σ 24 (x3).toNatClampNeg) = x1 → (vp_in x3 3000 ∧ (L10 σ x1 (gA σ 28 (x3).toNatClampNeg) (x4 + 1)))) ∧ ((gA σ 24 (x3).toNatClampNeg) = x1 → (K x3 σ)))))))

def w_X1_find_10 (K : Int32 → St → Prop) : Nat → St → Int32 → Int32 → Int32 → Prop
  | 0 => fun _ _ _ _ => False
  | n + 1 => fun σ x1 x3 x4 => b_X1_find_10 (w_X1_find_10 K n) K σ x1 x3 x4

def w_X1_find (σ : St) (a1 : Int32) (a2 : Int32) (K : Int32 → St → Prop) : Prop :=
  vp_in a2 600 ∧ (∃ n : Nat, w_X1_find_10 K n σ a1 (gA σ 27 (a2).toNatClampNeg) 0)

def w_X1_add (σ : St) (a1 : Int32) (a2 : Int32) (K : Int32 → St → Prop) : Prop :=
  ((gS σ 16) < 3000 → (vp_in (gS σ 16) 3000 ∧ (vp_in (gS σ 16) 3000 ∧ (vp_in (gS σ 16) 3000 ∧ (vp_in a2 600 ∧ (vp_in (gS σ 16) 3000 ∧ (vp_in a2 600 ∧ (K (gS σ 16) (sA (sA (sA (sA (sA (sS σ 16 ((gS σ 16) + 1)) 24 ((gS σ 16)).toNatClampNeg a1) 25 ((gS σ 16)).toNatClampNeg a2) 26 ((gS σ 16)).toNatClampNeg 0) 28 ((gS σ 16)).toNatClampNeg (gA σ 27 (a2).toNatClampNeg)) 27 (a2).toNatClampNeg (gS σ 16)))))))))) ∧ (¬ (gS σ 16) < 3000 → (K (-1) σ))

def w_X1_hadToken (σ : St) (a1 : Int32) (a2 : Int32) (K : Int32 → St → Prop) : Prop :=
  vp_in a1 3000 ∧ ((¬ (((gA σ 26 (a1).toNatClampNeg) >>> (a2 &&& 31)) &&& 1) = 1 → (K 0 σ)) ∧ ((((gA σ 26 (a1).toNatClampNeg) >>> (a2 &&& 31)) &&& 1) = 1 → (K 1 σ)))

def b_X1_put_53 (K : Int32 → St → Prop) (σ : St) (x5 : Int32) (t0 : Int32) : Prop :=
  (t0 = 0 → (zb t0 ∧ K t0 σ)) ∧ (¬ t0 = 0 → (zb t0 ∧ K t0 (sS σ 15 ((gS σ 15) - x5))))

def w_X1_put (σ : St) (a1 : Int32) (a2 : Int32) (a3 : Int64) (a4 : Int32) (K : Int32 → St → Prop) : Prop :=
  vp_in a1 3000 ∧ (vp_in a1 3000 ∧ (vp_in ((3 * a1) + a2) 9000 ∧ (vp_in a1 3000 ∧ ((¬ (gA (sA σ 26 (a1).toNatClampNeg ((gA σ 26 (a1).toNatClampNeg) ||| (1 <<< (a2 &&& 31)))) 26 (a1).toNatClampNeg) = ((1 <<< (a4 &&& 31)) - 1) → (b_X1_put_53 K (sS (sL (sA σ 26 (a1).toNatClampNeg ((gA σ 26 (a1).toNatClampNeg) ||| (1 <<< (a2 &&& 31)))) 4 (((3 * a1) + a2)).toNatClampNeg a3) 15 ((gS σ 15) + 1)) a4 0)) ∧ ((gA (sA σ 26 (a1).toNatClampNeg ((gA σ 26 (a1).toNatClampNeg) ||| (1 <<< (a2 &&& 31)))) 26 (a1).toNatClampNeg) = ((1 <<< (a4 &&& 31)) - 1) → (b_X1_put_53 K (sS (sL (sA σ 26 (a1).toNatClampNeg ((gA σ 26 (a1).toNatClampNeg) ||| (1 <<< (a2 &&& 31)))) 4 (((3 * a1) + a2)).toNatClampNeg a3) 15 ((gS σ 15) + 1)) a4 1))))))

def w_X1_cameTo (σ : St) (a1 : Int32) (a2 : Int32) (K : Int64 → St → Prop) : Prop :=
  vp_in ((3 * a1) + a2) 9000 ∧ (K (gL σ 4 (((3 * a1) + a2)).toNatClampNeg) σ)

def w_X2_hasAct (σ : St) (a1 : Int32) (K : Int32 → St → Prop) : Prop :=
  (a1 < 0 → (K 0 σ)) ∧ (¬ a1 < 0 → (((gS σ 1) ≤ a1 → (K 0 σ)) ∧ (¬ (gS σ 1) ≤ a1 → (K 1 σ))))

def w_X2_hasPort (σ : St) (a1 : Int32) (a2 : Int32) (K : Int32 → St → Prop) : Prop :=
  w_X2_hasAct σ a1 (fun (r_2 : Int32) (u_1 : St) => (r_2 = 0 → (K 0 u_1)) ∧ (¬ r_2 = 0 → ((a2 < 0 → (K 0 u_1)) ∧ (¬ a2 < 0 → (vp_in a1 80 ∧ (((gA u_1 2 (a1).toNatClampNeg) ≤ a2 → (K 0 u_1)) ∧ (¬ (gA u_1 2 (a1).toNatClampNeg) ≤ a2 → (K 1 u_1))))))))

def w_X3_exists (σ : St) (a1 : Int32) (K : Int32 → St → Prop) : Prop :=
  (a1 < 0 → (K 0 σ)) ∧ (¬ a1 < 0 → ((21 < a1 → (K 0 σ)) ∧ (¬ 21 < a1 → (K 1 σ))))

def w_X3_allowsNumber (σ : St) (a1 : Int32) (a2 : Int32) (K : Int32 → St → Prop) : Prop :=
  ((a1 = 11 ∨ a1 = 12 ∨ a1 = 13 ∨ a1 = 14 ∨ a1 = 21) → ((a2 < 0 → (K 0 σ)) ∧ (¬ a2 < 0 → ((9 < a2 → (K 0 σ)) ∧ (¬ 9 < a2 → (K 1 σ)))))) ∧ (¬ (a1 = 11 ∨ a1 = 12 ∨ a1 = 13 ∨ a1 = 14 ∨ a1 = 21) → (((a1 = 15) → ((a2 < 0 → (K 0 σ)) ∧ (¬ a2 < 0 → ((99 < a2 → (K 0 σ)) ∧ (¬ 99 < a2 → ((3 ≤ (a2 - a2 / 10 * 10) → (K 0 σ)) ∧ (¬ 3 ≤ (a2 - a2 / 10 * 10) → (K 1 σ)))))))) ∧ (¬ (a1 = 15) → (K 1 σ))))

def w_X3_allowsPorts (σ : St) (a1 : Int32) (a2 : Int32) (K : Int32 → St → Prop) : Prop :=
  (¬ a1 = 14 → (K 1 σ)) ∧ (a1 = 14 → ((a2 < 1 → (K 0 σ)) ∧ (¬ a2 < 1 → ((3 < a2 → (K 0 σ)) ∧ (¬ 3 < a2 → (K 1 σ))))))

def w_X3_portsOf (σ : St) (a1 : Int32) (a2 : Int32) (K : Int32 → St → Prop) : Prop :=
  (a1 = 14 → (K a2 σ)) ∧ (¬ a1 = 14 → (w_X3_exists σ a1 (fun (r_2 : Int32) (u_1 : St) => (¬ r_2 = 0 → (vp_in a1 22 ∧ (K (jports a1.toNatClampNeg) u_1))) ∧ (r_2 = 0 → (K a2 u_1)))))

def b_X2_addAct_28 (K : Int32 → St → Prop) (σ : St) (x1 : Int32) (x2 : Int32) (x3 : Int32) (t0 : Int32) : Prop :=
  (t0 = 0 → (K (-1) σ)) ∧ (¬ t0 = 0 → (((gS σ 1) < 80 → (vp_in (gS σ 1) 80 ∧ (vp_in (gS σ 1) 80 ∧ (w_X3_portsOf (sA (sA (sS σ 1 ((gS σ 1) + 1)) 0 ((gS σ 1)).toNatClampNeg x1) 1 ((gS σ 1)).toNatClampNeg x2) x1 x3 (fun (r_2 : Int32) (u_1 : St) => vp_in (gS σ 1) 80 ∧ ((¬ x1 = 15 → (K (gS σ 1) (sA u_1 2 ((gS σ 1)).toNatClampNeg r_2))) ∧ (x1 = 15 → (vp_in x2 100 ∧ ((¬ (gA u_1 3 (x2).toNatClampNeg) = (-1) → (K (gS σ 1) (sA u_1 2 ((gS σ 1)).toNatClampNeg r_2))) ∧ ((gA u_1 3 (x2).toNatClampNeg) = (-1) → (vp_in x2 100 ∧ (K (gS σ 1) (sA (sA u_1 2 ((gS σ 1)).toNatClampNeg r_2) 3 (x2).toNatClampNeg (gS σ 1)))))))))))))) ∧ (¬ (gS σ 1) < 80 → (K (-1) σ))))

def w_X2_addAct (σ : St) (a1 : Int32) (a2 : Int32) (a3 : Int32) (K : Int32 → St → Prop) : Prop :=
  w_X3_exists σ a1 (fun (r_13 : Int32) (u_12 : St) => (r_13 = 0 → (b_X2_addAct_28 K u_12 a1 a2 a3 0)) ∧ (¬ r_13 = 0 → (w_X3_allowsNumber u_12 a1 a2 (fun (r_15 : Int32) (u_14 : St) => (r_15 = 0 → (b_X2_addAct_28 K u_14 a1 a2 a3 0)) ∧ (¬ r_15 = 0 → (w_X3_allowsPorts u_14 a1 a3 (fun (r_17 : Int32) (u_16 : St) => (r_17 = 0 → (b_X2_addAct_28 K u_16 a1 a2 a3 0)) ∧ (¬ r_17 = 0 → (b_X2_addAct_28 K u_16 a1 a2 a3 1)))))))))

def w_X3_hasSide (σ : St) (a1 : Int32) (a2 : Int32) (K : Int32 → St → Prop) : Prop :=
  (a2 = 0 → (K 1 σ)) ∧ (¬ a2 = 0 → ((¬ a2 = 1 → (K 0 σ)) ∧ (a2 = 1 → ((¬ a1 = 10 → (K 0 σ)) ∧ (a1 = 10 → (K 1 σ))))))

def w_X2_addWay (σ : St) (a1 : Int32) (a2 : Int32) (a3 : Int32) (a4 : Int32) (K : Int32 → St → Prop) : Prop :=
  w_X2_hasAct σ a1 (fun (r_2 : Int32) (u_1 : St) => (r_2 = 0 → (K (-1) u_1)) ∧ (¬ r_2 = 0 → (vp_in a1 80 ∧ (w_X3_hasSide u_1 (gA u_1 0 (a1).toNatClampNeg) a2 (fun (r_4 : Int32) (u_3 : St) => (r_4 = 0 → (K (-1) u_3)) ∧ (¬ r_4 = 0 → (w_X2_hasPort u_3 a3 a4 (fun (r_6 : Int32) (u_5 : St) => (¬ r_6 = 0 → (((gS u_5 2) < 300 → (vp_in (gS u_5 2) 300 ∧ (vp_in (gS u_5 2) 300 ∧ (vp_in (gS u_5 2) 300 ∧ (vp_in ((2 * a1) + a2) 160 ∧ ((¬ (gA u_5 8 (((2 * a1) + a2)).toNatClampNeg) = (-1) → (vp_in (gA u_5 8 (((2 * a1) + a2)).toNatClampNeg) 300 ∧ (vp_in ((2 * a1) + a2) 160 ∧ (K (gS u_5 2) (sA (sA (sA (sA (sA (sS u_5 2 ((gS u_5 2) + 1)) 4 ((gS u_5 2)).toNatClampNeg a3) 5 ((gS u_5 2)).toNatClampNeg a4) 6 ((gS u_5 2)).toNatClampNeg (-1)) 6 ((gA u_5 8 (((2 * a1) + a2)).toNatClampNeg)).toNatClampNeg (gS u_5 2)) 8 (((2 * a1) + a2)).toNatClampNeg (gS u_5 2)))))) ∧ ((gA u_5 8 (((2 * a1) + a2)).toNatClampNeg) = (-1) → (vp_in ((2 * a1) + a2) 160 ∧ (vp_in ((2 * a1) + a2) 160 ∧ (K (gS u_5 2) (sA (sA (sA (sA (sA (sS u_5 2 ((gS u_5 2) + 1)) 4 ((gS u_5 2)).toNatClampNeg a3) 5 ((gS u_5 2)).toNatClampNeg a4) 6 ((gS u_5 2)).toNatClampNeg (-1)) 7 (((2 * a1) + a2)).toNatClampNeg (gS u_5 2)) 8 (((2 * a1) + a2)).toNatClampNeg (gS u_5 2)))))))))))) ∧ (¬ (gS u_5 2) < 300 → (K (-1) u_5)))) ∧ (r_6 = 0 → (K (-1) u_5))))))))))

def w_X2_addToken (σ : St) (a1 : Int32) (a2 : Int32) (a3 : Int32) (K : Int32 → St → Prop) : Prop :=
  w_X2_hasPort σ a1 a2 (fun (r_2 : Int32) (u_1 : St) => (r_2 = 0 → (K (-1) u_1)) ∧ (¬ r_2 = 0 → (((gS u_1 3) < 40 → (vp_in (gS u_1 3) 40 ∧ (vp_in (gS u_1 3) 40 ∧ (vp_in (gS u_1 3) 40 ∧ (K ((gS u_1 3) + 1) (sS (sA (sA (sA u_1 9 ((gS u_1 3)).toNatClampNeg a1) 10 ((gS u_1 3)).toNatClampNeg a2) 11 ((gS u_1 3)).toNatClampNeg a3) 3 ((gS u_1 3) + 1))))))) ∧ (¬ (gS u_1 3) < 40 → (K (-1) u_1)))))

def w_X2_dropTokens (σ : St) (K : St → Prop) : Prop :=
  K (sS σ 3 0)

def w_X2_dropWays (σ : St) (K : St → Prop) : Prop :=
  K (fA (fA (sS σ 2 0) 7 (jfill (gA (sS σ 2 0) 7) 160 (-1))) 8 (jfill (gA (fA (sS σ 2 0) 7 (jfill (gA (sS σ 2 0) 7) 160 (-1))) 8) 160 (-1)))

def w_X2_dropActs (σ : St) (K : St → Prop) : Prop :=
  K (fA (sS σ 1 0) 3 (jfill (gA (sS σ 1 0) 3) 100 (-1)))

def w_X2_firstWayOf (σ : St) (a1 : Int32) (a2 : Int32) (K : Int32 → St → Prop) : Prop :=
  vp_in ((2 * a1) + a2) 160 ∧ (K (gA σ 7 (((2 * a1) + a2)).toNatClampNeg) σ)

def b_X2_countWays_10 (L10 : St → Int32 → Int32 → Prop) (K : Int32 → St → Prop) (σ : St) (x3 : Int32) (x4 : Int32) : Prop :=
  (x4 = (-1) → (K x3 σ)) ∧ (¬ x4 = (-1) → ((300 ≤ x3 → (K x3 σ)) ∧ (¬ 300 ≤ x3 → (vp_in x4 300 ∧ (L10 σ (x3 + 1) (gA σ 6 (x4).toNatClampNeg))))))

def w_X2_countWays_10 (K : Int32 → St → Prop) : Nat → St → Int32 → Int32 → Prop
  | 0 => fun _ _ _ => False
  | n + 1 => fun σ x3 x4 => b_X2_countWays_10 (w_X2_countWays_10 K n) K σ x3 x4

def w_X2_countWays (σ : St) (a1 : Int32) (a2 : Int32) (K : Int32 → St → Prop) : Prop :=
  w_X2_firstWayOf σ a1 a2 (fun (r_5 : Int32) (u_4 : St) => ∃ n : Nat, w_X2_countWays_10 K n u_4 0 r_5)

def b_X2_countTokens_4 (L4 : St → Int32 → Int32 → Int32 → Prop) (K : Int32 → St → Prop) (σ : St) (x1 : Int32) (x2 : Int32) (x3 : Int32) : Prop :=
  ((gS σ 3) ≤ x3 → (K x2 σ)) ∧ (¬ (gS σ 3) ≤ x3 → (vp_in x3 40 ∧ ((¬ (gA σ 9 (x3).toNatClampNeg) = x1 → (L4 σ x1 x2 (x3 + 1))) ∧ ((gA σ 9 (x3).toNatClampNeg) = x1 → (L4 σ x1 (x2 + 1) (x3 + 1))))))

def w_X2_countTokens_4 (K : Int32 → St → Prop) : Nat → St → Int32 → Int32 → Int32 → Prop
  | 0 => fun _ _ _ _ => False
  | n + 1 => fun σ x1 x2 x3 => b_X2_countTokens_4 (w_X2_countTokens_4 K n) K σ x1 x2 x3

def w_X2_countTokens (σ : St) (a1 : Int32) (K : Int32 → St → Prop) : Prop :=
  ∃ n : Nat, w_X2_countTokens_4 K n σ a1 0 0

def w_X2_parameterFor (σ : St) (a1 : Int32) (a2 : Int32) (K : Int32 → St → Prop) : Prop :=
  vp_in a1 80 ∧ ((((10 * (gA σ 1 (a1).toNatClampNeg)) + a2) < 0 → (K (-1) σ)) ∧ (¬ ((10 * (gA σ 1 (a1).toNatClampNeg)) + a2) < 0 → ((100 ≤ ((10 * (gA σ 1 (a1).toNatClampNeg)) + a2) → (K (-1) σ)) ∧ (¬ 100 ≤ ((10 * (gA σ 1 (a1).toNatClampNeg)) + a2) → (vp_in ((10 * (gA σ 1 (a1).toNatClampNeg)) + a2) 100 ∧ (K (gA σ 3 (((10 * (gA σ 1 (a1).toNatClampNeg)) + a2)).toNatClampNeg) σ))))))

def w_X5_reset (σ : St) (K : St → Prop) : Prop :=
  K (sS (sS σ 17 0) 18 0)

def w_X6_reset (σ : St) (K : St → Prop) : Prop :=
  K (fA (sS (sS (sS σ 11 0) 12 0) 13 0) 13 (jfill (gA (sS (sS (sS σ 11 0) 12 0) 13 0) 13) 80 (-1)))

def w_X8_ofNumber (σ : St) (a1 : Int32) (K : Int64 → St → Prop) : Prop :=
  K (1099511627776 ||| ((a1.toInt64) &&& 4294967295)) σ

def w_X4_clashAt (σ : St) (a1 : Int32) (K : St → Prop) : Prop :=
  K (sS (sS σ 4 1) 10 a1)

def w_X5_add (σ : St) (a1 : Int32) (K : St → Prop) : Prop :=
  (3000 ≤ (gS σ 18) → (K σ)) ∧ (¬ 3000 ≤ (gS σ 18) → (vp_in (gS σ 18) 3000 ∧ (K (sS (sA σ 29 ((gS σ 18)).toNatClampNeg a1) 18 ((gS σ 18) + 1)))))

def b_X4_arrive_28 (K : St → Prop) (σ : St) (x1 : Int32) (x2 : Int32) (x4 : Int64) (x6 : Int32) : Prop :=
  (¬ x6 = (-1) → (w_X1_hadToken σ x6 x2 (fun (r_2 : Int32) (u_1 : St) => (r_2 = 0 → (vp_in x1 80 ∧ (w_X1_put u_1 x6 x2 x4 (gA u_1 2 (x1).toNatClampNeg) (fun (r_4 : Int32) (u_3 : St) => (r_4 = 0 → (K u_3)) ∧ (¬ r_4 = 0 → (w_X5_add u_3 x6 (fun u_5 : St => K u_5))))))) ∧ (¬ r_2 = 0 → (w_X4_clashAt u_1 x1 (fun u_9 : St => K u_9)))))) ∧ (x6 = (-1) → (K (sS σ 4 2)))

def w_X4_arrive (σ : St) (a1 : Int32) (a2 : Int32) (a3 : Int32) (a4 : Int64) (K : St → Prop) : Prop :=
  w_X1_find σ a1 a3 (fun (r_14 : Int32) (u_13 : St) => (¬ r_14 = (-1) → (b_X4_arrive_28 K u_13 a1 a2 a4 r_14)) ∧ (r_14 = (-1) → (w_X1_add u_13 a1 a3 (fun (r_16 : Int32) (u_15 : St) => b_X4_arrive_28 K u_15 a1 a2 a4 r_16))))

def b_X4_begin_81 (L81 : St → Int32 → Prop) (K : St → Prop) (σ : St) (x1 : Int32) : Prop :=
  ((gS σ 3) ≤ x1 → (K σ)) ∧ (¬ (gS σ 3) ≤ x1 → ((¬ (gS σ 4) = (-1) → (K σ)) ∧ ((gS σ 4) = (-1) → (vp_in x1 40 ∧ (w_X8_ofNumber σ (gA σ 11 (x1).toNatClampNeg) (fun (r_2 : Int64) (u_1 : St) => vp_in x1 40 ∧ (vp_in x1 40 ∧ (w_X4_arrive u_1 (gA u_1 9 (x1).toNatClampNeg) (gA u_1 10 (x1).toNatClampNeg) 0 r_2 (fun u_3 : St => L81 u_3 (x1 + 1))))))))))

def w_X4_begin_81 (K : St → Prop) : Nat → St → Int32 → Prop
  | 0 => fun _ _ => False
  | n + 1 => fun σ x1 => b_X4_begin_81 (w_X4_begin_81 K n) K σ x1

def w_X4_begin (σ : St) (K : St → Prop) : Prop :=
  w_X0_reset σ (fun u_10 : St => w_X1_reset u_10 (fun u_12 : St => w_X5_reset u_12 (fun u_14 : St => w_X6_reset u_14 (fun u_16 : St => ∃ n : Nat, w_X4_begin_81 K n (sS (sS (sS (sS (sS (sS (sS (fL (fA u_16 12 (jfill (gA u_16 12) 80 0)) 2 (jfill (gL (fA u_16 12 (jfill (gA u_16 12) 80 0)) 2) 10 0)) 4 (-1)) 5 0) 6 0) 7 0) 8 0) 9 0) 10 (-1)) 0))))

def w_X5_size (σ : St) (K : Int32 → St → Prop) : Prop :=
  K ((gS σ 18) - (gS σ 17)) σ

def w_X4_mayStep (σ : St) (a1 : Int32) (K : Int32 → St → Prop) : Prop :=
  (¬ (gS σ 4) = (-1) → ((¬ (gS σ 4) = (-1) → (K 0 σ)) ∧ ((gS σ 4) = (-1) → (K 1 σ)))) ∧ ((gS σ 4) = (-1) → (w_X5_size σ (fun (r_3 : Int32) (u_2 : St) => (¬ r_3 = 0 → (((gS u_2 5) < a1 → ((¬ (gS u_2 4) = (-1) → (K 0 u_2)) ∧ ((gS u_2 4) = (-1) → (K 1 u_2)))) ∧ (¬ (gS u_2 5) < a1 → ((¬ (3 : Int32) = ((-1) : Int32) → (K 0 (sS u_2 4 3))) ∧ ((3 : Int32) = ((-1) : Int32) → (K 1 (sS u_2 4 3))))))) ∧ (r_3 = 0 → ((¬ (0 : Int32) = ((-1) : Int32) → (K 0 (sS u_2 4 0))) ∧ ((0 : Int32) = ((-1) : Int32) → (K 1 (sS u_2 4 0))))))))

def w_X5_take (σ : St) (a1 : Int32) (K : Int32 → St → Prop) : Prop :=
  (a1 < 0 → (K (-1) σ)) ∧ (¬ a1 < 0 → (w_X5_size σ (fun (r_2 : Int32) (u_1 : St) => (a1 < r_2 → (vp_in ((gS u_1 17) + a1) 3000 ∧ ((¬ a1 = 0 → (¬ (((gS u_1 17) + a1) + 1) < 0 ∧ ¬ ((gS u_1 17) + a1) < 0 ∧ ¬ (((gS u_1 18) - ((gS u_1 17) + a1)) - 1) < 0 ∧ (((gS u_1 17) + a1) + 1).toNatClampNeg + (((gS u_1 18) - ((gS u_1 17) + a1)) - 1).toNatClampNeg ≤ 3000 ∧ ((gS u_1 17) + a1).toNatClampNeg + (((gS u_1 18) - ((gS u_1 17) + a1)) - 1).toNatClampNeg ≤ 3000 ∧ (K (gA u_1 29 (((gS u_1 17) + a1)).toNatClampNeg) (sS (fA u_1 29 (va_cpy (gA u_1 29) (gA u_1 29) (((gS u_1 17) + a1) + 1).toNatClampNeg ((gS u_1 17) + a1).toNatClampNeg (((gS u_1 18) - ((gS u_1 17) + a1)) - 1).toNatClampNeg)) 18 ((gS u_1 18) - 1))))) ∧ (a1 = 0 → (K (gA u_1 29 (((gS u_1 17) + a1)).toNatClampNeg) (sS u_1 17 ((gS u_1 17) + 1))))))) ∧ (¬ a1 < r_2 → (K (-1) u_1)))))

def w_X8_sortOf (σ : St) (a1 : Int64) (K : Int32 → St → Prop) : Prop :=
  K (((a1.toUInt64 >>> ((40 : Int32).toInt64.toUInt64 &&& Int64.toUInt64 63)).toInt64).toInt32) σ

def w_X8_contentOf (σ : St) (a1 : Int64) (K : Int32 → St → Prop) : Prop :=
  K (a1.toInt32) σ

def b_X4_give_14 (L14 : St → Int32 → Int64 → Int32 → Int32 → Prop) (K : St → Prop) (σ : St) (x3 : Int32) (x4 : Int64) (x6 : Int32) (x7 : Int32) : Prop :=
  (300 ≤ x7 → (K σ)) ∧ (¬ 300 ≤ x7 → ((x6 = (-1) → (K σ)) ∧ (¬ x6 = (-1) → ((¬ (gS σ 4) = (-1) → (K σ)) ∧ ((gS σ 4) = (-1) → (vp_in x6 300 ∧ (vp_in x6 300 ∧ (w_X4_arrive σ (gA σ 4 (x6).toNatClampNeg) (gA σ 5 (x6).toNatClampNeg) x3 x4 (fun u_1 : St => vp_in x6 300 ∧ (L14 u_1 x3 x4 (gA u_1 6 (x6).toNatClampNeg) (x7 + 1)))))))))))

def w_X4_give_14 (K : St → Prop) : Nat → St → Int32 → Int64 → Int32 → Int32 → Prop
  | 0 => fun _ _ _ _ _ => False
  | n + 1 => fun σ x3 x4 x6 x7 => b_X4_give_14 (w_X4_give_14 K n) K σ x3 x4 x6 x7

def w_X4_give (σ : St) (a1 : Int32) (a2 : Int32) (a3 : Int32) (a4 : Int64) (K : St → Prop) : Prop :=
  w_X2_firstWayOf σ a1 a2 (fun (r_10 : Int32) (u_9 : St) => ∃ n : Nat, w_X4_give_14 K n u_9 a3 a4 r_10 0)

def w_X4_goSwitch (σ : St) (a1 : Int32) (a2 : Int32) (a3 : Int64) (a4 : Int64) (K : St → Prop) : Prop :=
  w_X8_sortOf σ a4 (fun (r_2 : Int32) (u_1 : St) => (r_2 = 1 → (w_X8_contentOf u_1 a4 (fun (r_4 : Int32) (u_3 : St) => (r_4 = 0 → (w_X4_give u_3 a1 1 a2 a3 (fun u_5 : St => K u_5))) ∧ (¬ r_4 = 0 → (w_X4_give u_3 a1 0 a2 a3 (fun u_7 : St => K u_7)))))) ∧ (¬ r_2 = 1 → (K (sS u_1 8 ((gS u_1 8) + 1)))))

def w_X4_giveInside (σ : St) (a1 : Int32) (a2 : Int32) (a3 : Int64) (K : St → Prop) : Prop :=
  (¬ a2 = (-1) → (w_X4_give σ a1 0 a2 a3 (fun u_1 : St => K u_1))) ∧ (a2 = (-1) → (K (sS σ 4 2)))

def w_X8_ofFault (σ : St) (a1 : Int32) (a2 : Int32) (K : Int64 → St → Prop) : Prop :=
  K ((3298534883328 ||| ((a2.toInt64) <<< ((32 : Int32).toInt64 &&& 63))) ||| ((a1.toInt64) &&& 4294967295)) σ

def w_X4_goTurn (σ : St) (a1 : Int32) (a2 : Int32) (a3 : Int64) (K : St → Prop) : Prop :=
  vp_in a1 80 ∧ (w_X0_isTurnOf σ a2 (gA σ 1 (a1).toNatClampNeg) (fun (r_2 : Int32) (u_1 : St) => (¬ r_2 = 0 → (vp_in a1 80 ∧ ((¬ (gA u_1 0 (a1).toNatClampNeg) = 12 → (w_X0_outerOf u_1 a2 (fun (r_4 : Int32) (u_3 : St) => w_X4_give u_3 a1 0 r_4 a3 (fun u_5 : St => K u_5)))) ∧ ((gA u_1 0 (a1).toNatClampNeg) = 12 → (w_X0_nextTurn u_1 a2 (fun (r_8 : Int32) (u_7 : St) => w_X4_giveInside u_7 a1 r_8 a3 (fun u_9 : St => K u_9))))))) ∧ (r_2 = 0 → (w_X8_ofFault u_1 5 a1 (fun (r_14 : Int64) (u_13 : St) => w_X4_give u_13 a1 0 a2 r_14 (fun u_15 : St => K u_15))))))

def b_X4_goCall_26 (L26 : St → Int32 → Int32 → Int32 → Int32 → Prop) (K : St → Prop) (σ : St) (x1 : Int32) (x2 : Int32) (x4 : Int32) (x5 : Int32) : Prop :=
  vp_in x2 80 ∧ (((gA σ 2 (x2).toNatClampNeg) ≤ x5 → (K σ)) ∧ (¬ (gA σ 2 (x2).toNatClampNeg) ≤ x5 → ((¬ (gS σ 4) = (-1) → (K σ)) ∧ ((gS σ 4) = (-1) → (w_X2_parameterFor σ x2 x5 (fun (r_2 : Int32) (u_1 : St) => (r_2 = (-1) → (L26 u_1 x1 x2 x4 (x5 + 1))) ∧ (¬ r_2 = (-1) → (w_X1_cameTo u_1 x1 x5 (fun (r_4 : Int64) (u_3 : St) => w_X4_arrive u_3 r_2 0 x4 r_4 (fun u_5 : St => L26 u_5 x1 x2 x4 (x5 + 1)))))))))))

def w_X4_goCall_26 (K : St → Prop) : Nat → St → Int32 → Int32 → Int32 → Int32 → Prop
  | 0 => fun _ _ _ _ _ => False
  | n + 1 => fun σ x1 x2 x4 x5 => b_X4_goCall_26 (w_X4_goCall_26 K n) K σ x1 x2 x4 x5

def w_X4_goCall (σ : St) (a1 : Int32) (a2 : Int32) (a3 : Int32) (K : St → Prop) : Prop :=
  w_X0_callBy σ a3 a2 (fun (r_12 : Int32) (u_11 : St) => (¬ r_12 = (-1) → (∃ n : Nat, w_X4_goCall_26 K n u_11 a1 a2 r_12 0)) ∧ (r_12 = (-1) → (K (sS u_11 4 2))))

def w_X4_goReturn (σ : St) (a1 : Int32) (a2 : Int64) (K : St → Prop) : Prop :=
  w_X0_callerOf σ a1 (fun (r_2 : Int32) (u_1 : St) => (¬ r_2 = (-1) → (w_X0_outerOf u_1 a1 (fun (r_4 : Int32) (u_3 : St) => w_X4_give u_3 r_2 0 r_4 a2 (fun u_5 : St => K u_5)))) ∧ (r_2 = (-1) → (K (sS u_1 8 ((gS u_1 8) + 1)))))

def w_X8_refuse (σ : St) (a1 : Int32) (a2 : Int64) (a3 : Int32) (K : Int64 → St → Prop) : Prop :=
  w_X8_sortOf σ a2 (fun (r_2 : Int32) (u_1 : St) => (¬ r_2 = 3 → ((¬ r_2 = a3 → (w_X8_ofFault u_1 4 a1 (fun (r_4 : Int64) (u_3 : St) => K r_4 u_3))) ∧ (r_2 = a3 → (K 0 u_1)))) ∧ (r_2 = 3 → (K a2 u_1)))

def b_X6_make_58 (L58 : St → Int32 → Int32 → Int32 → Prop) (K : Int32 → St → Prop) (σ : St) (x1 : Int32) (x2 : Int32) (x3 : Int32) : Prop :=
  (x1 ≤ x3 → (K x2 σ)) ∧ (¬ x1 ≤ x3 → (vp_in (gS σ 13) 2000 ∧ (vp_in (gS σ 13) 2000 ∧ (vp_in (gS σ 13) 2000 ∧ (L58 (sS (sA (sA (sL σ 3 ((gS σ 13)).toNatClampNeg 0) 16 ((gS σ 13)).toNatClampNeg (-1)) 17 ((gS σ 13)).toNatClampNeg (-1)) 13 ((gS σ 13) + 1)) x1 x2 (x3 + 1))))))

def w_X6_make_58 (K : Int32 → St → Prop) : Nat → St → Int32 → Int32 → Int32 → Prop
  | 0 => fun _ _ _ _ => False
  | n + 1 => fun σ x1 x2 x3 => b_X6_make_58 (w_X6_make_58 K n) K σ x1 x2 x3

def w_X6_make (σ : St) (a1 : Int32) (K : Int32 → St → Prop) : Prop :=
  (300 ≤ (gS σ 12) → (K (-1) σ)) ∧ (¬ 300 ≤ (gS σ 12) → ((((gS σ 13) + a1) ≤ 2000 → (vp_in (gS σ 12) 300 ∧ (vp_in (gS σ 12) 300 ∧ (∃ n : Nat, w_X6_make_58 K n (sA (sA (sS σ 12 ((gS σ 12) + 1)) 14 ((gS σ 12)).toNatClampNeg (gS σ 13)) 15 ((gS σ 12)).toNatClampNeg a1) a1 (gS σ 12) 0)))) ∧ (¬ ((gS σ 13) + a1) ≤ 2000 → (K (-1) σ))))

def w_X8_ofRow (σ : St) (a1 : Int32) (K : Int64 → St → Prop) : Prop :=
  K (2199023255552 ||| ((a1.toInt64) &&& 4294967295)) σ

def b_X4_goMake_41 (K : St → Prop) (σ : St) (x1 : Int32) (x2 : Int32) (x5 : Int64) (x7 : Int32) : Prop :=
  ((lg_cmp x5 0) = 0 → (w_X6_make σ x7 (fun (r_2 : Int32) (u_1 : St) => (¬ r_2 = (-1) → ((¬ x2 = 0 → (w_X8_ofRow u_1 r_2 (fun (r_4 : Int64) (u_3 : St) => w_X4_give u_3 x1 0 x2 r_4 (fun u_5 : St => K u_5)))) ∧ (x2 = 0 → (vp_in x1 80 ∧ (w_X8_ofRow (sA u_1 13 (x1).toNatClampNeg r_2) r_2 (fun (r_8 : Int64) (u_7 : St) => w_X4_give u_7 x1 0 x2 r_8 (fun u_9 : St => K u_9))))))) ∧ (r_2 = (-1) → (K (sS u_1 4 2)))))) ∧ (¬ (lg_cmp x5 0) = 0 → (w_X4_give σ x1 0 x2 x5 (fun u_14 : St => K u_14)))

def w_X4_goMake (σ : St) (a1 : Int32) (a2 : Int32) (a3 : Int64) (K : St → Prop) : Prop :=
  w_X8_refuse σ a1 a3 1 (fun (r_18 : Int64) (u_17 : St) => w_X8_contentOf u_17 a3 (fun (r_20 : Int32) (u_19 : St) => (¬ (lg_cmp r_18 0) = 0 → (b_X4_goMake_41 K u_19 a1 a2 r_18 r_20)) ∧ ((lg_cmp r_18 0) = 0 → ((r_20 < 0 → (w_X8_ofFault u_19 3 a1 (fun (r_22 : Int64) (u_21 : St) => b_X4_goMake_41 K u_21 a1 a2 r_22 r_20))) ∧ (¬ r_20 < 0 → ((r_20 ≤ 200 → (b_X4_goMake_41 K u_19 a1 a2 r_18 r_20)) ∧ (¬ r_20 ≤ 200 → (w_X8_ofFault u_19 3 a1 (fun (r_24 : Int64) (u_23 : St) => b_X4_goMake_41 K u_23 a1 a2 r_24 r_20)))))))))

def w_X6_sizeOf (σ : St) (a1 : Int32) (K : Int32 → St → Prop) : Prop :=
  (a1 < 0 → (K 0 σ)) ∧ (¬ a1 < 0 → (((gS σ 12) ≤ a1 → (K 0 σ)) ∧ (¬ (gS σ 12) ≤ a1 → (vp_in a1 300 ∧ (K (gA σ 15 (a1).toNatClampNeg) σ)))))

def w_X6_placeIn (σ : St) (a1 : Int32) (a2 : Int32) (K : Int32 → St → Prop) : Prop :=
  (a2 < 0 → (K (-1) σ)) ∧ (¬ a2 < 0 → (w_X6_sizeOf σ a1 (fun (r_2 : Int32) (u_1 : St) => (r_2 ≤ a2 → (K (-1) u_1)) ∧ (¬ r_2 ≤ a2 → (vp_in a1 300 ∧ (K ((gA u_1 14 (a1).toNatClampNeg) + a2) u_1))))))

def w_X4_placeAsked (σ : St) (a1 : Int32) (K : Int32 → St → Prop) : Prop :=
  w_X1_cameTo σ a1 0 (fun (r_2 : Int64) (u_1 : St) => w_X8_contentOf u_1 r_2 (fun (r_4 : Int32) (u_3 : St) => w_X1_cameTo u_3 a1 1 (fun (r_6 : Int64) (u_5 : St) => w_X8_contentOf u_5 r_6 (fun (r_8 : Int32) (u_7 : St) => w_X6_placeIn u_7 r_4 r_8 (fun (r_10 : Int32) (u_9 : St) => K r_10 u_9)))))

def b_X8_refuseTwo_45 (K : Int64 → St → Prop) (σ : St) (x0 : Int32) (t0 : Int32) : Prop :=
  (t0 = 0 → (w_X8_ofFault σ 4 x0 (fun (r_2 : Int64) (u_1 : St) => K r_2 u_1))) ∧ (¬ t0 = 0 → (K 0 σ))

def w_X8_refuseTwo (σ : St) (a1 : Int32) (a2 : Int64) (a3 : Int32) (a4 : Int64) (a5 : Int32) (K : Int64 → St → Prop) : Prop :=
  w_X8_sortOf σ a2 (fun (r_5 : Int32) (u_4 : St) => (¬ r_5 = 3 → (w_X8_sortOf u_4 a4 (fun (r_7 : Int32) (u_6 : St) => (¬ r_7 = 3 → (w_X8_sortOf u_6 a2 (fun (r_9 : Int32) (u_8 : St) => (¬ r_9 = a3 → (b_X8_refuseTwo_45 K u_8 a1 0)) ∧ (r_9 = a3 → (w_X8_sortOf u_8 a4 (fun (r_11 : Int32) (u_10 : St) => (¬ r_11 = a5 → (b_X8_refuseTwo_45 K u_10 a1 0)) ∧ (r_11 = a5 → (b_X8_refuseTwo_45 K u_10 a1 1)))))))) ∧ (r_7 = 3 → (K a4 u_6))))) ∧ (r_5 = 3 → (K a2 u_4)))

def w_X4_refuseCell (σ : St) (a1 : Int32) (a2 : Int32) (a3 : Int32) (K : Int64 → St → Prop) : Prop :=
  w_X1_cameTo σ a1 0 (fun (r_2 : Int64) (u_1 : St) => w_X1_cameTo u_1 a1 1 (fun (r_4 : Int64) (u_3 : St) => w_X8_refuseTwo u_3 a2 r_2 2 r_4 1 (fun (r_6 : Int64) (u_5 : St) => (¬ (lg_cmp r_6 0) = 0 → (K r_6 u_5)) ∧ ((lg_cmp r_6 0) = 0 → ((¬ a3 = (-1) → (K r_6 u_5)) ∧ (a3 = (-1) → (w_X8_ofFault u_5 2 a2 (fun (r_8 : Int64) (u_7 : St) => K r_8 u_7))))))))

def b_X6_addReader_36 (K : St → Prop) (σ : St) (x1 : Int32) (x2 : Int32) : Prop :=
  vp_in x1 2000 ∧ (K (sS (sA σ 17 (x1).toNatClampNeg x2) 11 ((gS σ 11) + 1)))

def w_X6_addReader (σ : St) (a1 : Int32) (a2 : Int32) (K : St → Prop) : Prop :=
  vp_in a2 3000 ∧ (vp_in a1 2000 ∧ ((¬ (gA σ 17 (a1).toNatClampNeg) = (-1) → (vp_in (gA σ 17 (a1).toNatClampNeg) 3000 ∧ (b_X6_addReader_36 K (sA (sA σ 18 (a2).toNatClampNeg (-1)) 18 ((gA σ 17 (a1).toNatClampNeg)).toNatClampNeg a2) a1 a2))) ∧ ((gA σ 17 (a1).toNatClampNeg) = (-1) → (vp_in a1 2000 ∧ (b_X6_addReader_36 K (sA (sA σ 18 (a2).toNatClampNeg (-1)) 16 (a1).toNatClampNeg a2) a1 a2)))))

def w_X4_goRead (σ : St) (a1 : Int32) (a2 : Int32) (a3 : Int32) (K : St → Prop) : Prop :=
  w_X4_placeAsked σ a1 (fun (r_2 : Int32) (u_1 : St) => w_X4_refuseCell u_1 a1 a2 r_2 (fun (r_4 : Int64) (u_3 : St) => (¬ (lg_cmp r_4 0) = 0 → (w_X4_give u_3 a2 0 a3 r_4 (fun u_5 : St => K u_5))) ∧ ((lg_cmp r_4 0) = 0 → ((¬ r_2 = (-1) → (vp_in r_2 2000 ∧ ((¬ (lg_cmp (gL u_3 3 (r_2).toNatClampNeg) 0) = 0 → (w_X4_give u_3 a2 0 a3 (gL u_3 3 (r_2).toNatClampNeg) (fun u_7 : St => K u_7))) ∧ ((lg_cmp (gL u_3 3 (r_2).toNatClampNeg) 0) = 0 → (w_X6_addReader u_3 r_2 a1 (fun u_9 : St => K u_9)))))) ∧ (r_2 = (-1) → (w_X4_give u_3 a2 0 a3 r_4 (fun u_13 : St => K u_13)))))))

def w_X6_takeReader (σ : St) (a1 : Int32) (K : Int32 → St → Prop) : Prop :=
  vp_in a1 2000 ∧ ((¬ (gA σ 16 (a1).toNatClampNeg) = (-1) → (vp_in (gA σ 16 (a1).toNatClampNeg) 3000 ∧ (vp_in a1 2000 ∧ (K (gA σ 16 (a1).toNatClampNeg) (sS (sA σ 16 (a1).toNatClampNeg (gA σ 18 ((gA σ 16 (a1).toNatClampNeg)).toNatClampNeg)) 11 ((gS σ 11) - 1)))))) ∧ ((gA σ 16 (a1).toNatClampNeg) = (-1) → (K (-1) σ)))

def b_X4_goWrite_98 (L98 : St → Int32 → Int32 → Int32 → Int64 → Int32 → Int32 → Prop) (K : St → Prop) (σ : St) (x2 : Int32) (x3 : Int32) (x4 : Int32) (x7 : Int64) (x9 : Int32) (x10 : Int32) : Prop :=
  (3000 ≤ x10 → (w_X4_give σ x2 0 x3 x7 (fun u_1 : St => K u_1))) ∧ (¬ 3000 ≤ x10 → ((x9 = (-1) → (w_X4_give σ x2 0 x3 x7 (fun u_3 : St => K u_3))) ∧ (¬ x9 = (-1) → (vp_in x9 3000 ∧ (vp_in x9 3000 ∧ (w_X4_give σ (gA σ 24 (x9).toNatClampNeg) 0 (gA σ 25 (x9).toNatClampNeg) x7 (fun u_5 : St => (¬ (gS u_5 4) = (-1) → (L98 u_5 x2 x3 x4 x7 (-1) (x10 + 1))) ∧ ((gS u_5 4) = (-1) → (w_X6_takeReader u_5 x4 (fun (r_8 : Int32) (u_7 : St) => L98 u_7 x2 x3 x4 x7 r_8 (x10 + 1)))))))))))

def w_X4_goWrite_98 (K : St → Prop) : Nat → St → Int32 → Int32 → Int32 → Int64 → Int32 → Int32 → Prop
  | 0 => fun _ _ _ _ _ _ _ => False
  | n + 1 => fun σ x2 x3 x4 x7 x9 x10 => b_X4_goWrite_98 (w_X4_goWrite_98 K n) K σ x2 x3 x4 x7 x9 x10

def w_X4_goWrite (σ : St) (a1 : Int32) (a2 : Int32) (a3 : Int32) (K : St → Prop) : Prop :=
  w_X4_placeAsked σ a1 (fun (r_15 : Int32) (u_14 : St) => w_X4_refuseCell u_14 a1 a2 r_15 (fun (r_17 : Int64) (u_16 : St) => (¬ (lg_cmp r_17 0) = 0 → (w_X4_give u_16 a2 0 a3 r_17 (fun u_18 : St => K u_18))) ∧ ((lg_cmp r_17 0) = 0 → ((¬ r_15 = (-1) → (vp_in r_15 2000 ∧ (((lg_cmp (gL u_16 3 (r_15).toNatClampNeg) 0) = 0 → (w_X1_cameTo u_16 a1 2 (fun (r_21 : Int64) (u_20 : St) => vp_in r_15 2000 ∧ (w_X6_takeReader (sL u_20 3 (r_15).toNatClampNeg r_21) r_15 (fun (r_23 : Int32) (u_22 : St) => ∃ n : Nat, w_X4_goWrite_98 K n u_22 a2 a3 r_15 r_21 r_23 0))))) ∧ (¬ (lg_cmp (gL u_16 3 (r_15).toNatClampNeg) 0) = 0 → (w_X4_clashAt u_16 a2 (fun u_26 : St => K u_26)))))) ∧ (r_15 = (-1) → (w_X4_give u_16 a2 0 a3 r_17 (fun u_30 : St => K u_30)))))))

def w_X4_goEnd (σ : St) (a1 : Int32) (a2 : Int32) (a3 : Int64) (K : St → Prop) : Prop :=
  vp_in a1 80 ∧ ((a2 = 0 → (vp_in (gA σ 1 (a1).toNatClampNeg) 10 ∧ (((lg_cmp (gL σ 2 ((gA σ 1 (a1).toNatClampNeg)).toNatClampNeg) 0) = 0 → (vp_in (gA σ 1 (a1).toNatClampNeg) 10 ∧ (K (sL σ 2 ((gA σ 1 (a1).toNatClampNeg)).toNatClampNeg a3)))) ∧ (¬ (lg_cmp (gL σ 2 ((gA σ 1 (a1).toNatClampNeg)).toNatClampNeg) 0) = 0 → (w_X4_clashAt σ a1 (fun u_2 : St => K u_2)))))) ∧ (¬ a2 = 0 → (K (sS σ 9 ((gS σ 9) + 1)))))

def w_X8_ofTruth (σ : St) (a1 : Int32) (K : Int64 → St → Prop) : Prop :=
  (a1 = 0 → (w_X8_ofNumber σ 0 (fun (r_2 : Int64) (u_1 : St) => K r_2 u_1))) ∧ (¬ a1 = 0 → (w_X8_ofNumber σ 1 (fun (r_4 : Int64) (u_3 : St) => K r_4 u_3)))

def w_X7_not (σ : St) (a1 : Int32) (a2 : Int64) (K : Int64 → St → Prop) : Prop :=
  w_X8_refuse σ a1 a2 1 (fun (r_2 : Int64) (u_1 : St) => ((lg_cmp r_2 0) = 0 → (w_X8_contentOf u_1 a2 (fun (r_4 : Int32) (u_3 : St) => (¬ r_4 = 0 → (w_X8_ofTruth u_3 0 (fun (r_6 : Int64) (u_5 : St) => K r_6 u_5))) ∧ (r_4 = 0 → (w_X8_ofTruth u_3 1 (fun (r_8 : Int64) (u_7 : St) => K r_8 u_7)))))) ∧ (¬ (lg_cmp r_2 0) = 0 → (K r_2 u_1)))

def b_X7_ofTwo_14 (K : Int64 → St → Prop) (σ : St) (x0 : Int32) (x1 : Int32) (x2 : Int64) (x4 : Int64) (t0 : Int32) : Prop :=
  w_X8_refuseTwo σ x1 x2 t0 x4 t0 (fun (r_2 : Int64) (u_1 : St) => ((lg_cmp r_2 0) = 0 → (w_X8_contentOf u_1 x2 (fun (r_4 : Int32) (u_3 : St) => w_X8_contentOf u_3 x4 (fun (r_6 : Int32) (u_5 : St) => ((x0 = 2) → (w_X8_ofNumber u_5 (r_4 + r_6) (fun (r_9 : Int64) (u_8 : St) => K r_9 u_8))) ∧ (¬ (x0 = 2) → (((x0 = 3) → (w_X8_ofNumber u_5 (r_4 - r_6) (fun (r_12 : Int64) (u_11 : St) => K r_12 u_11))) ∧ (¬ (x0 = 3) → (((x0 = 4) → (w_X8_ofNumber u_5 (r_4 * r_6) (fun (r_15 : Int64) (u_14 : St) => K r_15 u_14))) ∧ (¬ (x0 = 4) → (((x0 = 5) → ((¬ r_6 = 0 → (¬ r_6 = 0 ∧ (w_X8_ofNumber u_5 (r_4 / r_6) (fun (r_18 : Int64) (u_17 : St) => K r_18 u_17)))) ∧ (r_6 = 0 → (w_X8_ofFault u_5 1 x1 (fun (r_21 : Int64) (u_20 : St) => K r_21 u_20))))) ∧ (¬ (x0 = 5) → (((x0 = 6) → ((¬ r_6 = 0 → (¬ r_6 = 0 ∧ (w_X8_ofNumber u_5 (r_4 - r_4 / r_6 * r_6) (fun (r_25 : Int64) (u_24 : St) => K r_25 u_24)))) ∧ (r_6 = 0 → (w_X8_ofFault u_5 1 x1 (fun (r_28 : Int64) (u_27 : St) => K r_28 u_27))))) ∧ (¬ (x0 = 6) → (((x0 = 7) → ((r_6 ≤ r_4 → (w_X8_ofTruth u_5 0 (fun (r_32 : Int64) (u_31 : St) => K r_32 u_31))) ∧ (¬ r_6 ≤ r_4 → (w_X8_ofTruth u_5 1 (fun (r_34 : Int64) (u_33 : St) => K r_34 u_33))))) ∧ (¬ (x0 = 7) → ((¬ r_4 = r_6 → (w_X8_ofTruth u_5 0 (fun (r_37 : Int64) (u_36 : St) => K r_37 u_36))) ∧ (r_4 = r_6 → (w_X8_ofTruth u_5 1 (fun (r_39 : Int64) (u_38 : St) => K r_39 u_38))))))))))))))))))) ∧ (¬ (lg_cmp r_2 0) = 0 → (K r_2 u_1)))

def w_X7_ofTwo (σ : St) (a1 : Int32) (a2 : Int32) (a3 : Int64) (a4 : Int64) (K : Int64 → St → Prop) : Prop :=
  (¬ a1 = 8 → (b_X7_ofTwo_14 K σ a1 a2 a3 a4 1)) ∧ (a1 = 8 → (w_X8_sortOf σ a3 (fun (r_56 : Int32) (u_55 : St) => b_X7_ofTwo_14 K u_55 a1 a2 a3 a4 r_56)))

def w_X4_plainResult (σ : St) (a1 : Int32) (a2 : Int32) (a3 : Int64) (K : Int64 → St → Prop) : Prop :=
  vp_in a2 80 ∧ ((((gA σ 0 (a2).toNatClampNeg) = 0 ∨ (gA σ 0 (a2).toNatClampNeg) = 15) → (K a3 σ)) ∧ (¬ ((gA σ 0 (a2).toNatClampNeg) = 0 ∨ (gA σ 0 (a2).toNatClampNeg) = 15) → ((((gA σ 0 (a2).toNatClampNeg) = 1) → (vp_in a2 80 ∧ (w_X8_ofNumber σ (gA σ 1 (a2).toNatClampNeg) (fun (r_4 : Int64) (u_3 : St) => K r_4 u_3)))) ∧ (¬ ((gA σ 0 (a2).toNatClampNeg) = 1) → ((((gA σ 0 (a2).toNatClampNeg) = 9) → (w_X7_not σ a2 a3 (fun (r_8 : Int64) (u_7 : St) => K r_8 u_7))) ∧ (¬ ((gA σ 0 (a2).toNatClampNeg) = 9) → ((((gA σ 0 (a2).toNatClampNeg) = 20) → (w_X8_refuse σ a2 a3 2 (fun (r_11 : Int64) (u_10 : St) => w_X8_contentOf u_10 a3 (fun (r_13 : Int32) (u_12 : St) => ((lg_cmp r_11 0) = 0 → (w_X6_sizeOf u_12 r_13 (fun (r_15 : Int32) (u_14 : St) => w_X8_ofNumber u_14 r_15 (fun (r_17 : Int64) (u_16 : St) => K r_17 u_16)))) ∧ (¬ (lg_cmp r_11 0) = 0 → (K r_11 u_12)))))) ∧ (¬ ((gA σ 0 (a2).toNatClampNeg) = 20) → (w_X1_cameTo σ a1 1 (fun (r_20 : Int64) (u_19 : St) => w_X7_ofTwo u_19 (gA σ 0 (a2).toNatClampNeg) a2 a3 r_20 (fun (r_22 : Int64) (u_21 : St) => K r_22 u_21)))))))))))

def w_X4_goOff (σ : St) (a1 : Int32) (K : St → Prop) : Prop :=
  (¬ a1 = (-1) → (vp_in a1 3000 ∧ (vp_in a1 3000 ∧ (w_X1_cameTo σ a1 0 (fun (r_2 : Int64) (u_1 : St) => vp_in (gA σ 24 (a1).toNatClampNeg) 80 ∧ (vp_in (gA σ 24 (a1).toNatClampNeg) 80 ∧ (vp_in (gA σ 24 (a1).toNatClampNeg) 80 ∧ ((((gA u_1 0 ((gA σ 24 (a1).toNatClampNeg)).toNatClampNeg) = 10) → (w_X1_cameTo (sA (sS u_1 5 ((gS u_1 5) + 1)) 12 ((gA σ 24 (a1).toNatClampNeg)).toNatClampNeg ((gA u_1 12 ((gA σ 24 (a1).toNatClampNeg)).toNatClampNeg) + 1)) a1 1 (fun (r_5 : Int64) (u_4 : St) => w_X4_goSwitch u_4 (gA σ 24 (a1).toNatClampNeg) (gA σ 25 (a1).toNatClampNeg) r_2 r_5 (fun u_6 : St => K u_6)))) ∧ (¬ ((gA u_1 0 ((gA σ 24 (a1).toNatClampNeg)).toNatClampNeg) = 10) → ((((gA u_1 0 ((gA σ 24 (a1).toNatClampNeg)).toNatClampNeg) = 11) → (vp_in (gA σ 24 (a1).toNatClampNeg) 80 ∧ (w_X0_enter (sA (sS u_1 5 ((gS u_1 5) + 1)) 12 ((gA σ 24 (a1).toNatClampNeg)).toNatClampNeg ((gA u_1 12 ((gA σ 24 (a1).toNatClampNeg)).toNatClampNeg) + 1)) (gA σ 25 (a1).toNatClampNeg) (gA u_1 1 ((gA σ 24 (a1).toNatClampNeg)).toNatClampNeg) (fun (r_10 : Int32) (u_9 : St) => w_X4_giveInside u_9 (gA σ 24 (a1).toNatClampNeg) r_10 r_2 (fun u_11 : St => K u_11))))) ∧ (¬ ((gA u_1 0 ((gA σ 24 (a1).toNatClampNeg)).toNatClampNeg) = 11) → ((((gA u_1 0 ((gA σ 24 (a1).toNatClampNeg)).toNatClampNeg) = 12 ∨ (gA u_1 0 ((gA σ 24 (a1).toNatClampNeg)).toNatClampNeg) = 13) → (w_X4_goTurn (sA (sS u_1 5 ((gS u_1 5) + 1)) 12 ((gA σ 24 (a1).toNatClampNeg)).toNatClampNeg ((gA u_1 12 ((gA σ 24 (a1).toNatClampNeg)).toNatClampNeg) + 1)) (gA σ 24 (a1).toNatClampNeg) (gA σ 25 (a1).toNatClampNeg) r_2 (fun u_15 : St => K u_15))) ∧ (¬ ((gA u_1 0 ((gA σ 24 (a1).toNatClampNeg)).toNatClampNeg) = 12 ∨ (gA u_1 0 ((gA σ 24 (a1).toNatClampNeg)).toNatClampNeg) = 13) → ((((gA u_1 0 ((gA σ 24 (a1).toNatClampNeg)).toNatClampNeg) = 14) → (w_X4_goCall (sA (sS u_1 5 ((gS u_1 5) + 1)) 12 ((gA σ 24 (a1).toNatClampNeg)).toNatClampNeg ((gA u_1 12 ((gA σ 24 (a1).toNatClampNeg)).toNatClampNeg) + 1)) a1 (gA σ 24 (a1).toNatClampNeg) (gA σ 25 (a1).toNatClampNeg) (fun u_18 : St => K u_18))) ∧ (¬ ((gA u_1 0 ((gA σ 24 (a1).toNatClampNeg)).toNatClampNeg) = 14) → ((((gA u_1 0 ((gA σ 24 (a1).toNatClampNeg)).toNatClampNeg) = 16) → (w_X4_goReturn (sA (sS u_1 5 ((gS u_1 5) + 1)) 12 ((gA σ 24 (a1).toNatClampNeg)).toNatClampNeg ((gA u_1 12 ((gA σ 24 (a1).toNatClampNeg)).toNatClampNeg) + 1)) (gA σ 25 (a1).toNatClampNeg) r_2 (fun u_21 : St => K u_21))) ∧ (¬ ((gA u_1 0 ((gA σ 24 (a1).toNatClampNeg)).toNatClampNeg) = 16) → ((((gA u_1 0 ((gA σ 24 (a1).toNatClampNeg)).toNatClampNeg) = 17) → (w_X4_goMake (sA (sS u_1 5 ((gS u_1 5) + 1)) 12 ((gA σ 24 (a1).toNatClampNeg)).toNatClampNeg ((gA u_1 12 ((gA σ 24 (a1).toNatClampNeg)).toNatClampNeg) + 1)) (gA σ 24 (a1).toNatClampNeg) (gA σ 25 (a1).toNatClampNeg) r_2 (fun u_24 : St => K u_24))) ∧ (¬ ((gA u_1 0 ((gA σ 24 (a1).toNatClampNeg)).toNatClampNeg) = 17) → ((((gA u_1 0 ((gA σ 24 (a1).toNatClampNeg)).toNatClampNeg) = 18) → (w_X4_goRead (sA (sS u_1 5 ((gS u_1 5) + 1)) 12 ((gA σ 24 (a1).toNatClampNeg)).toNatClampNeg ((gA u_1 12 ((gA σ 24 (a1).toNatClampNeg)).toNatClampNeg) + 1)) a1 (gA σ 24 (a1).toNatClampNeg) (gA σ 25 (a1).toNatClampNeg) (fun u_27 : St => K u_27))) ∧ (¬ ((gA u_1 0 ((gA σ 24 (a1).toNatClampNeg)).toNatClampNeg) = 18) → ((((gA u_1 0 ((gA σ 24 (a1).toNatClampNeg)).toNatClampNeg) = 19) → (w_X4_goWrite (sA (sS u_1 5 ((gS u_1 5) + 1)) 12 ((gA σ 24 (a1).toNatClampNeg)).toNatClampNeg ((gA u_1 12 ((gA σ 24 (a1).toNatClampNeg)).toNatClampNeg) + 1)) a1 (gA σ 24 (a1).toNatClampNeg) (gA σ 25 (a1).toNatClampNeg) (fun u_30 : St => K u_30))) ∧ (¬ ((gA u_1 0 ((gA σ 24 (a1).toNatClampNeg)).toNatClampNeg) = 19) → ((((gA u_1 0 ((gA σ 24 (a1).toNatClampNeg)).toNatClampNeg) = 21) → (w_X4_goEnd (sA (sS u_1 5 ((gS u_1 5) + 1)) 12 ((gA σ 24 (a1).toNatClampNeg)).toNatClampNeg ((gA u_1 12 ((gA σ 24 (a1).toNatClampNeg)).toNatClampNeg) + 1)) (gA σ 24 (a1).toNatClampNeg) (gA σ 25 (a1).toNatClampNeg) r_2 (fun u_33 : St => K u_33))) ∧ (¬ ((gA u_1 0 ((gA σ 24 (a1).toNatClampNeg)).toNatClampNeg) = 21) → (w_X4_plainResult (sA (sS u_1 5 ((gS u_1 5) + 1)) 12 ((gA σ 24 (a1).toNatClampNeg)).toNatClampNeg ((gA u_1 12 ((gA σ 24 (a1).toNatClampNeg)).toNatClampNeg) + 1)) a1 (gA σ 24 (a1).toNatClampNeg) r_2 (fun (r_36 : Int64) (u_35 : St) => w_X4_give u_35 (gA σ 24 (a1).toNatClampNeg) 0 (gA σ 25 (a1).toNatClampNeg) r_36 (fun u_37 : St => K u_37)))))))))))))))))))))))))))) ∧ (a1 = (-1) → (K σ))

def b_X4_goBySeed_74 (K : Int32 → St → Prop) (σ : St) : Prop :=
  ((gS σ 5) ≤ 0 → (K (gS σ 4) (sS σ 7 0))) ∧ (¬ (gS σ 5) ≤ 0 → (K (gS σ 4) (sS σ 7 1)))

def b_X4_goBySeed_9 (L9 : St → Int32 → Int32 → Int32 → Prop) (K : Int32 → St → Prop) (σ : St) (x2 : Int32) (x3 : Int32) (x4 : Int32) : Prop :=
  (x2 < x4 → (b_X4_goBySeed_74 K σ)) ∧ (¬ x2 < x4 → (w_X4_mayStep σ x2 (fun (r_3 : Int32) (u_2 : St) => (r_3 = 0 → (b_X4_goBySeed_74 K u_2)) ∧ (¬ r_3 = 0 → (w_X5_size u_2 (fun (r_5 : Int32) (u_4 : St) => (¬ r_5 = 0 → (¬ r_5 = 0 ∧ (w_X5_take u_4 (((((1103515245 * x3) + 12345).toUInt32 >>> ((16 : Int32).toUInt32 &&& Int32.toUInt32 31)).toInt32) - ((((1103515245 * x3) + 12345).toUInt32 >>> ((16 : Int32).toUInt32 &&& Int32.toUInt32 31)).toInt32) / r_5 * r_5) (fun (r_7 : Int32) (u_6 : St) => w_X4_goOff u_6 r_7 (fun u_8 : St => L9 u_8 x2 ((1103515245 * x3) + 12345) (x4 + 1)))))) ∧ (r_5 = 0 → (w_X5_take u_4 0 (fun (r_12 : Int32) (u_11 : St) => w_X4_goOff u_11 r_12 (fun u_13 : St => L9 u_13 x2 ((1103515245 * x3) + 12345) (x4 + 1)))))))))))

def w_X4_goBySeed_9 (K : Int32 → St → Prop) : Nat → St → Int32 → Int32 → Int32 → Prop
  | 0 => fun _ _ _ _ => False
  | n + 1 => fun σ x2 x3 x4 => b_X4_goBySeed_9 (w_X4_goBySeed_9 K n) K σ x2 x3 x4

def w_X4_goBySeed (σ : St) (a1 : Int32) (a2 : Int32) (K : Int32 → St → Prop) : Prop :=
  w_X4_begin σ (fun u_18 : St => ∃ n : Nat, w_X4_goBySeed_9 K n u_18 a2 a1 0)

def b_X4_goTick_41 (K : St → Prop) (σ : St) (x3 : Int32) : Prop :=
  K (sS (sS σ 6 ((gS σ 6) + 1)) 7 (if (gS σ 7) < x3 then x3 else (gS σ 7)))

def b_X4_goTick_10 (L10 : St → Int32 → Int32 → Int32 → Prop) (K : St → Prop) (σ : St) (x1 : Int32) (x2 : Int32) (x3 : Int32) : Prop :=
  (x2 ≤ x3 → (b_X4_goTick_41 K σ x3)) ∧ (¬ x2 ≤ x3 → (w_X4_mayStep σ x1 (fun (r_2 : Int32) (u_1 : St) => (r_2 = 0 → (b_X4_goTick_41 K u_1 x3)) ∧ (¬ r_2 = 0 → (w_X5_take u_1 0 (fun (r_4 : Int32) (u_3 : St) => w_X4_goOff u_3 r_4 (fun u_5 : St => L10 u_5 x1 x2 (x3 + 1))))))))

def w_X4_goTick_10 (K : St → Prop) : Nat → St → Int32 → Int32 → Int32 → Prop
  | 0 => fun _ _ _ _ => False
  | n + 1 => fun σ x1 x2 x3 => b_X4_goTick_10 (w_X4_goTick_10 K n) K σ x1 x2 x3

def w_X4_goTick (σ : St) (a1 : Int32) (K : St → Prop) : Prop :=
  w_X5_size σ (fun (r_10 : Int32) (u_9 : St) => ∃ n : Nat, w_X4_goTick_10 K n u_9 a1 r_10 0)

def b_X4_goByTicks_6 (L6 : St → Int32 → Int32 → Prop) (K : Int32 → St → Prop) (σ : St) (x1 : Int32) (x2 : Int32) : Prop :=
  (x1 < x2 → (K (gS σ 4) σ)) ∧ (¬ x1 < x2 → (w_X4_mayStep σ x1 (fun (r_2 : Int32) (u_1 : St) => (r_2 = 0 → (K (gS u_1 4) u_1)) ∧ (¬ r_2 = 0 → (w_X4_goTick u_1 x1 (fun u_3 : St => L6 u_3 x1 (x2 + 1)))))))

def w_X4_goByTicks_6 (K : Int32 → St → Prop) : Nat → St → Int32 → Int32 → Prop
  | 0 => fun _ _ _ => False
  | n + 1 => fun σ x1 x2 => b_X4_goByTicks_6 (w_X4_goByTicks_6 K n) K σ x1 x2

def w_X4_goByTicks (σ : St) (a1 : Int32) (K : Int32 → St → Prop) : Prop :=
  w_X4_begin σ (fun u_7 : St => ∃ n : Nat, w_X4_goByTicks_6 K n u_7 a1 0)

def w_X4_figure (σ : St) (a1 : Int32) (K : Int32 → St → Prop) : Prop :=
  ((a1 = 0) → (K (gS σ 4) σ)) ∧ (¬ (a1 = 0) → (((a1 = 1) → (K (gS σ 5) σ)) ∧ (¬ (a1 = 1) → (((a1 = 2) → (K (gS σ 6) σ)) ∧ (¬ (a1 = 2) → (((a1 = 3) → (K (gS σ 7) σ)) ∧ (¬ (a1 = 3) → (((a1 = 4) → (K (gS σ 15) σ)) ∧ (¬ (a1 = 4) → (((a1 = 5) → (K (gS σ 11) σ)) ∧ (¬ (a1 = 5) → (((a1 = 6) → (K (gS σ 8) σ)) ∧ (¬ (a1 = 6) → (((a1 = 7) → (K (gS σ 9) σ)) ∧ (¬ (a1 = 7) → (((a1 = 8) → (K (gS σ 14) σ)) ∧ (¬ (a1 = 8) → (((a1 = 9) → (K (gS σ 10) σ)) ∧ (¬ (a1 = 9) → (((a1 = 10) → (w_X5_size σ (fun (r_13 : Int32) (u_12 : St) => K r_13 u_12))) ∧ (¬ (a1 = 10) → (K (-1) σ))))))))))))))))))))))

def w_X8_actOf (σ : St) (a1 : Int64) (K : Int32 → St → Prop) : Prop :=
  K ((((a1.toUInt64 >>> ((32 : Int32).toInt64.toUInt64 &&& Int64.toUInt64 63)).toInt64).toInt32) &&& 255) σ

def w_X4_describe (σ : St) (a1 : Int64) (a2 : Int32) (K : Int32 → St → Prop) : Prop :=
  w_X8_sortOf σ a1 (fun (r_2 : Int32) (u_1 : St) => ((a2 = 0) → (K r_2 u_1)) ∧ (¬ (a2 = 0) → (((a2 = 1) → ((¬ (lg_cmp a1 0) = 0 → (w_X8_contentOf u_1 a1 (fun (r_6 : Int32) (u_5 : St) => (¬ r_2 = 2 → (K r_6 u_5)) ∧ (r_2 = 2 → (w_X6_sizeOf u_5 r_6 (fun (r_8 : Int32) (u_7 : St) => K r_8 u_7)))))) ∧ ((lg_cmp a1 0) = 0 → (K (-1) u_1)))) ∧ (¬ (a2 = 1) → (((a2 = 2) → ((¬ r_2 = 3 → (K (-1) u_1)) ∧ (r_2 = 3 → (w_X8_actOf u_1 a1 (fun (r_13 : Int32) (u_12 : St) => K r_13 u_12))))) ∧ (¬ (a2 = 2) → (K (-1) u_1)))))))

def w_X4_comparable (σ : St) (a1 : Int64) (K : Int64 → St → Prop) : Prop :=
  w_X8_sortOf σ a1 (fun (r_2 : Int32) (u_1 : St) => (r_2 = 2 → (w_X8_contentOf u_1 a1 (fun (r_4 : Int32) (u_3 : St) => w_X6_sizeOf u_3 r_4 (fun (r_6 : Int32) (u_5 : St) => w_X8_ofRow u_5 r_6 (fun (r_8 : Int64) (u_7 : St) => K r_8 u_7))))) ∧ (¬ r_2 = 2 → (K a1 u_1)))

def b_X4_copyFigures_figuresA_86 (L86 : St → Int32 → Prop) (K : St → Prop) (σ : St) (x2 : Int32) : Prop :=
  (80 ≤ x2 → (K σ)) ∧ (¬ 80 ≤ x2 → (vp_in x2 80 ∧ (vp_in (20 + x2) 100 ∧ (L86 (sL σ 0 ((20 + x2)).toNatClampNeg ((gA σ 12 (x2).toNatClampNeg).toInt64)) (x2 + 1)))))

def w_X4_copyFigures_figuresA_86 (K : St → Prop) : Nat → St → Int32 → Prop
  | 0 => fun _ _ => False
  | n + 1 => fun σ x2 => b_X4_copyFigures_figuresA_86 (w_X4_copyFigures_figuresA_86 K n) K σ x2

def b_X4_copyFigures_figuresA_56 (L56 : St → Int32 → Prop) (K : St → Prop) (σ : St) (x2 : Int32) : Prop :=
  (10 ≤ x2 → (∃ n : Nat, w_X4_copyFigures_figuresA_86 K n σ 0)) ∧ (¬ 10 ≤ x2 → (vp_in x2 10 ∧ (w_X4_comparable σ (gL σ 2 (x2).toNatClampNeg) (fun (r_6 : Int64) (u_5 : St) => vp_in (10 + x2) 100 ∧ (L56 (sL u_5 0 ((10 + x2)).toNatClampNeg r_6) (x2 + 1))))))

def w_X4_copyFigures_figuresA_56 (K : St → Prop) : Nat → St → Int32 → Prop
  | 0 => fun _ _ => False
  | n + 1 => fun σ x2 => b_X4_copyFigures_figuresA_56 (w_X4_copyFigures_figuresA_56 K n) K σ x2

def w_X4_copyFigures_figuresA (σ : St) (K : St → Prop) : Prop :=
  ∃ n : Nat, w_X4_copyFigures_figuresA_56 K n (sL (sL (sL (sL (sL (sL σ 0 ((0 : Int32)).toNatClampNeg ((gS σ 4).toInt64)) 0 ((1 : Int32)).toNatClampNeg ((gS σ 5).toInt64)) 0 ((2 : Int32)).toNatClampNeg ((gS σ 15).toInt64)) 0 ((3 : Int32)).toNatClampNeg ((gS σ 11).toInt64)) 0 ((4 : Int32)).toNatClampNeg ((gS σ 8).toInt64)) 0 ((5 : Int32)).toNatClampNeg ((gS σ 9).toInt64)) 0

def b_X4_copyFigures_figuresB_86 (L86 : St → Int32 → Prop) (K : St → Prop) (σ : St) (x2 : Int32) : Prop :=
  (80 ≤ x2 → (K σ)) ∧ (¬ 80 ≤ x2 → (vp_in x2 80 ∧ (vp_in (20 + x2) 100 ∧ (L86 (sL σ 1 ((20 + x2)).toNatClampNeg ((gA σ 12 (x2).toNatClampNeg).toInt64)) (x2 + 1)))))

def w_X4_copyFigures_figuresB_86 (K : St → Prop) : Nat → St → Int32 → Prop
  | 0 => fun _ _ => False
  | n + 1 => fun σ x2 => b_X4_copyFigures_figuresB_86 (w_X4_copyFigures_figuresB_86 K n) K σ x2

def b_X4_copyFigures_figuresB_56 (L56 : St → Int32 → Prop) (K : St → Prop) (σ : St) (x2 : Int32) : Prop :=
  (10 ≤ x2 → (∃ n : Nat, w_X4_copyFigures_figuresB_86 K n σ 0)) ∧ (¬ 10 ≤ x2 → (vp_in x2 10 ∧ (w_X4_comparable σ (gL σ 2 (x2).toNatClampNeg) (fun (r_6 : Int64) (u_5 : St) => vp_in (10 + x2) 100 ∧ (L56 (sL u_5 1 ((10 + x2)).toNatClampNeg r_6) (x2 + 1))))))

def w_X4_copyFigures_figuresB_56 (K : St → Prop) : Nat → St → Int32 → Prop
  | 0 => fun _ _ => False
  | n + 1 => fun σ x2 => b_X4_copyFigures_figuresB_56 (w_X4_copyFigures_figuresB_56 K n) K σ x2

def w_X4_copyFigures_figuresB (σ : St) (K : St → Prop) : Prop :=
  ∃ n : Nat, w_X4_copyFigures_figuresB_56 K n (sL (sL (sL (sL (sL (sL σ 1 ((0 : Int32)).toNatClampNeg ((gS σ 4).toInt64)) 1 ((1 : Int32)).toNatClampNeg ((gS σ 5).toInt64)) 1 ((2 : Int32)).toNatClampNeg ((gS σ 15).toInt64)) 1 ((3 : Int32)).toNatClampNeg ((gS σ 11).toInt64)) 1 ((4 : Int32)).toNatClampNeg ((gS σ 8).toInt64)) 1 ((5 : Int32)).toNatClampNeg ((gS σ 9).toInt64)) 0

def w_X9_act (σ : St) (a1 : Int32) (a2 : Int32) (a3 : Int32) (K : Int32 → St → Prop) : Prop :=
  w_X2_addAct σ a1 a2 a3 (fun (r_2 : Int32) (u_1 : St) => K r_2 u_1)

def w_X9_way (σ : St) (a1 : Int32) (a2 : Int32) (a3 : Int32) (a4 : Int32) (K : Int32 → St → Prop) : Prop :=
  w_X2_addWay σ a1 a2 a3 a4 (fun (r_2 : Int32) (u_1 : St) => K r_2 u_1)

def w_X9_token (σ : St) (a1 : Int32) (a2 : Int32) (a3 : Int32) (K : Int32 → St → Prop) : Prop :=
  w_X2_addToken σ a1 a2 a3 (fun (r_2 : Int32) (u_1 : St) => K r_2 u_1)

def b_X9_clear_30 (K : Int32 → St → Prop) (σ : St) (x1 : Int32) : Prop :=
  (¬ x1 = 2 → (K 1 (sS σ 0 0))) ∧ (x1 = 2 → (w_X2_dropActs σ (fun u_1 : St => K 1 (sS u_1 0 0))))

def w_X9_clear (σ : St) (a1 : Int32) (K : Int32 → St → Prop) : Prop :=
  (a1 < 0 → (K 0 σ)) ∧ (¬ a1 < 0 → ((a1 ≤ 2 → (w_X2_dropTokens σ (fun u_4 : St => (a1 < 1 → (b_X9_clear_30 K u_4 a1)) ∧ (¬ a1 < 1 → (w_X2_dropWays u_4 (fun u_6 : St => b_X9_clear_30 K u_6 a1)))))) ∧ (¬ a1 ≤ 2 → (K 0 σ))))

def w_X9_isFuel (σ : St) (a1 : Int32) (K : Int32 → St → Prop) : Prop :=
  (a1 < 0 → (K 0 σ)) ∧ (¬ a1 < 0 → ((4000 < a1 → (K 0 σ)) ∧ (¬ 4000 < a1 → (K 1 σ))))

def w_X9_run (σ : St) (a1 : Int32) (a2 : Int32) (K : Int32 → St → Prop) : Prop :=
  w_X9_isFuel σ a2 (fun (r_2 : Int32) (u_1 : St) => (¬ r_2 = 0 → (w_X4_goBySeed (sS u_1 0 1) a1 a2 (fun (r_4 : Int32) (u_3 : St) => K r_4 u_3))) ∧ (r_2 = 0 → (K (-1) u_1)))

def w_X9_ticks (σ : St) (a1 : Int32) (K : Int32 → St → Prop) : Prop :=
  w_X9_isFuel σ a1 (fun (r_2 : Int32) (u_1 : St) => (¬ r_2 = 0 → (w_X4_goByTicks (sS u_1 0 1) a1 (fun (r_4 : Int32) (u_3 : St) => K r_4 u_3))) ∧ (r_2 = 0 → (K (-1) u_1)))

def w_X9_about (σ : St) (a1 : Int32) (K : Int32 → St → Prop) : Prop :=
  ((gS σ 0) = 0 → (K (-1) σ)) ∧ (¬ (gS σ 0) = 0 → (w_X4_figure σ a1 (fun (r_2 : Int32) (u_1 : St) => K r_2 u_1)))

def w_X9_end (σ : St) (a1 : Int32) (a2 : Int32) (K : Int32 → St → Prop) : Prop :=
  ((gS σ 0) = 0 → (K (-1) σ)) ∧ (¬ (gS σ 0) = 0 → ((a1 < 0 → (K (-1) σ)) ∧ (¬ a1 < 0 → ((a1 < 10 → (vp_in a1 10 ∧ (w_X4_describe σ (gL σ 2 (a1).toNatClampNeg) a2 (fun (r_2 : Int32) (u_1 : St) => K r_2 u_1)))) ∧ (¬ a1 < 10 → (K (-1) σ))))))

def w_X9_fired (σ : St) (a1 : Int32) (K : Int32 → St → Prop) : Prop :=
  ((gS σ 0) = 0 → (K (-1) σ)) ∧ (¬ (gS σ 0) = 0 → (w_X2_hasAct σ a1 (fun (r_2 : Int32) (u_1 : St) => (r_2 = 0 → (K (-1) u_1)) ∧ (¬ r_2 = 0 → (vp_in a1 80 ∧ (K (gA u_1 12 (a1).toNatClampNeg) u_1))))))

def w_X9_cell (σ : St) (a1 : Int32) (a2 : Int32) (a3 : Int32) (K : Int32 → St → Prop) : Prop :=
  ((gS σ 0) = 0 → (K (-1) σ)) ∧ (¬ (gS σ 0) = 0 → (w_X2_hasAct σ a1 (fun (r_2 : Int32) (u_1 : St) => (¬ r_2 = 0 → (vp_in a1 80 ∧ (w_X6_placeIn u_1 (gA u_1 13 (a1).toNatClampNeg) a2 (fun (r_4 : Int32) (u_3 : St) => (¬ r_4 = (-1) → (vp_in r_4 2000 ∧ (w_X4_describe u_3 (gL u_3 3 (r_4).toNatClampNeg) a3 (fun (r_6 : Int32) (u_5 : St) => K r_6 u_5)))) ∧ (r_4 = (-1) → (K (-1) u_3)))))) ∧ (r_2 = 0 → (K (-1) u_1)))))

def w_X9_told (σ : St) (a1 : Int32) (a2 : Int32) (K : Int32 → St → Prop) : Prop :=
  w_X2_hasAct σ a1 (fun (r_2 : Int32) (u_1 : St) => (¬ r_2 = 0 → (((a2 = 0) → (vp_in a1 80 ∧ (K (gA u_1 0 (a1).toNatClampNeg) u_1))) ∧ (¬ (a2 = 0) → (((a2 = 1) → (vp_in a1 80 ∧ (K (gA u_1 1 (a1).toNatClampNeg) u_1))) ∧ (¬ (a2 = 1) → (((a2 = 2) → (vp_in a1 80 ∧ (K (gA u_1 2 (a1).toNatClampNeg) u_1))) ∧ (¬ (a2 = 2) → (((a2 = 3) → (w_X2_countWays u_1 a1 0 (fun (r_11 : Int32) (u_10 : St) => K r_11 u_10))) ∧ (¬ (a2 = 3) → (((a2 = 4) → (w_X2_countWays u_1 a1 1 (fun (r_14 : Int32) (u_13 : St) => K r_14 u_13))) ∧ (¬ (a2 = 4) → (((a2 = 5) → (w_X2_countTokens u_1 a1 (fun (r_17 : Int32) (u_16 : St) => K r_17 u_16))) ∧ (¬ (a2 = 5) → (K (-1) u_1)))))))))))))) ∧ (r_2 = 0 → (K (-1) u_1)))

def b_X9_firstDifference_2 (L2 : St → Int32 → Prop) (K : Int32 → St → Prop) (σ : St) (x1 : Int32) : Prop :=
  (100 ≤ x1 → (K (-1) σ)) ∧ (¬ 100 ≤ x1 → (vp_in x1 100 ∧ (vp_in x1 100 ∧ (((lg_cmp (gL σ 0 (x1).toNatClampNeg) (gL σ 1 (x1).toNatClampNeg)) = 0 → (L2 σ (x1 + 1))) ∧ (¬ (lg_cmp (gL σ 0 (x1).toNatClampNeg) (gL σ 1 (x1).toNatClampNeg)) = 0 → (K x1 σ))))))

def w_X9_firstDifference_2 (K : Int32 → St → Prop) : Nat → St → Int32 → Prop
  | 0 => fun _ _ => False
  | n + 1 => fun σ x1 => b_X9_firstDifference_2 (w_X9_firstDifference_2 K n) K σ x1

def w_X9_firstDifference (σ : St) (K : Int32 → St → Prop) : Prop :=
  ∃ n : Nat, w_X9_firstDifference_2 K n σ 0

def w_X9_beside (σ : St) (a1 : Int32) (a2 : Int32) (a3 : Int32) (K : Int32 → St → Prop) : Prop :=
  w_X9_isFuel σ a3 (fun (r_2 : Int32) (u_1 : St) => (¬ r_2 = 0 → (w_X4_goBySeed (sS u_1 0 1) a1 a3 (fun (r_4 : Int32) (u_3 : St) => w_X4_copyFigures_figuresA u_3 (fun u_5 : St => w_X4_goBySeed u_5 a2 a3 (fun (r_8 : Int32) (u_7 : St) => w_X4_copyFigures_figuresB u_7 (fun u_9 : St => (¬ r_4 = r_8 → (w_X9_firstDifference u_9 (fun (r_12 : Int32) (u_11 : St) => K r_12 u_11))) ∧ (r_4 = r_8 → ((r_4 = 0 → (w_X9_firstDifference u_9 (fun (r_14 : Int32) (u_13 : St) => K r_14 u_13))) ∧ (¬ r_4 = 0 → (K (-1) u_9)))))))))) ∧ (r_2 = 0 → (K (-2) u_1)))

def w_X10_in (σ : St) (a1 : Int32) (a2 : Int32) (a3 : Int32) (K : Int32 → St → Prop) : Prop :=
  (a1 < a2 → (K 0 σ)) ∧ (¬ a1 < a2 → ((a3 < a1 → (K 0 σ)) ∧ (¬ a3 < a1 → (K 1 σ))))

def w_X10_isAct (σ : St) (a1 : Int32) (K : Int32 → St → Prop) : Prop :=
  w_X10_in σ a1 0 ((gS σ 0) - 1) (fun (r_2 : Int32) (u_1 : St) => K r_2 u_1)

def w_X10_portsOf (σ : St) (a1 : Int32) (a2 : Int32) (K : Int32 → St → Prop) : Prop :=
  (¬ a1 = 14 → ((¬ a1 = 19 → (w_X10_in σ a1 2 8 (fun (r_2 : Int32) (u_1 : St) => (¬ r_2 = 0 → (K 2 u_1)) ∧ (r_2 = 0 → ((a1 = 10 → (K 2 u_1)) ∧ (¬ a1 = 10 → ((¬ a1 = 18 → (K 1 u_1)) ∧ (a1 = 18 → (K 2 u_1))))))))) ∧ (a1 = 19 → (K 3 σ)))) ∧ (a1 = 14 → (K a2 σ))

def b_X10_act_93 (K : Int32 → St → Prop) (σ : St) (x1 : Int32) (x2 : Int32) (x3 : Int32) : Prop :=
  vp_in (gS σ 0) 80 ∧ (vp_in (gS σ 0) 80 ∧ (w_X10_portsOf (sA (sA σ 0 ((gS σ 0)).toNatClampNeg x1) 1 ((gS σ 0)).toNatClampNeg x2) x1 x3 (fun (r_2 : Int32) (u_1 : St) => vp_in (gS σ 0) 80 ∧ (K (((gS u_1 0) + 1) - 1) (sS (sA u_1 2 ((gS σ 0)).toNatClampNeg r_2) 0 ((gS u_1 0) + 1))))))

def b_X10_act_76 (K : Int32 → St → Prop) (σ : St) (x1 : Int32) (x2 : Int32) (x3 : Int32) : Prop :=
  (¬ x1 = 14 → (b_X10_act_93 K σ x1 x2 x3)) ∧ (x1 = 14 → (w_X10_in σ x3 1 3 (fun (r_7 : Int32) (u_6 : St) => (¬ r_7 = 0 → (b_X10_act_93 K u_6 x1 x2 x3)) ∧ (r_7 = 0 → (K (-1) u_6)))))

def b_X10_act_50 (K : Int32 → St → Prop) (σ : St) (x1 : Int32) (x2 : Int32) (x3 : Int32) : Prop :=
  (¬ x1 = 15 → (b_X10_act_76 K σ x1 x2 x3)) ∧ (x1 = 15 → (w_X10_in σ x2 0 99 (fun (r_11 : Int32) (u_10 : St) => (r_11 = 0 → (K (-1) u_10)) ∧ (¬ r_11 = 0 → (((x2 - x2 / 10 * 10) ≤ 2 → (b_X10_act_76 K u_10 x1 x2 x3)) ∧ (¬ (x2 - x2 / 10 * 10) ≤ 2 → (K (-1) u_10)))))))

def w_X10_act (σ : St) (a1 : Int32) (a2 : Int32) (a3 : Int32) (K : Int32 → St → Prop) : Prop :=
  w_X10_in σ a1 0 21 (fun (r_16 : Int32) (u_15 : St) => (r_16 = 0 → (K (-1) u_15)) ∧ (¬ r_16 = 0 → ((¬ (gS u_15 0) = 80 → (w_X10_in u_15 a1 11 14 (fun (r_18 : Int32) (u_17 : St) => (¬ r_18 = 0 → (w_X10_in u_17 a2 0 9 (fun (r_20 : Int32) (u_19 : St) => (¬ r_20 = 0 → (b_X10_act_50 K u_19 a1 a2 a3)) ∧ (r_20 = 0 → (K (-1) u_19))))) ∧ (r_18 = 0 → ((¬ a1 = 21 → (b_X10_act_50 K u_17 a1 a2 a3)) ∧ (a1 = 21 → (w_X10_in u_17 a2 0 9 (fun (r_23 : Int32) (u_22 : St) => (¬ r_23 = 0 → (b_X10_act_50 K u_22 a1 a2 a3)) ∧ (r_23 = 0 → (K (-1) u_22)))))))))) ∧ ((gS u_15 0) = 80 → (K (-1) u_15)))))

def b_X10_way_34 (K : Int32 → St → Prop) (σ : St) (x1 : Int32) (x2 : Int32) (x3 : Int32) (x4 : Int32) (t0 : Int32) (t1 : Int32) (t2 : Int32) : Prop :=
  w_X10_in σ t0 t1 t2 (fun (r_2 : Int32) (u_1 : St) => (r_2 = 0 → (K (-1) u_1)) ∧ (¬ r_2 = 0 → (vp_in x3 80 ∧ (w_X10_in u_1 x4 0 ((gA u_1 2 (x3).toNatClampNeg) - 1) (fun (r_4 : Int32) (u_3 : St) => (r_4 = 0 → (K (-1) u_3)) ∧ (¬ r_4 = 0 → ((¬ (gS u_3 1) = 300 → (vp_in (gS u_3 1) 300 ∧ (vp_in (gS u_3 1) 300 ∧ (vp_in (gS u_3 1) 300 ∧ (vp_in (gS u_3 1) 300 ∧ (K (((gS u_3 1) + 1) - 1) (sS (sA (sA (sA (sA u_3 3 ((gS u_3 1)).toNatClampNeg x1) 4 ((gS u_3 1)).toNatClampNeg x2) 5 ((gS u_3 1)).toNatClampNeg x3) 6 ((gS u_3 1)).toNatClampNeg x4) 1 ((gS u_3 1) + 1)))))))) ∧ ((gS u_3 1) = 300 → (K (-1) u_3)))))))))

def w_X10_way (σ : St) (a1 : Int32) (a2 : Int32) (a3 : Int32) (a4 : Int32) (K : Int32 → St → Prop) : Prop :=
  w_X10_isAct σ a1 (fun (r_14 : Int32) (u_13 : St) => (r_14 = 0 → (K (-1) u_13)) ∧ (¬ r_14 = 0 → (w_X10_isAct u_13 a3 (fun (r_16 : Int32) (u_15 : St) => (r_16 = 0 → (K (-1) u_15)) ∧ (¬ r_16 = 0 → (vp_in a1 80 ∧ ((¬ (gA u_15 0 (a1).toNatClampNeg) = 10 → (b_X10_way_34 K u_15 a1 a2 a3 a4 a2 0 0)) ∧ ((gA u_15 0 (a1).toNatClampNeg) = 10 → (b_X10_way_34 K u_15 a1 a2 a3 a4 a2 0 1)))))))))

def w_X10_token (σ : St) (a1 : Int32) (a2 : Int32) (a3 : Int32) (K : Int32 → St → Prop) : Prop :=
  w_X10_isAct σ a1 (fun (r_2 : Int32) (u_1 : St) => (r_2 = 0 → (K (-1) u_1)) ∧ (¬ r_2 = 0 → (vp_in a1 80 ∧ (w_X10_in u_1 a2 0 ((gA u_1 2 (a1).toNatClampNeg) - 1) (fun (r_4 : Int32) (u_3 : St) => (r_4 = 0 → (K (-1) u_3)) ∧ (¬ r_4 = 0 → ((¬ (gS u_3 2) = 40 → (vp_in (gS u_3 2) 40 ∧ (vp_in (gS u_3 2) 40 ∧ (vp_in (gS u_3 2) 40 ∧ (K ((gS u_3 2) + 1) (sS (sA (sA (sA u_3 7 ((gS u_3 2)).toNatClampNeg a1) 8 ((gS u_3 2)).toNatClampNeg a2) 9 ((gS u_3 2)).toNatClampNeg a3) 2 ((gS u_3 2) + 1))))))) ∧ ((gS u_3 2) = 40 → (K (-1) u_3)))))))))

def b_X10_clear_25 (K : Int32 → St → Prop) (σ : St) (x1 : Int32) : Prop :=
  (x1 ≤ 1 → (K 1 (sS σ 3 0))) ∧ (¬ x1 ≤ 1 → (K 1 (sS (sS σ 0 0) 3 0)))

def w_X10_clear (σ : St) (a1 : Int32) (K : Int32 → St → Prop) : Prop :=
  w_X10_in σ a1 0 2 (fun (r_3 : Int32) (u_2 : St) => (¬ r_3 = 0 → ((a1 ≤ 0 → (b_X10_clear_25 K (sS u_2 2 0) a1)) ∧ (¬ a1 ≤ 0 → (b_X10_clear_25 K (sS (sS u_2 2 0) 1 0) a1)))) ∧ (r_3 = 0 → (K 0 u_2)))

def w_X10_stops (σ : St) (a1 : Int32) (a2 : Int32) (K : Int32 → St → Prop) : Prop :=
  K 0 (sS (sS (sS σ 5 a1) 11 a2) 4 1)

def b_X10_colour_3 (L3 : St → Int32 → Int32 → Int32 → Int32 → Int32 → Prop) (K : Int32 → St → Prop) (σ : St) (x1 : Int32) (x2 : Int32) (x3 : Int32) (x4 : Int32) (x5 : Int32) : Prop :=
  ((gS σ 12) ≤ x5 → ((¬ (gS σ 12) = 600 → (vp_in (gS σ 12) 600 ∧ (vp_in (gS σ 12) 600 ∧ (vp_in (gS σ 12) 600 ∧ (vp_in (gS σ 12) 600 ∧ (K (((gS σ 12) + 1) - 1) (sS (sA (sA (sA (sA σ 10 ((gS σ 12)).toNatClampNeg x1) 11 ((gS σ 12)).toNatClampNeg x2) 12 ((gS σ 12)).toNatClampNeg x3) 13 ((gS σ 12)).toNatClampNeg x4) 12 ((gS σ 12) + 1)))))))) ∧ ((gS σ 12) = 600 → (w_X10_stops σ 2 (-1) (fun (r_6 : Int32) (u_5 : St) => K (-1) u_5))))) ∧ (¬ (gS σ 12) ≤ x5 → (vp_in x5 600 ∧ ((¬ (gA σ 10 (x5).toNatClampNeg) = x1 → (L3 σ x1 x2 x3 x4 (x5 + 1))) ∧ ((gA σ 10 (x5).toNatClampNeg) = x1 → (vp_in x5 600 ∧ ((¬ (gA σ 11 (x5).toNatClampNeg) = x2 → (L3 σ x1 x2 x3 x4 (x5 + 1))) ∧ ((gA σ 11 (x5).toNatClampNeg) = x2 → (vp_in x5 600 ∧ ((¬ (gA σ 12 (x5).toNatClampNeg) = x3 → (L3 σ x1 x2 x3 x4 (x5 + 1))) ∧ ((gA σ 12 (x5).toNatClampNeg) = x3 → (vp_in x5 600 ∧ ((¬ (gA σ 13 (x5).toNatClampNeg) = x4 → (L3 σ x1 x2 x3 x4 (x5 + 1))) ∧ ((gA σ 13 (x5).toNatClampNeg) = x4 → (K x5 σ))))))))))))))

def w_X10_colour_3 (K : Int32 → St → Prop) : Nat → St → Int32 → Int32 → Int32 → Int32 → Int32 → Prop
  | 0 => fun _ _ _ _ _ _ => False
  | n + 1 => fun σ x1 x2 x3 x4 x5 => b_X10_colour_3 (w_X10_colour_3 K n) K σ x1 x2 x3 x4 x5

def w_X10_colour (σ : St) (a1 : Int32) (a2 : Int32) (a3 : Int32) (a4 : Int32) (K : Int32 → St → Prop) : Prop :=
  ∃ n : Nat, w_X10_colour_3 K n σ a1 a2 a3 a4 0

def b_X10_pair_7 (L7 : St → Int32 → Int32 → Int32 → Prop) (K : Int32 → St → Prop) (σ : St) (x1 : Int32) (x2 : Int32) (x3 : Int32) : Prop :=
  (x3 < 0 → ((¬ (gS σ 13) = 3000 → (vp_in (gS σ 13) 3000 ∧ (vp_in (gS σ 13) 3000 ∧ (vp_in (gS σ 13) 3000 ∧ (vp_in (gS σ 13) 3000 ∧ (vp_in x1 80 ∧ (vp_in (gS σ 13) 3000 ∧ (vp_in x1 80 ∧ (K (gS σ 13) (sS (sA (sA (sA (sA (sA (sA σ 14 ((gS σ 13)).toNatClampNeg x1) 15 ((gS σ 13)).toNatClampNeg x2) 16 ((gS σ 13)).toNatClampNeg 0) 17 ((gS σ 13)).toNatClampNeg 0) 18 ((gS σ 13)).toNatClampNeg (gA σ 22 (x1).toNatClampNeg)) 22 (x1).toNatClampNeg (gS σ 13)) 13 ((gS σ 13) + 1))))))))))) ∧ ((gS σ 13) = 3000 → (w_X10_stops σ 2 (-1) (fun (r_9 : Int32) (u_8 : St) => K (-1) u_8))))) ∧ (¬ x3 < 0 → (vp_in x3 3000 ∧ ((¬ (gA σ 15 (x3).toNatClampNeg) = x2 → (vp_in x3 3000 ∧ (L7 σ x1 x2 (gA σ 18 (x3).toNatClampNeg)))) ∧ ((gA σ 15 (x3).toNatClampNeg) = x2 → (K x3 σ)))))

def w_X10_pair_7 (K : Int32 → St → Prop) : Nat → St → Int32 → Int32 → Int32 → Prop
  | 0 => fun _ _ _ _ => False
  | n + 1 => fun σ x1 x2 x3 => b_X10_pair_7 (w_X10_pair_7 K n) K σ x1 x2 x3

def w_X10_pair (σ : St) (a1 : Int32) (a2 : Int32) (K : Int32 → St → Prop) : Prop :=
  vp_in a1 80 ∧ (∃ n : Nat, w_X10_pair_7 K n σ a1 a2 (gA σ 22 (a1).toNatClampNeg))

def w_X10_comes (σ : St) (a1 : Int32) (a2 : Int32) (a3 : Int32) (a4 : Int32) (a5 : Int32) (a6 : Int32) (K : Int32 → St → Prop) : Prop :=
  w_X10_pair σ a1 a3 (fun (r_2 : Int32) (u_1 : St) => (0 ≤ r_2 → (vp_in r_2 3000 ∧ ((¬ (((gA u_1 16 (r_2).toNatClampNeg) >>> (a2 &&& 31)) &&& 1) = 1 → (vp_in r_2 3000 ∧ (vp_in r_2 3000 ∧ (vp_in ((3 * r_2) + a2) 9000 ∧ (vp_in ((3 * r_2) + a2) 9000 ∧ (vp_in ((3 * r_2) + a2) 9000 ∧ (vp_in r_2 3000 ∧ (vp_in a1 80 ∧ (((gA (sA u_1 16 (r_2).toNatClampNeg ((gA u_1 16 (r_2).toNatClampNeg) ||| (1 <<< (a2 &&& 31)))) 16 (r_2).toNatClampNeg) = ((1 <<< ((gA u_1 2 (a1).toNatClampNeg) &&& 31)) - 1) → (vp_in r_2 3000 ∧ (vp_in (gS u_1 14) 3000 ∧ (K 1 (sS (sA (sA (sA (sA (sA (sA u_1 16 (r_2).toNatClampNeg ((gA u_1 16 (r_2).toNatClampNeg) ||| (1 <<< (a2 &&& 31)))) 19 (((3 * r_2) + a2)).toNatClampNeg a4) 20 (((3 * r_2) + a2)).toNatClampNeg a5) 21 (((3 * r_2) + a2)).toNatClampNeg a6) 17 (r_2).toNatClampNeg 1) 24 ((gS u_1 14)).toNatClampNeg r_2) 14 ((gS u_1 14) + 1)))))) ∧ (¬ (gA (sA u_1 16 (r_2).toNatClampNeg ((gA u_1 16 (r_2).toNatClampNeg) ||| (1 <<< (a2 &&& 31)))) 16 (r_2).toNatClampNeg) = ((1 <<< ((gA u_1 2 (a1).toNatClampNeg) &&& 31)) - 1) → (K 1 (sA (sA (sA (sA u_1 16 (r_2).toNatClampNeg ((gA u_1 16 (r_2).toNatClampNeg) ||| (1 <<< (a2 &&& 31)))) 19 (((3 * r_2) + a2)).toNatClampNeg a4) 20 (((3 * r_2) + a2)).toNatClampNeg a5) 21 (((3 * r_2) + a2)).toNatClampNeg a6)))))))))))) ∧ ((((gA u_1 16 (r_2).toNatClampNeg) >>> (a2 &&& 31)) &&& 1) = 1 → (w_X10_stops u_1 1 a1 (fun (r_14 : Int32) (u_13 : St) => K r_14 u_13)))))) ∧ (¬ 0 ≤ r_2 → (K 0 u_1)))

def b_X10_gives_3 (L3 : St → Int32 → Int32 → Int32 → Int32 → Int32 → Int32 → Int32 → Prop) (K : Int32 → St → Prop) (σ : St) (x1 : Int32) (x2 : Int32) (x3 : Int32) (x4 : Int32) (x5 : Int32) (x6 : Int32) (x7 : Int32) : Prop :=
  ((gS σ 1) ≤ x7 → (K 1 σ)) ∧ (¬ (gS σ 1) ≤ x7 → (vp_in x7 300 ∧ ((¬ (gA σ 3 (x7).toNatClampNeg) = x1 → (L3 σ x1 x2 x3 x4 x5 x6 (x7 + 1))) ∧ ((gA σ 3 (x7).toNatClampNeg) = x1 → (vp_in x7 300 ∧ ((¬ (gA σ 4 (x7).toNatClampNeg) = x2 → (L3 σ x1 x2 x3 x4 x5 x6 (x7 + 1))) ∧ ((gA σ 4 (x7).toNatClampNeg) = x2 → (vp_in x7 300 ∧ (vp_in x7 300 ∧ (w_X10_comes σ (gA σ 5 (x7).toNatClampNeg) (gA σ 6 (x7).toNatClampNeg) x3 x4 x5 x6 (fun (r_2 : Int32) (u_1 : St) => (¬ r_2 = 0 → (L3 u_1 x1 x2 x3 x4 x5 x6 (x7 + 1))) ∧ (r_2 = 0 → (K 0 u_1)))))))))))))

def w_X10_gives_3 (K : Int32 → St → Prop) : Nat → St → Int32 → Int32 → Int32 → Int32 → Int32 → Int32 → Int32 → Prop
  | 0 => fun _ _ _ _ _ _ _ _ => False
  | n + 1 => fun σ x1 x2 x3 x4 x5 x6 x7 => b_X10_gives_3 (w_X10_gives_3 K n) K σ x1 x2 x3 x4 x5 x6 x7

def w_X10_gives (σ : St) (a1 : Int32) (a2 : Int32) (a3 : Int32) (a4 : Int32) (a5 : Int32) (a6 : Int32) (K : Int32 → St → Prop) : Prop :=
  ∃ n : Nat, w_X10_gives_3 K n σ a1 a2 a3 a4 a5 a6 0

def w_X10_faults (σ : St) (a1 : Int32) (a2 : Int32) (a3 : Int32) (K : Int32 → St → Prop) : Prop :=
  w_X10_gives σ a1 0 a2 3 a3 a1 (fun (r_2 : Int32) (u_1 : St) => K r_2 u_1)

def w_X10_kindAt (σ : St) (a1 : Int32) (a2 : Int32) (K : Int32 → St → Prop) : Prop :=
  vp_in ((3 * a1) + a2) 9000 ∧ (K (gA σ 19 (((3 * a1) + a2)).toNatClampNeg) σ)

def w_X10_valueAt (σ : St) (a1 : Int32) (a2 : Int32) (K : Int32 → St → Prop) : Prop :=
  vp_in ((3 * a1) + a2) 9000 ∧ (K (gA σ 20 (((3 * a1) + a2)).toNatClampNeg) σ)

def w_X10_passes (σ : St) (a1 : Int32) (a2 : Int32) (a3 : Int32) (K : Int32 → St → Prop) : Prop :=
  vp_in a1 3000 ∧ (vp_in (3 * a1) 9000 ∧ (vp_in (3 * a1) 9000 ∧ (vp_in (3 * a1) 9000 ∧ (w_X10_gives σ (gA σ 14 (a1).toNatClampNeg) a2 a3 (gA σ 19 ((3 * a1)).toNatClampNeg) (gA σ 20 ((3 * a1)).toNatClampNeg) (gA σ 21 ((3 * a1)).toNatClampNeg) (fun (r_2 : Int32) (u_1 : St) => K r_2 u_1)))))

def b_X10_faultOf_2 (L2 : St → Int32 → Int32 → Int32 → Prop) (K : Int32 → St → Prop) (σ : St) (x1 : Int32) (x2 : Int32) (x3 : Int32) : Prop :=
  (x2 ≤ x3 → (K (-1) σ)) ∧ (¬ x2 ≤ x3 → (w_X10_kindAt σ x1 x3 (fun (r_2 : Int32) (u_1 : St) => (¬ r_2 = 3 → (L2 u_1 x1 x2 (x3 + 1))) ∧ (r_2 = 3 → (K x3 u_1)))))

def w_X10_faultOf_2 (K : Int32 → St → Prop) : Nat → St → Int32 → Int32 → Int32 → Prop
  | 0 => fun _ _ _ _ => False
  | n + 1 => fun σ x1 x2 x3 => b_X10_faultOf_2 (w_X10_faultOf_2 K n) K σ x1 x2 x3

def w_X10_faultOf (σ : St) (a1 : Int32) (a2 : Int32) (K : Int32 → St → Prop) : Prop :=
  ∃ n : Nat, w_X10_faultOf_2 K n σ a1 a2 0

def w_X10_number (σ : St) (a1 : Int32) (a2 : Int32) (K : Int32 → St → Prop) : Prop :=
  vp_in a1 3000 ∧ (vp_in a1 3000 ∧ (w_X10_gives σ (gA σ 14 (a1).toNatClampNeg) 0 (gA σ 15 (a1).toNatClampNeg) 1 a2 (-1) (fun (r_2 : Int32) (u_1 : St) => K r_2 u_1)))

def w_X10_switches (σ : St) (a1 : Int32) (K : Int32 → St → Prop) : Prop :=
  w_X10_kindAt σ a1 1 (fun (r_2 : Int32) (u_1 : St) => (r_2 = 1 → (w_X10_valueAt u_1 a1 1 (fun (r_4 : Int32) (u_3 : St) => (r_4 = 0 → (vp_in a1 3000 ∧ (w_X10_passes u_3 a1 1 (gA u_3 15 (a1).toNatClampNeg) (fun (r_6 : Int32) (u_5 : St) => K r_6 u_5)))) ∧ (¬ r_4 = 0 → (vp_in a1 3000 ∧ (w_X10_passes u_3 a1 0 (gA u_3 15 (a1).toNatClampNeg) (fun (r_9 : Int32) (u_8 : St) => K r_9 u_8))))))) ∧ (¬ r_2 = 1 → (K 1 (sS u_1 9 ((gS u_1 9) + 1)))))

def w_X10_loops (σ : St) (a1 : Int32) (K : Int32 → St → Prop) : Prop :=
  vp_in a1 3000 ∧ (vp_in a1 3000 ∧ (vp_in (gA σ 14 (a1).toNatClampNeg) 80 ∧ (vp_in (gA σ 14 (a1).toNatClampNeg) 80 ∧ ((¬ (gA σ 0 ((gA σ 14 (a1).toNatClampNeg)).toNatClampNeg) = 11 → (vp_in (gA σ 15 (a1).toNatClampNeg) 600 ∧ ((¬ (gA σ 10 ((gA σ 15 (a1).toNatClampNeg)).toNatClampNeg) = 1 → (w_X10_faults σ (gA σ 14 (a1).toNatClampNeg) (gA σ 15 (a1).toNatClampNeg) 5 (fun (r_2 : Int32) (u_1 : St) => K r_2 u_1))) ∧ ((gA σ 10 ((gA σ 15 (a1).toNatClampNeg)).toNatClampNeg) = 1 → (vp_in (gA σ 15 (a1).toNatClampNeg) 600 ∧ (((gA σ 11 ((gA σ 15 (a1).toNatClampNeg)).toNatClampNeg) = (gA σ 1 ((gA σ 14 (a1).toNatClampNeg)).toNatClampNeg) → (vp_in (gA σ 14 (a1).toNatClampNeg) 80 ∧ ((¬ (gA σ 0 ((gA σ 14 (a1).toNatClampNeg)).toNatClampNeg) = 13 → (vp_in (gA σ 15 (a1).toNatClampNeg) 600 ∧ (vp_in (gA σ 15 (a1).toNatClampNeg) 600 ∧ (w_X10_colour σ 1 (gA σ 1 ((gA σ 14 (a1).toNatClampNeg)).toNatClampNeg) ((gA σ 12 ((gA σ 15 (a1).toNatClampNeg)).toNatClampNeg) + 1) (gA σ 13 ((gA σ 15 (a1).toNatClampNeg)).toNatClampNeg) (fun (r_4 : Int32) (u_3 : St) => (r_4 < 0 → (K 0 u_3)) ∧ (¬ r_4 < 0 → (w_X10_passes u_3 a1 0 r_4 (fun (r_6 : Int32) (u_5 : St) => (r_6 = 0 → (K 0 u_5)) ∧ (¬ r_6 = 0 → (K 1 u_5)))))))))) ∧ ((gA σ 0 ((gA σ 14 (a1).toNatClampNeg)).toNatClampNeg) = 13 → (vp_in (gA σ 15 (a1).toNatClampNeg) 600 ∧ (w_X10_passes σ a1 0 (gA σ 13 ((gA σ 15 (a1).toNatClampNeg)).toNatClampNeg) (fun (r_12 : Int32) (u_11 : St) => K r_12 u_11))))))) ∧ (¬ (gA σ 11 ((gA σ 15 (a1).toNatClampNeg)).toNatClampNeg) = (gA σ 1 ((gA σ 14 (a1).toNatClampNeg)).toNatClampNeg) → (w_X10_faults σ (gA σ 14 (a1).toNatClampNeg) (gA σ 15 (a1).toNatClampNeg) 5 (fun (r_17 : Int32) (u_16 : St) => K r_17 u_16))))))))) ∧ ((gA σ 0 ((gA σ 14 (a1).toNatClampNeg)).toNatClampNeg) = 11 → (w_X10_colour σ 1 (gA σ 1 ((gA σ 14 (a1).toNatClampNeg)).toNatClampNeg) 0 (gA σ 15 (a1).toNatClampNeg) (fun (r_23 : Int32) (u_22 : St) => (r_23 < 0 → (K 0 u_22)) ∧ (¬ r_23 < 0 → (w_X10_passes u_22 a1 0 r_23 (fun (r_25 : Int32) (u_24 : St) => (r_25 = 0 → (K 0 u_24)) ∧ (¬ r_25 = 0 → (K 1 u_24))))))))))))

def b_X10_calls_93 (L30 : St → Int32 → Int32 → Int32 → Int32 → Prop) (K : Int32 → St → Prop) (σ : St) (x1 : Int32) (x2 : Int32) (x3 : Int32) (x4 : Int32) (x5 : Int32) : Prop :=
  ((gS σ 0) ≤ x5 → (L30 σ x1 x2 x3 (x4 + 1))) ∧ (¬ (gS σ 0) ≤ x5 → (vp_in ((3 * x1) + x4) 9000 ∧ (vp_in ((3 * x1) + x4) 9000 ∧ (vp_in ((3 * x1) + x4) 9000 ∧ (w_X10_comes σ x5 0 x3 (gA σ 19 (((3 * x1) + x4)).toNatClampNeg) (gA σ 20 (((3 * x1) + x4)).toNatClampNeg) (gA σ 21 (((3 * x1) + x4)).toNatClampNeg) (fun (r_2 : Int32) (u_1 : St) => (¬ r_2 = 0 → (L30 u_1 x1 x2 x3 (x4 + 1))) ∧ (r_2 = 0 → (K 0 u_1))))))))

def b_X10_calls_44 (L30 : St → Int32 → Int32 → Int32 → Int32 → Prop) (L44 : St → Int32 → Int32 → Int32 → Int32 → Int32 → Prop) (K : Int32 → St → Prop) (σ : St) (x1 : Int32) (x2 : Int32) (x3 : Int32) (x4 : Int32) (x5 : Int32) : Prop :=
  ((gS σ 0) ≤ x5 → (b_X10_calls_93 L30 K σ x1 x2 x3 x4 x5)) ∧ (¬ (gS σ 0) ≤ x5 → (vp_in x5 80 ∧ ((¬ (gA σ 0 (x5).toNatClampNeg) = 15 → (L44 σ x1 x2 x3 x4 (x5 + 1))) ∧ ((gA σ 0 (x5).toNatClampNeg) = 15 → (vp_in x5 80 ∧ (vp_in x2 80 ∧ (((gA σ 1 (x5).toNatClampNeg) = ((10 * (gA σ 1 (x2).toNatClampNeg)) + x4) → (b_X10_calls_93 L30 K σ x1 x2 x3 x4 x5)) ∧ (¬ (gA σ 1 (x5).toNatClampNeg) = ((10 * (gA σ 1 (x2).toNatClampNeg)) + x4) → (L44 σ x1 x2 x3 x4 (x5 + 1))))))))))

def w_X10_calls_44 (L30 : St → Int32 → Int32 → Int32 → Int32 → Prop) (K : Int32 → St → Prop) : Nat → St → Int32 → Int32 → Int32 → Int32 → Int32 → Prop
  | 0 => fun _ _ _ _ _ _ => False
  | n + 1 => fun σ x1 x2 x3 x4 x5 => b_X10_calls_44 L30 (w_X10_calls_44 L30 K n) K σ x1 x2 x3 x4 x5

def b_X10_calls_30 (L30 : St → Int32 → Int32 → Int32 → Int32 → Prop) (K : Int32 → St → Prop) (σ : St) (x1 : Int32) (x2 : Int32) (x3 : Int32) (x4 : Int32) : Prop :=
  vp_in x2 80 ∧ (((gA σ 2 (x2).toNatClampNeg) ≤ x4 → (K 1 σ)) ∧ (¬ (gA σ 2 (x2).toNatClampNeg) ≤ x4 → (∃ n : Nat, w_X10_calls_44 L30 K n σ x1 x2 x3 x4 0)))

def w_X10_calls_30 (K : Int32 → St → Prop) : Nat → St → Int32 → Int32 → Int32 → Int32 → Prop
  | 0 => fun _ _ _ _ _ => False
  | n + 1 => fun σ x1 x2 x3 x4 => b_X10_calls_30 (w_X10_calls_30 K n) K σ x1 x2 x3 x4

def w_X10_calls (σ : St) (a1 : Int32) (K : Int32 → St → Prop) : Prop :=
  vp_in a1 3000 ∧ (vp_in a1 3000 ∧ (w_X10_colour σ 2 (gA σ 14 (a1).toNatClampNeg) 0 (gA σ 15 (a1).toNatClampNeg) (fun (r_18 : Int32) (u_17 : St) => (0 ≤ r_18 → (∃ n : Nat, w_X10_calls_30 K n u_17 a1 (gA σ 14 (a1).toNatClampNeg) r_18 0)) ∧ (¬ 0 ≤ r_18 → (K 0 u_17)))))

def w_X10_returns (σ : St) (a1 : Int32) (K : Int32 → St → Prop) : Prop :=
  vp_in a1 3000 ∧ (vp_in (gA σ 15 (a1).toNatClampNeg) 600 ∧ (((gA σ 10 ((gA σ 15 (a1).toNatClampNeg)).toNatClampNeg) = 2 → (vp_in (gA σ 15 (a1).toNatClampNeg) 600 ∧ (vp_in (gA σ 15 (a1).toNatClampNeg) 600 ∧ (vp_in (3 * a1) 9000 ∧ (vp_in (3 * a1) 9000 ∧ (vp_in (3 * a1) 9000 ∧ (w_X10_gives σ (gA σ 11 ((gA σ 15 (a1).toNatClampNeg)).toNatClampNeg) 0 (gA σ 13 ((gA σ 15 (a1).toNatClampNeg)).toNatClampNeg) (gA σ 19 ((3 * a1)).toNatClampNeg) (gA σ 20 ((3 * a1)).toNatClampNeg) (gA σ 21 ((3 * a1)).toNatClampNeg) (fun (r_2 : Int32) (u_1 : St) => K r_2 u_1)))))))) ∧ (¬ (gA σ 10 ((gA σ 15 (a1).toNatClampNeg)).toNatClampNeg) = 2 → (K 1 (sS σ 9 ((gS σ 9) + 1))))))

def w_X10_ends (σ : St) (a1 : Int32) (K : Int32 → St → Prop) : Prop :=
  vp_in a1 3000 ∧ (vp_in (gA σ 14 (a1).toNatClampNeg) 80 ∧ (vp_in a1 3000 ∧ (((gA σ 15 (a1).toNatClampNeg) = 0 → (vp_in (gA σ 1 ((gA σ 14 (a1).toNatClampNeg)).toNatClampNeg) 10 ∧ (((gA σ 34 ((gA σ 1 ((gA σ 14 (a1).toNatClampNeg)).toNatClampNeg)).toNatClampNeg) ≤ 0 → (vp_in (3 * a1) 9000 ∧ (vp_in (gA σ 1 ((gA σ 14 (a1).toNatClampNeg)).toNatClampNeg) 10 ∧ (vp_in (3 * a1) 9000 ∧ (vp_in (gA σ 1 ((gA σ 14 (a1).toNatClampNeg)).toNatClampNeg) 10 ∧ (vp_in (3 * a1) 9000 ∧ (vp_in (gA σ 1 ((gA σ 14 (a1).toNatClampNeg)).toNatClampNeg) 10 ∧ (K 1 (sA (sA (sA σ 34 ((gA σ 1 ((gA σ 14 (a1).toNatClampNeg)).toNatClampNeg)).toNatClampNeg (gA σ 19 ((3 * a1)).toNatClampNeg)) 35 ((gA σ 1 ((gA σ 14 (a1).toNatClampNeg)).toNatClampNeg)).toNatClampNeg (gA σ 20 ((3 * a1)).toNatClampNeg)) 36 ((gA σ 1 ((gA σ 14 (a1).toNatClampNeg)).toNatClampNeg)).toNatClampNeg (gA σ 21 ((3 * a1)).toNatClampNeg)))))))))) ∧ (¬ (gA σ 34 ((gA σ 1 ((gA σ 14 (a1).toNatClampNeg)).toNatClampNeg)).toNatClampNeg) ≤ 0 → (vp_in a1 3000 ∧ (w_X10_stops σ 1 (gA σ 14 (a1).toNatClampNeg) (fun (r_8 : Int32) (u_7 : St) => K r_8 u_7))))))) ∧ (¬ (gA σ 15 (a1).toNatClampNeg) = 0 → (K 1 (sS σ 10 ((gS σ 10) + 1)))))))

def b_X10_makes_113 (L113 : St → Int32 → Int32 → Int32 → Prop) (K : Int32 → St → Prop) (σ : St) (x1 : Int32) (x2 : Int32) (x3 : Int32) : Prop :=
  (x2 ≤ x3 → (vp_in x1 3000 ∧ (vp_in x1 3000 ∧ (w_X10_gives (sS (sS σ 16 ((gS σ 16) + x2)) 15 ((gS σ 15) + 1)) (gA σ 14 (x1).toNatClampNeg) 0 (gA σ 15 (x1).toNatClampNeg) 2 (((gS σ 15) + 1) - 1) (-1) (fun (r_2 : Int32) (u_1 : St) => K r_2 u_1))))) ∧ (¬ x2 ≤ x3 → (vp_in ((gS σ 16) + x3) 2000 ∧ (L113 (sA σ 29 (((gS σ 16) + x3)).toNatClampNeg 0) x1 x2 (x3 + 1))))

def w_X10_makes_113 (K : Int32 → St → Prop) : Nat → St → Int32 → Int32 → Int32 → Prop
  | 0 => fun _ _ _ _ => False
  | n + 1 => fun σ x1 x2 x3 => b_X10_makes_113 (w_X10_makes_113 K n) K σ x1 x2 x3

def w_X10_makes (σ : St) (a1 : Int32) (a2 : Int32) (K : Int32 → St → Prop) : Prop :=
  w_X10_in σ a2 0 200 (fun (r_8 : Int32) (u_7 : St) => (¬ r_8 = 0 → (((gS u_7 15) = 300 → (w_X10_stops u_7 2 (-1) (fun (r_10 : Int32) (u_9 : St) => K r_10 u_9))) ∧ (¬ (gS u_7 15) = 300 → ((((gS u_7 16) + a2) ≤ 2000 → (vp_in (gS u_7 15) 300 ∧ (vp_in (gS u_7 15) 300 ∧ (vp_in a1 3000 ∧ (vp_in (gS u_7 15) 300 ∧ (vp_in a1 3000 ∧ (vp_in (gS u_7 15) 300 ∧ (∃ n : Nat, w_X10_makes_113 K n (sA (sA (sA (sA u_7 25 ((gS u_7 15)).toNatClampNeg (gS u_7 16)) 26 ((gS u_7 15)).toNatClampNeg a2) 27 ((gS u_7 15)).toNatClampNeg (gA u_7 14 (a1).toNatClampNeg)) 28 ((gS u_7 15)).toNatClampNeg (gA u_7 15 (a1).toNatClampNeg)) a1 a2 0)))))))) ∧ (¬ ((gS u_7 16) + a2) ≤ 2000 → (w_X10_stops u_7 2 (-1) (fun (r_19 : Int32) (u_18 : St) => K r_19 u_18))))))) ∧ (r_8 = 0 → (vp_in a1 3000 ∧ (vp_in a1 3000 ∧ (w_X10_faults u_7 (gA u_7 14 (a1).toNatClampNeg) (gA u_7 15 (a1).toNatClampNeg) 3 (fun (r_23 : Int32) (u_22 : St) => K r_23 u_22))))))

def b_X10_reckons_82 (L82 : St → Int32 → Int32 → Int32 → Int32 → Int32 → Int32 → Int32 → Prop) (K : Int32 → St → Prop) (σ : St) (x1 : Int32) (x2 : Int32) (x3 : Int32) (x4 : Int32) (x5 : Int32) (x6 : Int32) (x7 : Int32) : Prop :=
  vp_in x3 80 ∧ (((gA σ 2 (x3).toNatClampNeg) ≤ x7 → (((x2 = 2) → (w_X10_number σ x1 (x5 + x6) (fun (r_3 : Int32) (u_2 : St) => K r_3 u_2))) ∧ (¬ (x2 = 2) → (((x2 = 3) → (w_X10_number σ x1 (x5 - x6) (fun (r_6 : Int32) (u_5 : St) => K r_6 u_5))) ∧ (¬ (x2 = 3) → (((x2 = 4) → (w_X10_number σ x1 (x5 * x6) (fun (r_9 : Int32) (u_8 : St) => K r_9 u_8))) ∧ (¬ (x2 = 4) → (((x2 = 5) → ((¬ x6 = 0 → (¬ x6 = 0 ∧ (w_X10_number σ x1 (x5 / x6) (fun (r_12 : Int32) (u_11 : St) => K r_12 u_11)))) ∧ (x6 = 0 → (w_X10_faults σ x3 x4 1 (fun (r_15 : Int32) (u_14 : St) => K r_15 u_14))))) ∧ (¬ (x2 = 5) → (((x2 = 6) → ((¬ x6 = 0 → (¬ x6 = 0 ∧ (w_X10_number σ x1 (x5 - x5 / x6 * x6) (fun (r_19 : Int32) (u_18 : St) => K r_19 u_18)))) ∧ (x6 = 0 → (w_X10_faults σ x3 x4 1 (fun (r_22 : Int32) (u_21 : St) => K r_22 u_21))))) ∧ (¬ (x2 = 6) → (((x2 = 7) → ((x6 ≤ x5 → (w_X10_number σ x1 0 (fun (r_26 : Int32) (u_25 : St) => K r_26 u_25))) ∧ (¬ x6 ≤ x5 → (w_X10_number σ x1 1 (fun (r_28 : Int32) (u_27 : St) => K r_28 u_27))))) ∧ (¬ (x2 = 7) → (((x2 = 9) → ((¬ x5 = 0 → (w_X10_number σ x1 0 (fun (r_32 : Int32) (u_31 : St) => K r_32 u_31))) ∧ (x5 = 0 → (w_X10_number σ x1 1 (fun (r_34 : Int32) (u_33 : St) => K r_34 u_33))))) ∧ (¬ (x2 = 9) → (w_X10_makes σ x1 x5 (fun (r_37 : Int32) (u_36 : St) => K r_37 u_36))))))))))))))))) ∧ (¬ (gA σ 2 (x3).toNatClampNeg) ≤ x7 → (w_X10_kindAt σ x1 x7 (fun (r_54 : Int32) (u_53 : St) => (r_54 = 1 → (L82 u_53 x1 x2 x3 x4 x5 x6 (x7 + 1))) ∧ (¬ r_54 = 1 → (w_X10_faults u_53 x3 x4 4 (fun (r_56 : Int32) (u_55 : St) => K r_56 u_55)))))))

def w_X10_reckons_82 (K : Int32 → St → Prop) : Nat → St → Int32 → Int32 → Int32 → Int32 → Int32 → Int32 → Int32 → Prop
  | 0 => fun _ _ _ _ _ _ _ _ => False
  | n + 1 => fun σ x1 x2 x3 x4 x5 x6 x7 => b_X10_reckons_82 (w_X10_reckons_82 K n) K σ x1 x2 x3 x4 x5 x6 x7

def w_X10_reckons (σ : St) (a1 : Int32) (a2 : Int32) (K : Int32 → St → Prop) : Prop :=
  vp_in a1 3000 ∧ (vp_in a1 3000 ∧ (w_X10_valueAt σ a1 0 (fun (r_61 : Int32) (u_60 : St) => w_X10_valueAt u_60 a1 1 (fun (r_63 : Int32) (u_62 : St) => (¬ a2 = 8 → (∃ n : Nat, w_X10_reckons_82 K n u_62 a1 a2 (gA σ 14 (a1).toNatClampNeg) (gA σ 15 (a1).toNatClampNeg) r_61 r_63 0)) ∧ (a2 = 8 → (w_X10_kindAt u_62 a1 0 (fun (r_66 : Int32) (u_65 : St) => w_X10_kindAt u_65 a1 1 (fun (r_68 : Int32) (u_67 : St) => (r_66 = r_68 → ((¬ r_61 = r_63 → (w_X10_number u_67 a1 0 (fun (r_70 : Int32) (u_69 : St) => K r_70 u_69))) ∧ (r_61 = r_63 → (w_X10_number u_67 a1 1 (fun (r_72 : Int32) (u_71 : St) => K r_72 u_71))))) ∧ (¬ r_66 = r_68 → (w_X10_faults u_67 (gA σ 14 (a1).toNatClampNeg) (gA σ 15 (a1).toNatClampNeg) 4 (fun (r_75 : Int32) (u_74 : St) => K r_75 u_74)))))))))))

def b_X10_cells_266 (L266 : St → Int32 → Int32 → Int32 → Int32 → Prop) (K : Int32 → St → Prop) (σ : St) (x3 : Int32) (x4 : Int32) (x7 : Int32) (x8 : Int32) : Prop :=
  ((gS σ 17) ≤ x8 → (vp_in x7 2000 ∧ (vp_in x7 2000 ∧ (vp_in x7 2000 ∧ (w_X10_gives σ x3 0 x4 (gA σ 29 (x7).toNatClampNeg) (gA σ 30 (x7).toNatClampNeg) (gA σ 31 (x7).toNatClampNeg) (fun (r_2 : Int32) (u_1 : St) => K r_2 u_1)))))) ∧ (¬ (gS σ 17) ≤ x8 → (vp_in x8 3000 ∧ (((gA σ 32 (x8).toNatClampNeg) = x7 → (vp_in x8 3000 ∧ (vp_in x8 3000 ∧ (vp_in (gA σ 33 (x8).toNatClampNeg) 3000 ∧ (vp_in (gA σ 33 (x8).toNatClampNeg) 3000 ∧ (vp_in x7 2000 ∧ (vp_in x7 2000 ∧ (vp_in x7 2000 ∧ (w_X10_gives (sA σ 32 (x8).toNatClampNeg (-1)) (gA σ 14 ((gA σ 33 (x8).toNatClampNeg)).toNatClampNeg) 0 (gA σ 15 ((gA σ 33 (x8).toNatClampNeg)).toNatClampNeg) (gA σ 29 (x7).toNatClampNeg) (gA σ 30 (x7).toNatClampNeg) (gA σ 31 (x7).toNatClampNeg) (fun (r_7 : Int32) (u_6 : St) => (¬ r_7 = 0 → (L266 u_6 x3 x4 x7 (x8 + 1))) ∧ (r_7 = 0 → (K 0 u_6)))))))))))) ∧ (¬ (gA σ 32 (x8).toNatClampNeg) = x7 → (L266 σ x3 x4 x7 (x8 + 1))))))

def w_X10_cells_266 (K : Int32 → St → Prop) : Nat → St → Int32 → Int32 → Int32 → Int32 → Prop
  | 0 => fun _ _ _ _ _ => False
  | n + 1 => fun σ x3 x4 x7 x8 => b_X10_cells_266 (w_X10_cells_266 K n) K σ x3 x4 x7 x8

def b_X10_cells_50 (K : Int32 → St → Prop) (σ : St) (x1 : Int32) (x2 : Int32) (x3 : Int32) (x4 : Int32) : Prop :=
  w_X10_valueAt σ x1 0 (fun (r_20 : Int32) (u_19 : St) => (¬ x2 = 20 → (w_X10_valueAt u_19 x1 1 (fun (r_22 : Int32) (u_21 : St) => vp_in r_20 300 ∧ (w_X10_in u_21 r_22 0 ((gA u_21 26 (r_20).toNatClampNeg) - 1) (fun (r_24 : Int32) (u_23 : St) => (¬ r_24 = 0 → (vp_in r_20 300 ∧ ((¬ x2 = 18 → (vp_in ((gA u_23 25 (r_20).toNatClampNeg) + r_22) 2000 ∧ (((gA u_23 29 (((gA u_23 25 (r_20).toNatClampNeg) + r_22)).toNatClampNeg) ≤ 0 → (w_X10_kindAt u_23 x1 2 (fun (r_26 : Int32) (u_25 : St) => vp_in ((gA u_23 25 (r_20).toNatClampNeg) + r_22) 2000 ∧ (w_X10_valueAt (sA u_25 29 (((gA u_23 25 (r_20).toNatClampNeg) + r_22)).toNatClampNeg r_26) x1 2 (fun (r_28 : Int32) (u_27 : St) => vp_in ((gA u_23 25 (r_20).toNatClampNeg) + r_22) 2000 ∧ (vp_in ((3 * x1) + 2) 9000 ∧ (vp_in ((gA u_23 25 (r_20).toNatClampNeg) + r_22) 2000 ∧ (∃ n : Nat, w_X10_cells_266 K n (sA (sA u_27 30 (((gA u_23 25 (r_20).toNatClampNeg) + r_22)).toNatClampNeg r_28) 31 (((gA u_23 25 (r_20).toNatClampNeg) + r_22)).toNatClampNeg (gA u_27 21 (((3 * x1) + 2)).toNatClampNeg)) x3 x4 ((gA u_23 25 (r_20).toNatClampNeg) + r_22) 0)))))))) ∧ (¬ (gA u_23 29 (((gA u_23 25 (r_20).toNatClampNeg) + r_22)).toNatClampNeg) ≤ 0 → (w_X10_stops u_23 1 x3 (fun (r_35 : Int32) (u_34 : St) => K r_35 u_34)))))) ∧ (x2 = 18 → (vp_in ((gA u_23 25 (r_20).toNatClampNeg) + r_22) 2000 ∧ (((gA u_23 29 (((gA u_23 25 (r_20).toNatClampNeg) + r_22)).toNatClampNeg) ≤ 0 → (vp_in (gS u_23 17) 3000 ∧ (vp_in (gS u_23 17) 3000 ∧ (K 1 (sS (sA (sA u_23 32 ((gS u_23 17)).toNatClampNeg ((gA u_23 25 (r_20).toNatClampNeg) + r_22)) 33 ((gS u_23 17)).toNatClampNeg x1) 17 ((gS u_23 17) + 1)))))) ∧ (¬ (gA u_23 29 (((gA u_23 25 (r_20).toNatClampNeg) + r_22)).toNatClampNeg) ≤ 0 → (vp_in ((gA u_23 25 (r_20).toNatClampNeg) + r_22) 2000 ∧ (vp_in ((gA u_23 25 (r_20).toNatClampNeg) + r_22) 2000 ∧ (vp_in ((gA u_23 25 (r_20).toNatClampNeg) + r_22) 2000 ∧ (w_X10_gives u_23 x3 0 x4 (gA u_23 29 (((gA u_23 25 (r_20).toNatClampNeg) + r_22)).toNatClampNeg) (gA u_23 30 (((gA u_23 25 (r_20).toNatClampNeg) + r_22)).toNatClampNeg) (gA u_23 31 (((gA u_23 25 (r_20).toNatClampNeg) + r_22)).toNatClampNeg) (fun (r_41 : Int32) (u_40 : St) => K r_41 u_40)))))))))))) ∧ (r_24 = 0 → (w_X10_faults u_23 x3 x4 2 (fun (r_50 : Int32) (u_49 : St) => K r_50 u_49)))))))) ∧ (x2 = 20 → (vp_in r_20 300 ∧ (w_X10_number u_19 x1 (gA u_19 26 (r_20).toNatClampNeg) (fun (r_54 : Int32) (u_53 : St) => K r_54 u_53)))))

def w_X10_cells (σ : St) (a1 : Int32) (a2 : Int32) (K : Int32 → St → Prop) : Prop :=
  vp_in a1 3000 ∧ (vp_in a1 3000 ∧ (w_X10_kindAt σ a1 0 (fun (r_58 : Int32) (u_57 : St) => (¬ r_58 = 2 → (w_X10_faults u_57 (gA σ 14 (a1).toNatClampNeg) (gA σ 15 (a1).toNatClampNeg) 4 (fun (r_60 : Int32) (u_59 : St) => K r_60 u_59))) ∧ (r_58 = 2 → ((a2 = 20 → (b_X10_cells_50 K u_57 a1 a2 (gA σ 14 (a1).toNatClampNeg) (gA σ 15 (a1).toNatClampNeg))) ∧ (¬ a2 = 20 → (w_X10_kindAt u_57 a1 1 (fun (r_62 : Int32) (u_61 : St) => (r_62 = 1 → (b_X10_cells_50 K u_61 a1 a2 (gA σ 14 (a1).toNatClampNeg) (gA σ 15 (a1).toNatClampNeg))) ∧ (¬ r_62 = 1 → (w_X10_faults u_61 (gA σ 14 (a1).toNatClampNeg) (gA σ 15 (a1).toNatClampNeg) 4 (fun (r_64 : Int32) (u_63 : St) => K r_64 u_63)))))))))))

def b_X10_goesOff_197 (K : Int32 → St → Prop) (σ : St) (x1 : Int32) (x2 : Int32) (x3 : Int32) (x4 : Int32) (t1 : Int32) (t2 : Int32) : Prop :=
  w_X10_faultOf σ t1 t2 (fun (r_2 : Int32) (u_1 : St) => (r_2 < 0 → ((x4 ≤ 9 → (w_X10_reckons u_1 x1 x4 (fun (r_4 : Int32) (u_3 : St) => K r_4 u_3))) ∧ (¬ x4 ≤ 9 → ((¬ x4 = 17 → (w_X10_cells u_1 x1 x4 (fun (r_6 : Int32) (u_5 : St) => K r_6 u_5))) ∧ (x4 = 17 → (w_X10_reckons u_1 x1 x4 (fun (r_8 : Int32) (u_7 : St) => K r_8 u_7))))))) ∧ (¬ r_2 < 0 → (vp_in ((3 * x1) + r_2) 9000 ∧ (vp_in ((3 * x1) + r_2) 9000 ∧ (w_X10_gives u_1 x2 0 x3 3 (gA u_1 20 (((3 * x1) + r_2)).toNatClampNeg) (gA u_1 21 (((3 * x1) + r_2)).toNatClampNeg) (fun (r_12 : Int32) (u_11 : St) => K r_12 u_11))))))

def w_X10_goesOff (σ : St) (a1 : Int32) (K : Int32 → St → Prop) : Prop :=
  vp_in a1 3000 ∧ (vp_in a1 3000 ∧ (vp_in (gA σ 14 (a1).toNatClampNeg) 80 ∧ ((((gA σ 0 ((gA σ 14 (a1).toNatClampNeg)).toNatClampNeg) = 0 ∨ (gA σ 0 ((gA σ 14 (a1).toNatClampNeg)).toNatClampNeg) = 15) → (w_X10_passes σ a1 0 (gA σ 15 (a1).toNatClampNeg) (fun (r_18 : Int32) (u_17 : St) => K r_18 u_17))) ∧ (¬ ((gA σ 0 ((gA σ 14 (a1).toNatClampNeg)).toNatClampNeg) = 0 ∨ (gA σ 0 ((gA σ 14 (a1).toNatClampNeg)).toNatClampNeg) = 15) → ((((gA σ 0 ((gA σ 14 (a1).toNatClampNeg)).toNatClampNeg) = 1) → (vp_in (gA σ 14 (a1).toNatClampNeg) 80 ∧ (w_X10_number σ a1 (gA σ 1 ((gA σ 14 (a1).toNatClampNeg)).toNatClampNeg) (fun (r_21 : Int32) (u_20 : St) => K r_21 u_20)))) ∧ (¬ ((gA σ 0 ((gA σ 14 (a1).toNatClampNeg)).toNatClampNeg) = 1) → ((((gA σ 0 ((gA σ 14 (a1).toNatClampNeg)).toNatClampNeg) = 10) → (w_X10_switches σ a1 (fun (r_25 : Int32) (u_24 : St) => K r_25 u_24))) ∧ (¬ ((gA σ 0 ((gA σ 14 (a1).toNatClampNeg)).toNatClampNeg) = 10) → ((((gA σ 0 ((gA σ 14 (a1).toNatClampNeg)).toNatClampNeg) = 11 ∨ (gA σ 0 ((gA σ 14 (a1).toNatClampNeg)).toNatClampNeg) = 12 ∨ (gA σ 0 ((gA σ 14 (a1).toNatClampNeg)).toNatClampNeg) = 13) → (w_X10_loops σ a1 (fun (r_28 : Int32) (u_27 : St) => K r_28 u_27))) ∧ (¬ ((gA σ 0 ((gA σ 14 (a1).toNatClampNeg)).toNatClampNeg) = 11 ∨ (gA σ 0 ((gA σ 14 (a1).toNatClampNeg)).toNatClampNeg) = 12 ∨ (gA σ 0 ((gA σ 14 (a1).toNatClampNeg)).toNatClampNeg) = 13) → ((((gA σ 0 ((gA σ 14 (a1).toNatClampNeg)).toNatClampNeg) = 14) → (w_X10_calls σ a1 (fun (r_31 : Int32) (u_30 : St) => K r_31 u_30))) ∧ (¬ ((gA σ 0 ((gA σ 14 (a1).toNatClampNeg)).toNatClampNeg) = 14) → ((((gA σ 0 ((gA σ 14 (a1).toNatClampNeg)).toNatClampNeg) = 16) → (w_X10_returns σ a1 (fun (r_34 : Int32) (u_33 : St) => K r_34 u_33))) ∧ (¬ ((gA σ 0 ((gA σ 14 (a1).toNatClampNeg)).toNatClampNeg) = 16) → ((((gA σ 0 ((gA σ 14 (a1).toNatClampNeg)).toNatClampNeg) = 21) → (w_X10_ends σ a1 (fun (r_37 : Int32) (u_36 : St) => K r_37 u_36))) ∧ (¬ ((gA σ 0 ((gA σ 14 (a1).toNatClampNeg)).toNatClampNeg) = 21) → ((¬ (gA σ 0 ((gA σ 14 (a1).toNatClampNeg)).toNatClampNeg) = 19 → (vp_in (gA σ 14 (a1).toNatClampNeg) 80 ∧ (b_X10_goesOff_197 K σ a1 (gA σ 14 (a1).toNatClampNeg) (gA σ 15 (a1).toNatClampNeg) (gA σ 0 ((gA σ 14 (a1).toNatClampNeg)).toNatClampNeg) a1 (gA σ 2 ((gA σ 14 (a1).toNatClampNeg)).toNatClampNeg)))) ∧ ((gA σ 0 ((gA σ 14 (a1).toNatClampNeg)).toNatClampNeg) = 19 → (b_X10_goesOff_197 K σ a1 (gA σ 14 (a1).toNatClampNeg) (gA σ 15 (a1).toNatClampNeg) (gA σ 0 ((gA σ 14 (a1).toNatClampNeg)).toNatClampNeg) a1 2)))))))))))))))))))

def b_X10_begins_135 (L135 : St → Int32 → Int32 → Prop) (K : St → Prop) (σ : St) (x1 : Int32) (x2 : Int32) : Prop :=
  ((gS σ 2) ≤ x2 → (K σ)) ∧ (¬ (gS σ 2) ≤ x2 → ((¬ (gS σ 4) = 0 → (K σ)) ∧ ((gS σ 4) = 0 → (vp_in x2 40 ∧ (vp_in x2 40 ∧ (vp_in x2 40 ∧ (w_X10_comes σ (gA σ 7 (x2).toNatClampNeg) (gA σ 8 (x2).toNatClampNeg) x1 1 (gA σ 9 (x2).toNatClampNeg) (-1) (fun (r_2 : Int32) (u_1 : St) => L135 u_1 x1 (x2 + 1)))))))))

def w_X10_begins_135 (K : St → Prop) : Nat → St → Int32 → Int32 → Prop
  | 0 => fun _ _ _ => False
  | n + 1 => fun σ x1 x2 => b_X10_begins_135 (w_X10_begins_135 K n) K σ x1 x2

def b_X10_begins_105 (L105 : St → Int32 → Prop) (K : St → Prop) (σ : St) (x1 : Int32) : Prop :=
  (10 ≤ x1 → (w_X10_colour σ 0 0 0 0 (fun (r_9 : Int32) (u_8 : St) => ∃ n : Nat, w_X10_begins_135 K n u_8 r_9 0))) ∧ (¬ 10 ≤ x1 → (vp_in x1 10 ∧ (L105 (sA σ 34 (x1).toNatClampNeg 0) (x1 + 1))))

def w_X10_begins_105 (K : St → Prop) : Nat → St → Int32 → Prop
  | 0 => fun _ _ => False
  | n + 1 => fun σ x1 => b_X10_begins_105 (w_X10_begins_105 K n) K σ x1

def b_X10_begins_77 (L77 : St → Int32 → Prop) (K : St → Prop) (σ : St) (x1 : Int32) : Prop :=
  (80 ≤ x1 → (∃ n : Nat, w_X10_begins_105 K n σ 0)) ∧ (¬ 80 ≤ x1 → (vp_in x1 80 ∧ (vp_in x1 80 ∧ (L77 (sA (sA σ 22 (x1).toNatClampNeg (-1)) 23 (x1).toNatClampNeg 0) (x1 + 1)))))

def w_X10_begins_77 (K : St → Prop) : Nat → St → Int32 → Prop
  | 0 => fun _ _ => False
  | n + 1 => fun σ x1 => b_X10_begins_77 (w_X10_begins_77 K n) K σ x1

def w_X10_begins (σ : St) (K : St → Prop) : Prop :=
  ∃ n : Nat, w_X10_begins_77 K n (sS (sS (sS (sS (sS (sS (sS (sS (sS (sS (sS (sS (sS (sS (sS σ 3 1) 4 0) 5 0) 6 0) 7 0) 8 0) 9 0) 10 0) 11 (-1)) 12 0) 13 0) 14 0) 15 0) 16 0) 17 0) 0

def b_X10_stepped_11 (L11 : St → Int32 → Int32 → Prop) (K : St → Prop) (σ : St) (x2 : Int32) (x3 : Int32) : Prop :=
  ((gS σ 14) ≤ x3 → (vp_in x2 3000 ∧ (vp_in x2 3000 ∧ (vp_in (gA σ 14 (x2).toNatClampNeg) 80 ∧ (vp_in (gA σ 14 (x2).toNatClampNeg) 80 ∧ (w_X10_goesOff (sA (sS (sA (sS σ 14 ((gS σ 14) - 1)) 17 (x2).toNatClampNeg 2) 6 ((gS σ 6) + 1)) 23 ((gA σ 14 (x2).toNatClampNeg)).toNatClampNeg ((gA σ 23 ((gA σ 14 (x2).toNatClampNeg)).toNatClampNeg) + 1)) x2 (fun (r_2 : Int32) (u_1 : St) => K u_1))))))) ∧ (¬ (gS σ 14) ≤ x3 → (vp_in x3 3000 ∧ (vp_in (x3 - 1) 3000 ∧ (L11 (sA σ 24 ((x3 - 1)).toNatClampNeg (gA σ 24 (x3).toNatClampNeg)) x2 (x3 + 1)))))

def w_X10_stepped_11 (K : St → Prop) : Nat → St → Int32 → Int32 → Prop
  | 0 => fun _ _ _ => False
  | n + 1 => fun σ x2 x3 => b_X10_stepped_11 (w_X10_stepped_11 K n) K σ x2 x3

def w_X10_stepped (σ : St) (a1 : Int32) (K : St → Prop) : Prop :=
  vp_in a1 3000 ∧ (∃ n : Nat, w_X10_stepped_11 K n σ (gA σ 24 (a1).toNatClampNeg) (a1 + 1))

def b_X10_run_19 (L19 : St → Int32 → Int32 → Prop) (K : Int32 → St → Prop) (σ : St) (x2 : Int32) (x3 : Int32) : Prop :=
  (¬ (gS σ 4) = 0 → (K (gS σ 5) σ)) ∧ ((gS σ 4) = 0 → (((gS σ 14) ≤ 0 → (K (gS σ 5) σ)) ∧ (¬ (gS σ 14) ≤ 0 → ((¬ (gS σ 6) = x2 → (¬ (gS σ 14) = 0 ∧ (w_X10_stepped (sS σ 8 1) (((((1103515245 * x3) + 12345).toUInt32 >>> ((16 : Int32).toUInt32 &&& Int32.toUInt32 31)).toInt32) - ((((1103515245 * x3) + 12345).toUInt32 >>> ((16 : Int32).toUInt32 &&& Int32.toUInt32 31)).toInt32) / (gS σ 14) * (gS σ 14)) (fun u_1 : St => L19 u_1 x2 ((1103515245 * x3) + 12345))))) ∧ ((gS σ 6) = x2 → (w_X10_stops σ 3 (-1) (fun (r_5 : Int32) (u_4 : St) => L19 u_4 x2 x3)))))))

def w_X10_run_19 (K : Int32 → St → Prop) : Nat → St → Int32 → Int32 → Prop
  | 0 => fun _ _ _ => False
  | n + 1 => fun σ x2 x3 => b_X10_run_19 (w_X10_run_19 K n) K σ x2 x3

def w_X10_run (σ : St) (a1 : Int32) (a2 : Int32) (K : Int32 → St → Prop) : Prop :=
  w_X10_in σ a2 0 4000 (fun (r_10 : Int32) (u_9 : St) => (¬ r_10 = 0 → (w_X10_begins u_9 (fun u_11 : St => ∃ n : Nat, w_X10_run_19 K n u_11 a2 a1))) ∧ (r_10 = 0 → (K (-1) u_9)))

def b_X10_ticks_114 (L17 : St → Int32 → Prop) (K : Int32 → St → Prop) (σ : St) (x1 : Int32) (x3 : Int32) : Prop :=
  (x3 ≤ (gS σ 8) → (L17 (sS σ 8 (gS σ 8)) x1)) ∧ (¬ x3 ≤ (gS σ 8) → (L17 (sS σ 8 x3) x1))

def b_X10_ticks_69 (L17 : St → Int32 → Prop) (L69 : St → Int32 → Int32 → Int32 → Int32 → Prop) (K : Int32 → St → Prop) (σ : St) (x1 : Int32) (x2 : Int32) (x3 : Int32) (x4 : Int32) : Prop :=
  (x2 ≤ x4 → (b_X10_ticks_114 L17 K σ x1 x3)) ∧ (¬ x2 ≤ x4 → ((¬ (gS σ 4) = 0 → (b_X10_ticks_114 L17 K σ x1 x3)) ∧ ((gS σ 4) = 0 → ((¬ (gS σ 6) = x1 → (w_X10_stepped σ 0 (fun u_2 : St => L69 u_2 x1 x2 (x3 + 1) (x4 + 1)))) ∧ ((gS σ 6) = x1 → (w_X10_stops σ 3 (-1) (fun (r_5 : Int32) (u_4 : St) => L69 u_4 x1 x2 x3 (x4 + 1))))))))

def w_X10_ticks_69 (L17 : St → Int32 → Prop) (K : Int32 → St → Prop) : Nat → St → Int32 → Int32 → Int32 → Int32 → Prop
  | 0 => fun _ _ _ _ _ => False
  | n + 1 => fun σ x1 x2 x3 x4 => b_X10_ticks_69 L17 (w_X10_ticks_69 L17 K n) K σ x1 x2 x3 x4

def b_X10_ticks_17 (L17 : St → Int32 → Prop) (K : Int32 → St → Prop) (σ : St) (x1 : Int32) : Prop :=
  (¬ (gS σ 4) = 0 → (K (gS σ 5) σ)) ∧ ((gS σ 4) = 0 → (((gS σ 14) ≤ 0 → (K (gS σ 5) σ)) ∧ (¬ (gS σ 14) ≤ 0 → ((¬ (gS σ 6) = x1 → (∃ n : Nat, w_X10_ticks_69 L17 K n (sS σ 7 ((gS σ 7) + 1)) x1 (gS σ 14) 0 0)) ∧ ((gS σ 6) = x1 → (w_X10_stops σ 3 (-1) (fun (r_11 : Int32) (u_10 : St) => L17 u_10 x1)))))))

def w_X10_ticks_17 (K : Int32 → St → Prop) : Nat → St → Int32 → Prop
  | 0 => fun _ _ => False
  | n + 1 => fun σ x1 => b_X10_ticks_17 (w_X10_ticks_17 K n) K σ x1

def w_X10_ticks (σ : St) (a1 : Int32) (K : Int32 → St → Prop) : Prop :=
  w_X10_in σ a1 0 4000 (fun (r_16 : Int32) (u_15 : St) => (¬ r_16 = 0 → (w_X10_begins u_15 (fun u_17 : St => ∃ n : Nat, w_X10_ticks_17 K n u_17 a1))) ∧ (r_16 = 0 → (K (-1) u_15)))

def b_X10_left_14 (L4 : St → Int32 → Int32 → Prop) (L14 : St → Int32 → Int32 → Int32 → Prop) (K : Int32 → St → Prop) (σ : St) (x1 : Int32) (x2 : Int32) (x3 : Int32) : Prop :=
  (3 ≤ x3 → (L4 σ x1 (x2 + 1))) ∧ (¬ 3 ≤ x3 → (vp_in x2 3000 ∧ ((¬ (gA σ 17 (x2).toNatClampNeg) = 0 → (L4 σ x1 (x2 + 1))) ∧ ((gA σ 17 (x2).toNatClampNeg) = 0 → (vp_in x2 3000 ∧ (∀ x_1 : Int32, x_1 = (x1 + (((gA σ 16 (x2).toNatClampNeg) >>> (x3 &&& 31)) &&& 1)) → (L14 σ x_1 x2 (x3 + 1))))))))

def w_X10_left_14 (L4 : St → Int32 → Int32 → Prop) (K : Int32 → St → Prop) : Nat → St → Int32 → Int32 → Int32 → Prop
  | 0 => fun _ _ _ _ => False
  | n + 1 => fun σ x1 x2 x3 => b_X10_left_14 L4 (w_X10_left_14 L4 K n) K σ x1 x2 x3

def b_X10_left_4 (L4 : St → Int32 → Int32 → Prop) (K : Int32 → St → Prop) (σ : St) (x1 : Int32) (x2 : Int32) : Prop :=
  ((gS σ 13) ≤ x2 → (K x1 σ)) ∧ (¬ (gS σ 13) ≤ x2 → (∃ n : Nat, w_X10_left_14 L4 K n σ x1 x2 0))

def w_X10_left_4 (K : Int32 → St → Prop) : Nat → St → Int32 → Int32 → Prop
  | 0 => fun _ _ _ => False
  | n + 1 => fun σ x1 x2 => b_X10_left_4 (w_X10_left_4 K n) K σ x1 x2

def w_X10_left (σ : St) (K : Int32 → St → Prop) : Prop :=
  ∃ n : Nat, w_X10_left_4 K n σ 0 0

def b_X10_waiting_4 (L4 : St → Int32 → Int32 → Prop) (K : Int32 → St → Prop) (σ : St) (x1 : Int32) (x2 : Int32) : Prop :=
  ((gS σ 17) ≤ x2 → (K x1 σ)) ∧ (¬ (gS σ 17) ≤ x2 → (vp_in x2 3000 ∧ (((gA σ 32 (x2).toNatClampNeg) < 0 → (L4 σ (x1 + 0) (x2 + 1))) ∧ (¬ (gA σ 32 (x2).toNatClampNeg) < 0 → (L4 σ (x1 + 1) (x2 + 1))))))

def w_X10_waiting_4 (K : Int32 → St → Prop) : Nat → St → Int32 → Int32 → Prop
  | 0 => fun _ _ _ => False
  | n + 1 => fun σ x1 x2 => b_X10_waiting_4 (w_X10_waiting_4 K n) K σ x1 x2

def w_X10_waiting (σ : St) (K : Int32 → St → Prop) : Prop :=
  ∃ n : Nat, w_X10_waiting_4 K n σ 0 0

def w_X10_about (σ : St) (a1 : Int32) (K : Int32 → St → Prop) : Prop :=
  (¬ (gS σ 3) = 0 → (((a1 = 0) → (K (gS σ 5) σ)) ∧ (¬ (a1 = 0) → (((a1 = 1) → (K (gS σ 6) σ)) ∧ (¬ (a1 = 1) → (((a1 = 2) → (K (gS σ 7) σ)) ∧ (¬ (a1 = 2) → (((a1 = 3) → (K (gS σ 8) σ)) ∧ (¬ (a1 = 3) → (((a1 = 4) → (w_X10_left σ (fun (r_7 : Int32) (u_6 : St) => K r_7 u_6))) ∧ (¬ (a1 = 4) → (((a1 = 5) → (w_X10_waiting σ (fun (r_10 : Int32) (u_9 : St) => K r_10 u_9))) ∧ (¬ (a1 = 5) → (((a1 = 6) → (K (gS σ 9) σ)) ∧ (¬ (a1 = 6) → (((a1 = 7) → (K (gS σ 10) σ)) ∧ (¬ (a1 = 7) → (((a1 = 8) → (K (gS σ 12) σ)) ∧ (¬ (a1 = 8) → (((a1 = 9) → (K (gS σ 11) σ)) ∧ (¬ (a1 = 9) → (((a1 = 10) → (K (gS σ 14) σ)) ∧ (¬ (a1 = 10) → (K (-1) σ)))))))))))))))))))))))) ∧ ((gS σ 3) = 0 → (K (-1) σ))

def w_X10_told1 (σ : St) (a1 : Int32) (a2 : Int32) (a3 : Int32) (a4 : Int32) (K : Int32 → St → Prop) : Prop :=
  (¬ a4 = 0 → ((¬ a4 = 1 → ((¬ a1 = 3 → (K (-1) σ)) ∧ (a1 = 3 → (K a3 σ)))) ∧ (a4 = 1 → ((¬ a1 = 0 → ((¬ a1 = 2 → (K a2 σ)) ∧ (a1 = 2 → (vp_in a2 300 ∧ (K (gA σ 26 (a2).toNatClampNeg) σ))))) ∧ (a1 = 0 → (K (-1) σ)))))) ∧ (a4 = 0 → (K a1 σ))

def w_X10_end (σ : St) (a1 : Int32) (a2 : Int32) (K : Int32 → St → Prop) : Prop :=
  ((gS σ 3) = 0 → (K (-1) σ)) ∧ (¬ (gS σ 3) = 0 → (w_X10_in σ a1 0 9 (fun (r_2 : Int32) (u_1 : St) => (r_2 = 0 → (K (-1) u_1)) ∧ (¬ r_2 = 0 → (w_X10_in u_1 a2 0 2 (fun (r_4 : Int32) (u_3 : St) => (r_4 = 0 → (K (-1) u_3)) ∧ (¬ r_4 = 0 → (vp_in a1 10 ∧ (vp_in a1 10 ∧ (vp_in a1 10 ∧ (w_X10_told1 u_3 (gA u_3 34 (a1).toNatClampNeg) (gA u_3 35 (a1).toNatClampNeg) (gA u_3 36 (a1).toNatClampNeg) a2 (fun (r_6 : Int32) (u_5 : St) => K r_6 u_5))))))))))))

def w_X10_fired (σ : St) (a1 : Int32) (K : Int32 → St → Prop) : Prop :=
  ((gS σ 3) = 0 → (K (-1) σ)) ∧ (¬ (gS σ 3) = 0 → (w_X10_isAct σ a1 (fun (r_2 : Int32) (u_1 : St) => (r_2 = 0 → (K (-1) u_1)) ∧ (¬ r_2 = 0 → (vp_in a1 80 ∧ (K (gA u_1 23 (a1).toNatClampNeg) u_1))))))

def b_X10_cell_21 (L21 : St → Int32 → Int32 → Int32 → Int32 → Prop) (K : Int32 → St → Prop) (σ : St) (x1 : Int32) (x2 : Int32) (x3 : Int32) (x4 : Int32) : Prop :=
  ((gS σ 15) ≤ x4 → (K (-1) σ)) ∧ (¬ (gS σ 15) ≤ x4 → (vp_in x4 300 ∧ ((¬ (gA σ 27 (x4).toNatClampNeg) = x1 → (L21 σ x1 x2 x3 (x4 + 1))) ∧ ((gA σ 27 (x4).toNatClampNeg) = x1 → (vp_in x4 300 ∧ (((gA σ 28 (x4).toNatClampNeg) = 0 → (vp_in x4 300 ∧ (w_X10_in σ x2 0 ((gA σ 26 (x4).toNatClampNeg) - 1) (fun (r_2 : Int32) (u_1 : St) => (¬ r_2 = 0 → (vp_in x4 300 ∧ (vp_in ((gA u_1 25 (x4).toNatClampNeg) + x2) 2000 ∧ (vp_in ((gA u_1 25 (x4).toNatClampNeg) + x2) 2000 ∧ (vp_in ((gA u_1 25 (x4).toNatClampNeg) + x2) 2000 ∧ (w_X10_told1 u_1 (gA u_1 29 (((gA u_1 25 (x4).toNatClampNeg) + x2)).toNatClampNeg) (gA u_1 30 (((gA u_1 25 (x4).toNatClampNeg) + x2)).toNatClampNeg) (gA u_1 31 (((gA u_1 25 (x4).toNatClampNeg) + x2)).toNatClampNeg) x3 (fun (r_4 : Int32) (u_3 : St) => K r_4 u_3))))))) ∧ (r_2 = 0 → (K (-1) u_1)))))) ∧ (¬ (gA σ 28 (x4).toNatClampNeg) = 0 → (L21 σ x1 x2 x3 (x4 + 1)))))))))

def w_X10_cell_21 (K : Int32 → St → Prop) : Nat → St → Int32 → Int32 → Int32 → Int32 → Prop
  | 0 => fun _ _ _ _ _ => False
  | n + 1 => fun σ x1 x2 x3 x4 => b_X10_cell_21 (w_X10_cell_21 K n) K σ x1 x2 x3 x4

def w_X10_cell (σ : St) (a1 : Int32) (a2 : Int32) (a3 : Int32) (K : Int32 → St → Prop) : Prop :=
  ((gS σ 3) = 0 → (K (-1) σ)) ∧ (¬ (gS σ 3) = 0 → (w_X10_in σ a3 0 2 (fun (r_17 : Int32) (u_16 : St) => (¬ r_17 = 0 → (∃ n : Nat, w_X10_cell_21 K n u_16 a1 a2 a3 0)) ∧ (r_17 = 0 → (K (-1) u_16)))))

def b_X10_told_128 (L128 : St → Int32 → Int32 → Int32 → Prop) (K : Int32 → St → Prop) (σ : St) (x1 : Int32) (x3 : Int32) (x4 : Int32) : Prop :=
  ((gS σ 2) ≤ x4 → (K x3 σ)) ∧ (¬ (gS σ 2) ≤ x4 → (vp_in x4 40 ∧ ((¬ (gA σ 7 (x4).toNatClampNeg) = x1 → (L128 σ x1 (x3 + 0) (x4 + 1))) ∧ ((gA σ 7 (x4).toNatClampNeg) = x1 → (L128 σ x1 (x3 + 1) (x4 + 1))))))

def w_X10_told_128 (K : Int32 → St → Prop) : Nat → St → Int32 → Int32 → Int32 → Prop
  | 0 => fun _ _ _ _ => False
  | n + 1 => fun σ x1 x3 x4 => b_X10_told_128 (w_X10_told_128 K n) K σ x1 x3 x4

def b_X10_told_76 (L76 : St → Int32 → Int32 → Int32 → Int32 → Prop) (K : Int32 → St → Prop) (σ : St) (x1 : Int32) (x2 : Int32) (x3 : Int32) (x4 : Int32) : Prop :=
  ((gS σ 1) ≤ x4 → (K x3 σ)) ∧ (¬ (gS σ 1) ≤ x4 → (vp_in x4 300 ∧ ((¬ (gA σ 3 (x4).toNatClampNeg) = x1 → (L76 σ x1 x2 (x3 + 0) (x4 + 1))) ∧ ((gA σ 3 (x4).toNatClampNeg) = x1 → (vp_in x4 300 ∧ ((¬ (gA σ 4 (x4).toNatClampNeg) = (x2 - 3) → (L76 σ x1 x2 (x3 + 0) (x4 + 1))) ∧ ((gA σ 4 (x4).toNatClampNeg) = (x2 - 3) → (L76 σ x1 x2 (x3 + 1) (x4 + 1)))))))))

def w_X10_told_76 (K : Int32 → St → Prop) : Nat → St → Int32 → Int32 → Int32 → Int32 → Prop
  | 0 => fun _ _ _ _ _ => False
  | n + 1 => fun σ x1 x2 x3 x4 => b_X10_told_76 (w_X10_told_76 K n) K σ x1 x2 x3 x4

def w_X10_told (σ : St) (a1 : Int32) (a2 : Int32) (K : Int32 → St → Prop) : Prop :=
  w_X10_isAct σ a1 (fun (r_10 : Int32) (u_9 : St) => (¬ r_10 = 0 → (((a2 = 0) → (vp_in a1 80 ∧ (K (gA u_9 0 (a1).toNatClampNeg) u_9))) ∧ (¬ (a2 = 0) → (((a2 = 1) → (vp_in a1 80 ∧ (K (gA u_9 1 (a1).toNatClampNeg) u_9))) ∧ (¬ (a2 = 1) → (((a2 = 2) → (vp_in a1 80 ∧ (K (gA u_9 2 (a1).toNatClampNeg) u_9))) ∧ (¬ (a2 = 2) → (((a2 = 3 ∨ a2 = 4) → (∃ n : Nat, w_X10_told_76 K n u_9 a1 a2 0 0)) ∧ (¬ (a2 = 3 ∨ a2 = 4) → (((a2 = 5) → (∃ n : Nat, w_X10_told_128 K n u_9 a1 0 0)) ∧ (¬ (a2 = 5) → (K (-1) u_9)))))))))))) ∧ (r_10 = 0 → (K (-1) u_9)))

def b_X10_notes_was_87 (L87 : St → Int32 → Prop) (K : St → Prop) (σ : St) (x2 : Int32) : Prop :=
  (80 ≤ x2 → (K σ)) ∧ (¬ 80 ≤ x2 → (vp_in x2 80 ∧ (vp_in (36 + x2) 116 ∧ (L87 (sA σ 37 ((36 + x2)).toNatClampNeg (gA σ 23 (x2).toNatClampNeg)) (x2 + 1)))))

def w_X10_notes_was_87 (K : St → Prop) : Nat → St → Int32 → Prop
  | 0 => fun _ _ => False
  | n + 1 => fun σ x2 => b_X10_notes_was_87 (w_X10_notes_was_87 K n) K σ x2

def b_X10_notes_was_52 (L44 : St → Int32 → Prop) (L52 : St → Int32 → Int32 → Prop) (K : St → Prop) (σ : St) (x2 : Int32) (x3 : Int32) : Prop :=
  (3 ≤ x3 → (L44 σ (x2 + 1))) ∧ (¬ 3 ≤ x3 → (w_X10_end σ x2 x3 (fun (r_5 : Int32) (u_4 : St) => vp_in ((6 + (3 * x2)) + x3) 116 ∧ (L52 (sA u_4 37 (((6 + (3 * x2)) + x3)).toNatClampNeg r_5) x2 (x3 + 1)))))

def w_X10_notes_was_52 (L44 : St → Int32 → Prop) (K : St → Prop) : Nat → St → Int32 → Int32 → Prop
  | 0 => fun _ _ _ => False
  | n + 1 => fun σ x2 x3 => b_X10_notes_was_52 L44 (w_X10_notes_was_52 L44 K n) K σ x2 x3

def b_X10_notes_was_44 (L44 : St → Int32 → Prop) (K : St → Prop) (σ : St) (x2 : Int32) : Prop :=
  (10 ≤ x2 → (∃ n : Nat, w_X10_notes_was_87 K n σ 0)) ∧ (¬ 10 ≤ x2 → (∃ n : Nat, w_X10_notes_was_52 L44 K n σ x2 0))

def w_X10_notes_was_44 (K : St → Prop) : Nat → St → Int32 → Prop
  | 0 => fun _ _ => False
  | n + 1 => fun σ x2 => b_X10_notes_was_44 (w_X10_notes_was_44 K n) K σ x2

def w_X10_notes_was (σ : St) (K : St → Prop) : Prop :=
  w_X10_left (sA (sA σ 37 ((0 : Int32)).toNatClampNeg (gS σ 5)) 37 ((1 : Int32)).toNatClampNeg (gS σ 6)) (fun (r_12 : Int32) (u_11 : St) => w_X10_waiting (sA u_11 37 ((2 : Int32)).toNatClampNeg r_12) (fun (r_14 : Int32) (u_13 : St) => ∃ n : Nat, w_X10_notes_was_44 K n (sA (sA (sA u_13 37 ((3 : Int32)).toNatClampNeg r_14) 37 ((4 : Int32)).toNatClampNeg (gS u_13 9)) 37 ((5 : Int32)).toNatClampNeg (gS u_13 10)) 0))

def b_X10_notes_is_87 (L87 : St → Int32 → Prop) (K : St → Prop) (σ : St) (x2 : Int32) : Prop :=
  (80 ≤ x2 → (K σ)) ∧ (¬ 80 ≤ x2 → (vp_in x2 80 ∧ (vp_in (36 + x2) 116 ∧ (L87 (sA σ 38 ((36 + x2)).toNatClampNeg (gA σ 23 (x2).toNatClampNeg)) (x2 + 1)))))

def w_X10_notes_is_87 (K : St → Prop) : Nat → St → Int32 → Prop
  | 0 => fun _ _ => False
  | n + 1 => fun σ x2 => b_X10_notes_is_87 (w_X10_notes_is_87 K n) K σ x2

def b_X10_notes_is_52 (L44 : St → Int32 → Prop) (L52 : St → Int32 → Int32 → Prop) (K : St → Prop) (σ : St) (x2 : Int32) (x3 : Int32) : Prop :=
  (3 ≤ x3 → (L44 σ (x2 + 1))) ∧ (¬ 3 ≤ x3 → (w_X10_end σ x2 x3 (fun (r_5 : Int32) (u_4 : St) => vp_in ((6 + (3 * x2)) + x3) 116 ∧ (L52 (sA u_4 38 (((6 + (3 * x2)) + x3)).toNatClampNeg r_5) x2 (x3 + 1)))))

def w_X10_notes_is_52 (L44 : St → Int32 → Prop) (K : St → Prop) : Nat → St → Int32 → Int32 → Prop
  | 0 => fun _ _ _ => False
  | n + 1 => fun σ x2 x3 => b_X10_notes_is_52 L44 (w_X10_notes_is_52 L44 K n) K σ x2 x3

def b_X10_notes_is_44 (L44 : St → Int32 → Prop) (K : St → Prop) (σ : St) (x2 : Int32) : Prop :=
  (10 ≤ x2 → (∃ n : Nat, w_X10_notes_is_87 K n σ 0)) ∧ (¬ 10 ≤ x2 → (∃ n : Nat, w_X10_notes_is_52 L44 K n σ x2 0))

def w_X10_notes_is_44 (K : St → Prop) : Nat → St → Int32 → Prop
  | 0 => fun _ _ => False
  | n + 1 => fun σ x2 => b_X10_notes_is_44 (w_X10_notes_is_44 K n) K σ x2

def w_X10_notes_is (σ : St) (K : St → Prop) : Prop :=
  w_X10_left (sA (sA σ 38 ((0 : Int32)).toNatClampNeg (gS σ 5)) 38 ((1 : Int32)).toNatClampNeg (gS σ 6)) (fun (r_12 : Int32) (u_11 : St) => w_X10_waiting (sA u_11 38 ((2 : Int32)).toNatClampNeg r_12) (fun (r_14 : Int32) (u_13 : St) => ∃ n : Nat, w_X10_notes_is_44 K n (sA (sA (sA u_13 38 ((3 : Int32)).toNatClampNeg r_14) 38 ((4 : Int32)).toNatClampNeg (gS u_13 9)) 38 ((5 : Int32)).toNatClampNeg (gS u_13 10)) 0))

def b_X10_beside_156 (L156 : St → Int32 → Prop) (K : Int32 → St → Prop) (σ : St) (x4 : Int32) : Prop :=
  ((gS σ 0) ≤ x4 → (K (-1) σ)) ∧ (¬ (gS σ 0) ≤ x4 → (vp_in (36 + x4) 116 ∧ (vp_in (36 + x4) 116 ∧ (((gA σ 37 ((36 + x4)).toNatClampNeg) = (gA σ 38 ((36 + x4)).toNatClampNeg) → (L156 σ (x4 + 1))) ∧ (¬ (gA σ 37 ((36 + x4)).toNatClampNeg) = (gA σ 38 ((36 + x4)).toNatClampNeg) → (K (20 + x4) σ))))))

def w_X10_beside_156 (K : Int32 → St → Prop) : Nat → St → Int32 → Prop
  | 0 => fun _ _ => False
  | n + 1 => fun σ x4 => b_X10_beside_156 (w_X10_beside_156 K n) K σ x4

def b_X10_beside_112 (L112 : St → Int32 → Prop) (K : Int32 → St → Prop) (σ : St) (x4 : Int32) : Prop :=
  (36 ≤ x4 → (∃ n : Nat, w_X10_beside_156 K n σ 0)) ∧ (¬ 36 ≤ x4 → (vp_in x4 116 ∧ (vp_in x4 116 ∧ (((gA σ 37 (x4).toNatClampNeg) = (gA σ 38 (x4).toNatClampNeg) → (L112 σ (x4 + 1))) ∧ (¬ (gA σ 37 (x4).toNatClampNeg) = (gA σ 38 (x4).toNatClampNeg) → (K (10 + ((x4 - 6) / 3)) σ))))))

def w_X10_beside_112 (K : Int32 → St → Prop) : Nat → St → Int32 → Prop
  | 0 => fun _ _ => False
  | n + 1 => fun σ x4 => b_X10_beside_112 (w_X10_beside_112 K n) K σ x4

def b_X10_beside_75 (L75 : St → Int32 → Prop) (K : Int32 → St → Prop) (σ : St) (x4 : Int32) : Prop :=
  (6 ≤ x4 → (∃ n : Nat, w_X10_beside_112 K n σ 6)) ∧ (¬ 6 ≤ x4 → (vp_in x4 116 ∧ (vp_in x4 116 ∧ (((gA σ 37 (x4).toNatClampNeg) = (gA σ 38 (x4).toNatClampNeg) → (L75 σ (x4 + 1))) ∧ (¬ (gA σ 37 (x4).toNatClampNeg) = (gA σ 38 (x4).toNatClampNeg) → (K x4 σ))))))

def w_X10_beside_75 (K : Int32 → St → Prop) : Nat → St → Int32 → Prop
  | 0 => fun _ _ => False
  | n + 1 => fun σ x4 => b_X10_beside_75 (w_X10_beside_75 K n) K σ x4

def w_X10_beside (σ : St) (a1 : Int32) (a2 : Int32) (a3 : Int32) (K : Int32 → St → Prop) : Prop :=
  w_X10_in σ a3 0 4000 (fun (r_16 : Int32) (u_15 : St) => (¬ r_16 = 0 → (w_X10_run u_15 a1 a3 (fun (r_18 : Int32) (u_17 : St) => w_X10_notes_was u_17 (fun u_19 : St => w_X10_run u_19 a2 a3 (fun (r_22 : Int32) (u_21 : St) => w_X10_notes_is u_21 (fun u_23 : St => ((gA u_23 37 ((0 : Int32)).toNatClampNeg) = (gA u_23 38 ((0 : Int32)).toNatClampNeg) → (((gA u_23 38 ((0 : Int32)).toNatClampNeg) = 0 → (∃ n : Nat, w_X10_beside_75 K n u_23 1)) ∧ (¬ (gA u_23 38 ((0 : Int32)).toNatClampNeg) = 0 → (K (-1) u_23)))) ∧ (¬ (gA u_23 37 ((0 : Int32)).toNatClampNeg) = (gA u_23 38 ((0 : Int32)).toNatClampNeg) → (K 0 u_23)))))))) ∧ (r_16 = 0 → (K (-2) u_15)))
end
section
theorem zb_nar {r : Int32} (h : zb r) : narrow .boolean (.int r) = .int r := by
  rcases h with rfl | rfl <;> rfl
/-- a world's cells stand in the heap, and the tables' classes are known -/
def inW (D : va_G) (w : St → va_W) (tys : List (ClassId × FieldType)) (σ : St) (U : State) : Prop := va_P D vwCl (w σ) U.heap ∧ va_K D vwCl tys U
/-- the addresses of a world of N cells, and all new ones -/
def AW (ad : Nat → Nat) (N sz : Nat) : Nat → Prop := fun q => (∃ k, k < N ∧ q = ad k) ∨ sz ≤ q
def apart (ad : Nat → Nat) (N : Nat) : Prop := ∀ i j, i < N → j < N → ad i = ad j → i = j
theorem AW.mono {ad : Nat → Nat} {N a b : Nat} (h : a ≤ b) {q : Nat} (hq : AW ad N b q) : AW ad N a q := hq.elim Or.inl (fun z => Or.inr (Nat.le_trans h z))
theorem AW.new {ad : Nat → Nat} {N sz q : Nat} (h : sz ≤ q) : AW ad N sz q := Or.inr h
/-- cells whose addresses are ad 0, ad 1 .. are apart -/
theorem va_D_of {ad : Nat → Nat} {N sz : Nat} {ws : va_W} (hap : apart ad N) (hm : ws.map (·.1) = (List.range N).map ad) : va_D (AW ad N sz) ws := by
  have hlen : ws.length = N := by have := congrArg List.length hm; simpa using this
  have hat : ∀ (k : Nat) (q : Nat × va_E), ws[k]? = some q → k < N ∧ q.1 = ad k := by
    intro k q hk
    have hkl : k < ws.length := (List.getElem?_eq_some_iff.mp hk).1
    have h1 : (ws.map (·.1))[k]? = some q.1 := by rw [List.getElem?_map, hk]; rfl
    rw [hm, List.getElem?_map, List.getElem?_range (by omega)] at h1
    exact ⟨by omega, (Option.some.inj h1).symm⟩
  refine ⟨fun i j p q hi hj e => ?_, fun k q hk => Or.inl ⟨k, hat k q hk⟩⟩
  obtain ⟨h1, e1⟩ := hat i p hi
  obtain ⟨h2, e2⟩ := hat j q hj
  exact hap i j h1 h2 (by rw [← e1, ← e2, e])
theorem pc_blind {av : List Value} {sz : Nat} {D : va_G} {w : St → va_W} {tys : List (ClassId × FieldType)} {σ : St} : FrameBlind (va_Pc av (fun U => U.heap.size = sz ∧ inW D w tys σ U)) := by
  intro a U g mk q
  obtain ⟨q0, q1, qP, qK⟩ := q
  exact ⟨q0, q1, qP, va_K.moved (u := U) (U := U.calling g mk a) (Vm.Alike.refl U.vm) qK⟩
section CALLS
variable {p : Program} {l : Launch} {e : Env} {R : Room} {s : State} {m : MethodId} {args : Array Value} {below : List Frame} {meth : Method} {c : Code} {H : Heap} {locs : List Loc} {cells slots : Nat} {Q : State → Prop}
variable {y : MethodName} {bytes cc : ByteArray} {maxL nL n index pc : Nat} {ret : Option FieldType} {ws : List Cond} {rm : Room} {Ts : List Cond} {own C : String} {b : Addr} {As rest st : List Value} {ls : Array Slot}
variable {D : va_G} {w : St → va_W} {tys : List (ClassId × FieldType)} {ad : Nat → Nat} {N : Nat} {σ : St}
theorem cvI {K : Int32 → St → Prop} (F : CallFix p m c cc nL s args Ts own) (hK : va_K D vwCl tys s) (hP : va_P D vwCl (w σ) H) (hS : va_S (AW ad N s.heap.size) s.heap H locs)
    (hM : Met l y ws rm (va_Pc (.ref b :: As) (fun U => U.heap.size = H.size ∧ inW D w tys σ U)) (va_Qi K (inW D w tys) (AW ad N H.size)) 0 0 (AW ad N H.size)) (cw : CallW R s args own C index y bytes maxL ret ws rm 0 0 n)
    (hrecv : ∃ cell : Cell, H[b]? = some cell ∧ cell.vm.isStatics = false ∧ s.vm.findClass C = some cell.cls) (hn : As.length = n) (hsize : ls.size = nL) (hst : st = As.reverse ++ .ref b :: rest) (hW : (rest.map fun v => v.category).sum ≤ 8) (hdg : decode cc pc = .ok (.invokevirtual index, 3)) (hf : cells ≤ R.cells ∧ slots ≤ R.slots)
    (kk : ∀ (r : Int32) (u : St) (H1 : Heap) (locs1 : List Loc), K r u → va_P D vwCl (w u) H1 → va_S (AW ad N s.heap.size) s.heap H1 locs1 → W p l e R s m args below meth c H1 locs1 cells slots Q (F0 m (pc + 3) ls (.int r :: rest))) : W p l e R s m args below meth c H locs cells slots Q (F0 m pc ls st) := by
  refine va_calli (va_runV (As := As) (rest := rest) F hM cw ⟨pc_blind, hrecv, fun U hU hW => ⟨rfl, by rw [hU], by rw [hU]; exact hP, va_K.moved hW.alike hK⟩⟩ rfl hn hsize hst (lv_room hW) hdg hf) hS (fun q _ h => AW.mono hS.1 h) (fun q h => AW.mono hS.1 h) (fun r u t H1 locs1 ht _ hw hB _ _ hS1 => ?_)
  exact kk r u H1 locs1 hw (by rw [← ht]; exact hB.1) hS1
theorem cvL {K : Int64 → St → Prop} (F : CallFix p m c cc nL s args Ts own) (hK : va_K D vwCl tys s) (hP : va_P D vwCl (w σ) H) (hS : va_S (AW ad N s.heap.size) s.heap H locs)
    (hM : Met l y ws rm (va_Pc (.ref b :: As) (fun U => U.heap.size = H.size ∧ inW D w tys σ U)) (va_Ql K (inW D w tys) (AW ad N H.size)) 0 0 (AW ad N H.size)) (cw : CallW R s args own C index y bytes maxL ret ws rm 0 0 n)
    (hrecv : ∃ cell : Cell, H[b]? = some cell ∧ cell.vm.isStatics = false ∧ s.vm.findClass C = some cell.cls) (hn : As.length = n) (hsize : ls.size = nL) (hst : st = As.reverse ++ .ref b :: rest) (hW : (rest.map fun v => v.category).sum ≤ 8) (hdg : decode cc pc = .ok (.invokevirtual index, 3)) (hf : cells ≤ R.cells ∧ slots ≤ R.slots)
    (kk : ∀ (r : Int64) (u : St) (H1 : Heap) (locs1 : List Loc), K r u → va_P D vwCl (w u) H1 → va_S (AW ad N s.heap.size) s.heap H1 locs1 → W p l e R s m args below meth c H1 locs1 cells slots Q (F0 m (pc + 3) ls (.long r :: rest))) : W p l e R s m args below meth c H locs cells slots Q (F0 m pc ls st) := by
  refine va_calll (va_runV (As := As) (rest := rest) F hM cw ⟨pc_blind, hrecv, fun U hU hW => ⟨rfl, by rw [hU], by rw [hU]; exact hP, va_K.moved hW.alike hK⟩⟩ rfl hn hsize hst (lv_room hW) hdg hf) hS (fun q _ h => AW.mono hS.1 h) (fun q h => AW.mono hS.1 h) (fun r u t H1 locs1 ht _ hw hB _ _ hS1 => ?_)
  exact kk r u H1 locs1 hw (by rw [← ht]; exact hB.1) hS1
theorem cvV {K : St → Prop} (F : CallFix p m c cc nL s args Ts own) (hK : va_K D vwCl tys s) (hP : va_P D vwCl (w σ) H) (hS : va_S (AW ad N s.heap.size) s.heap H locs)
    (hM : Met l y ws rm (va_Pc (.ref b :: As) (fun U => U.heap.size = H.size ∧ inW D w tys σ U)) (va_Qv K (inW D w tys) (AW ad N H.size)) 0 0 (AW ad N H.size)) (cw : CallW R s args own C index y bytes maxL ret ws rm 0 0 n)
    (hrecv : ∃ cell : Cell, H[b]? = some cell ∧ cell.vm.isStatics = false ∧ s.vm.findClass C = some cell.cls) (hn : As.length = n) (hsize : ls.size = nL) (hst : st = As.reverse ++ .ref b :: rest) (hW : (rest.map fun v => v.category).sum ≤ 8) (hdg : decode cc pc = .ok (.invokevirtual index, 3)) (hf : cells ≤ R.cells ∧ slots ≤ R.slots)
    (kk : ∀ (u : St) (H1 : Heap) (locs1 : List Loc), K u → va_P D vwCl (w u) H1 → va_S (AW ad N s.heap.size) s.heap H1 locs1 → W p l e R s m args below meth c H1 locs1 cells slots Q (F0 m (pc + 3) ls rest)) : W p l e R s m args below meth c H locs cells slots Q (F0 m pc ls st) := by
  refine va_callv (va_runV (As := As) (rest := rest) F hM cw ⟨pc_blind, hrecv, fun U hU hW => ⟨rfl, by rw [hU], by rw [hU]; exact hP, va_K.moved hW.alike hK⟩⟩ rfl hn hsize hst (lv_room hW) hdg hf) hS (fun q _ h => AW.mono hS.1 h) (fun q h => AW.mono hS.1 h) (fun u t H1 locs1 ht _ hw hB _ _ hS1 => ?_)
  exact kk u H1 locs1 hw (by rw [← ht]; exact hB.1) hS1
theorem csI {K : Int32 → St → Prop} (F : CallFix p m c cc nL s args Ts own) (hK : va_K D vwCl tys s) (hP : va_P D vwCl (w σ) H) (hS : va_S (AW ad N s.heap.size) s.heap H locs)
    (hM : Met l y ws rm (va_Pc As (fun U => U.heap.size = H.size ∧ inW D w tys σ U)) (va_Qi K (inW D w tys) (AW ad N H.size)) 0 0 (AW ad N H.size)) (cw : CallB R s args own index y bytes maxL ret ws rm 0 0 n ∧ (Cond.static y).before args s = true)
    (hn : As.length = n) (hsize : ls.size = nL) (hst : st = As.reverse ++ rest) (hW : (rest.map fun v => v.category).sum ≤ 8) (hdg : decode cc pc = .ok (.invokestatic index, 3)) (hf : cells ≤ R.cells ∧ slots ≤ R.slots)
    (kk : ∀ (r : Int32) (u : St) (H1 : Heap) (locs1 : List Loc), K r u → va_P D vwCl (w u) H1 → va_S (AW ad N s.heap.size) s.heap H1 locs1 → W p l e R s m args below meth c H1 locs1 cells slots Q (F0 m (pc + 3) ls (.int r :: rest))) : W p l e R s m args below meth c H locs cells slots Q (F0 m pc ls st) := by
  refine va_calli (va_runS (As := As) (rest := rest) F hM cw ⟨pc_blind, fun U hU hW => ⟨rfl, by rw [hU], by rw [hU]; exact hP, va_K.moved hW.alike hK⟩⟩ rfl hn hsize hst (lv_room hW) hdg hf) hS (fun q _ h => AW.mono hS.1 h) (fun q h => AW.mono hS.1 h) (fun r u t H1 locs1 ht _ hw hB _ _ hS1 => ?_)
  exact kk r u H1 locs1 hw (by rw [← ht]; exact hB.1) hS1
theorem csL {K : Int64 → St → Prop} (F : CallFix p m c cc nL s args Ts own) (hK : va_K D vwCl tys s) (hP : va_P D vwCl (w σ) H) (hS : va_S (AW ad N s.heap.size) s.heap H locs)
    (hM : Met l y ws rm (va_Pc As (fun U => U.heap.size = H.size ∧ inW D w tys σ U)) (va_Ql K (inW D w tys) (AW ad N H.size)) 0 0 (AW ad N H.size)) (cw : CallB R s args own index y bytes maxL ret ws rm 0 0 n ∧ (Cond.static y).before args s = true)
    (hn : As.length = n) (hsize : ls.size = nL) (hst : st = As.reverse ++ rest) (hW : (rest.map fun v => v.category).sum ≤ 8) (hdg : decode cc pc = .ok (.invokestatic index, 3)) (hf : cells ≤ R.cells ∧ slots ≤ R.slots)
    (kk : ∀ (r : Int64) (u : St) (H1 : Heap) (locs1 : List Loc), K r u → va_P D vwCl (w u) H1 → va_S (AW ad N s.heap.size) s.heap H1 locs1 → W p l e R s m args below meth c H1 locs1 cells slots Q (F0 m (pc + 3) ls (.long r :: rest))) : W p l e R s m args below meth c H locs cells slots Q (F0 m pc ls st) := by
  refine va_calll (va_runS (As := As) (rest := rest) F hM cw ⟨pc_blind, fun U hU hW => ⟨rfl, by rw [hU], by rw [hU]; exact hP, va_K.moved hW.alike hK⟩⟩ rfl hn hsize hst (lv_room hW) hdg hf) hS (fun q _ h => AW.mono hS.1 h) (fun q h => AW.mono hS.1 h) (fun r u t H1 locs1 ht _ hw hB _ _ hS1 => ?_)
  exact kk r u H1 locs1 hw (by rw [← ht]; exact hB.1) hS1
/-! returns -/
theorem rtI {K : Int32 → St → Prop} (F : CallFix p m c cc nL s args Ts own) (hr : meth.sig.returnType = some .int) (hlocks : meth.locks = false) (hK : va_K D vwCl tys s) {r : Int32} {u : St} (hw : K r u) (hP : va_P D vwCl (w u) H) (hS : va_S (AW ad N s.heap.size) s.heap H locs) (hdg : decode cc pc = .ok (.ireturn, 1)) :
    W p l e R s m args below meth c H locs 0 0 (MQ below (va_Qi K (inW D w tys) (AW ad N s.heap.size)) args s 0 0 (AW ad N s.heap.size)) (F0 m pc ls [.int r]) :=
  W.iret (v := r) F.1 F.2.1 hr (fun t ht hW => ⟨⟨r, u, rfl, hw, by rw [ht]; exact hP, va_K.moved hW.alike hK⟩, hS.F ht⟩) hS.2.2 hdg hlocks
theorem rtZ {K : Int32 → St → Prop} (F : CallFix p m c cc nL s args Ts own) (hr : meth.sig.returnType = some .boolean) (hlocks : meth.locks = false) (hK : va_K D vwCl tys s) {r : Int32} {u : St} (hw : K r u) (hz : zb r) (hP : va_P D vwCl (w u) H) (hS : va_S (AW ad N s.heap.size) s.heap H locs) (hdg : decode cc pc = .ok (.ireturn, 1)) :
    W p l e R s m args below meth c H locs 0 0 (MQ below (va_Qi (fun r u => zb r ∧ K r u) (inW D w tys) (AW ad N s.heap.size)) args s 0 0 (AW ad N s.heap.size)) (F0 m pc ls [.int r]) :=
  W.zret (v := r) F.1 F.2.1 hr (zb_nar hz) (fun t ht hW => ⟨⟨r, u, rfl, ⟨hz, hw⟩, by rw [ht]; exact hP, va_K.moved hW.alike hK⟩, hS.F ht⟩) hS.2.2 hdg hlocks
theorem rtL {K : Int64 → St → Prop} (F : CallFix p m c cc nL s args Ts own) (hr : meth.sig.returnType = some .long) (hlocks : meth.locks = false) (hK : va_K D vwCl tys s) {r : Int64} {u : St} (hw : K r u) (hP : va_P D vwCl (w u) H) (hS : va_S (AW ad N s.heap.size) s.heap H locs) (hdg : decode cc pc = .ok (.lreturn, 1)) :
    W p l e R s m args below meth c H locs 0 0 (MQ below (va_Ql K (inW D w tys) (AW ad N s.heap.size)) args s 0 0 (AW ad N s.heap.size)) (F0 m pc ls [.long r]) :=
  W.lret (v := r) F.1 F.2.1 hr (fun t ht hW => ⟨⟨r, u, rfl, hw, by rw [ht]; exact hP, va_K.moved hW.alike hK⟩, hS.F ht⟩) hS.2.2 hdg hlocks
theorem rtV {K : St → Prop} (F : CallFix p m c cc nL s args Ts own) (hr : meth.sig.returnType = none) (hlocks : meth.locks = false) (hK : va_K D vwCl tys s) {u : St} (hw : K u) (hP : va_P D vwCl (w u) H) (hS : va_S (AW ad N s.heap.size) s.heap H locs) (hdg : decode cc pc = .ok (.return_, 1)) :
    W p l e R s m args below meth c H locs 0 0 (MQ below (va_Qv K (inW D w tys) (AW ad N s.heap.size)) args s 0 0 (AW ad N s.heap.size)) (F0 m pc ls []) :=
  W.vret F.1 F.2.1 hr (fun t ht hW => ⟨⟨u, rfl, hw, by rw [ht]; exact hP, va_K.moved hW.alike hK⟩, hS.F ht⟩) hS.2.2 hdg hlocks
/-- a switch by a table, as a chain of tests: the place is 'at', its target 'tgt' -/
theorem sw_in {dflt lo hi : Int} {offs : Array Int} {len : Nat} {x : Int32} (v : Int32) {off : Int} {tgt : Nat} (F : CallFix p m c cc nL s args Ts own) (hdg : decode cc pc = .ok (.tableswitch dflt lo hi offs, len)) (hv : x = v) (h1 : ¬ v.toInt < lo) (h2 : ¬ hi < v.toInt) (ho : offs[(v.toInt - lo).toNat]? = some off) (ht : (pc : Int) + off = (tgt : Int))
    (k : W p l e R s m args below meth c H locs cells slots Q (F0 m tgt ls rest)) : W p l e R s m args below meth c H locs cells slots Q (F0 m pc ls (.int x :: rest)) := by
  subst hv
  exact lv_tableIn F.1 F.2.1 hdg h1 h2 ho ht k
end CALLS
theorem zb_fit {r : Int32} (h : zb r) : fits .boolean (.int r) = true := by
  rcases h with rfl | rfl <;> rfl
/-- the static row of the kinds' ports, as the start has it -/
def jPZ (ad : Nat → Nat) (N sz aP : Nat) (U : State) : Prop := va_Z "TokenFloor$Kind" "PORTS" "[I" (.ref aP) (AW ad N sz) U U.heap ∧ va_T .int aP 22 (fun j => .int (jports j)) (AW ad N sz) U U.heap
theorem jPZ_blind {ad : Nat → Nat} {N sz aP : Nat} (a : Array Value) (U : State) (g : JFrame) (mk : MethodId) (h : jPZ ad N sz aP U) : jPZ ad N sz aP (U.calling g mk a) :=
  ⟨va_Z.moved (u := U) (U := U.calling g mk a) (Vm.Alike.refl U.vm) h.1, va_T.moved (u := U) (U := U.calling g mk a) (Vm.Alike.refl U.vm) h.2⟩
theorem jPZ_at {ad : Nat → Nat} {N aP : Nat} {s : State} {H : Heap} {locs : List Loc} (h : jPZ ad N s.heap.size aP s) (hS : va_S (AW ad N s.heap.size) s.heap H locs) (U : State) (hU : U.heap = H) (hW : s.WarmedH U.vm) : jPZ ad N H.size aP U := by
  refine ⟨?_, ?_⟩
  · rw [hU]
    exact va_Z.moved hW.alike ((h.1.kept hS.2.1).narrow (fun q z => AW.mono hS.1 z))
  · rw [hU]
    exact va_T.moved hW.alike ((h.2.kept hS.2.1).narrow (fun q z => AW.mono hS.1 z))
theorem pc_blindX {av : List Value} {sz : Nat} {D : va_G} {w : St → va_W} {tys : List (ClassId × FieldType)} {σ : St} {X : State → Prop} (hXb : ∀ (a : Array Value) (U : State) (g : JFrame) (mk : MethodId), X U → X (U.calling g mk a)) : FrameBlind (va_Pc av (fun U => U.heap.size = sz ∧ inW D w tys σ U ∧ X U)) := by
  intro a U g mk q
  obtain ⟨q0, q1, ⟨qP, qK⟩, qX⟩ := q
  exact ⟨q0, q1, ⟨qP, va_K.moved (u := U) (U := U.calling g mk a) (Vm.Alike.refl U.vm) qK⟩, hXb a U g mk qX⟩
section CALLX
variable {p : Program} {l : Launch} {e : Env} {R : Room} {s : State} {m : MethodId} {args : Array Value} {below : List Frame} {meth : Method} {c : Code} {H : Heap} {locs : List Loc} {cells slots : Nat} {Q : State → Prop}
variable {y : MethodName} {bytes cc : ByteArray} {maxL nL n index pc : Nat} {ret : Option FieldType} {ws : List Cond} {rm : Room} {Ts : List Cond} {own C : String} {b : Addr} {As rest st : List Value} {ls : Array Slot}
variable {D : va_G} {w : St → va_W} {tys : List (ClassId × FieldType)} {ad : Nat → Nat} {N : Nat} {σ : St} {X : State → Prop}
theorem cvIX {K : Int32 → St → Prop} (hXb : ∀ (a : Array Value) (U : State) (g : JFrame) (mk : MethodId), X U → X (U.calling g mk a)) (hXa : ∀ U : State, U.heap = H → s.WarmedH U.vm → X U) (F : CallFix p m c cc nL s args Ts own) (hK : va_K D vwCl tys s) (hP : va_P D vwCl (w σ) H) (hS : va_S (AW ad N s.heap.size) s.heap H locs)
    (hM : Met l y ws rm (va_Pc (.ref b :: As) (fun U => U.heap.size = H.size ∧ inW D w tys σ U ∧ X U)) (va_Qi K (inW D w tys) (AW ad N H.size)) 0 0 (AW ad N H.size)) (cw : CallW R s args own C index y bytes maxL ret ws rm 0 0 n)
    (hrecv : ∃ cell : Cell, H[b]? = some cell ∧ cell.vm.isStatics = false ∧ s.vm.findClass C = some cell.cls) (hn : As.length = n) (hsize : ls.size = nL) (hst : st = As.reverse ++ .ref b :: rest) (hW : (rest.map fun v => v.category).sum ≤ 8) (hdg : decode cc pc = .ok (.invokevirtual index, 3)) (hf : cells ≤ R.cells ∧ slots ≤ R.slots)
    (kk : ∀ (r : Int32) (u : St) (H1 : Heap) (locs1 : List Loc), K r u → va_P D vwCl (w u) H1 → va_S (AW ad N s.heap.size) s.heap H1 locs1 → W p l e R s m args below meth c H1 locs1 cells slots Q (F0 m (pc + 3) ls (.int r :: rest))) : W p l e R s m args below meth c H locs cells slots Q (F0 m pc ls st) := by
  refine va_calli (va_runV (As := As) (rest := rest) F hM cw ⟨pc_blindX hXb, hrecv, fun U hU hW => ⟨rfl, by rw [hU], ⟨by rw [hU]; exact hP, va_K.moved hW.alike hK⟩, hXa U hU hW⟩⟩ rfl hn hsize hst (lv_room hW) hdg hf) hS (fun q _ h => AW.mono hS.1 h) (fun q h => AW.mono hS.1 h) (fun r u t H1 locs1 ht _ hw hB _ _ hS1 => ?_)
  exact kk r u H1 locs1 hw (by rw [← ht]; exact hB.1) hS1
theorem csIX {K : Int32 → St → Prop} (hXb : ∀ (a : Array Value) (U : State) (g : JFrame) (mk : MethodId), X U → X (U.calling g mk a)) (hXa : ∀ U : State, U.heap = H → s.WarmedH U.vm → X U) (F : CallFix p m c cc nL s args Ts own) (hK : va_K D vwCl tys s) (hP : va_P D vwCl (w σ) H) (hS : va_S (AW ad N s.heap.size) s.heap H locs)
    (hM : Met l y ws rm (va_Pc As (fun U => U.heap.size = H.size ∧ inW D w tys σ U ∧ X U)) (va_Qi K (inW D w tys) (AW ad N H.size)) 0 0 (AW ad N H.size)) (cw : CallB R s args own index y bytes maxL ret ws rm 0 0 n ∧ (Cond.static y).before args s = true)
    (hn : As.length = n) (hsize : ls.size = nL) (hst : st = As.reverse ++ rest) (hW : (rest.map fun v => v.category).sum ≤ 8) (hdg : decode cc pc = .ok (.invokestatic index, 3)) (hf : cells ≤ R.cells ∧ slots ≤ R.slots)
    (kk : ∀ (r : Int32) (u : St) (H1 : Heap) (locs1 : List Loc), K r u → va_P D vwCl (w u) H1 → va_S (AW ad N s.heap.size) s.heap H1 locs1 → W p l e R s m args below meth c H1 locs1 cells slots Q (F0 m (pc + 3) ls (.int r :: rest))) : W p l e R s m args below meth c H locs cells slots Q (F0 m pc ls st) := by
  refine va_calli (va_runS (As := As) (rest := rest) F hM cw ⟨pc_blindX hXb, fun U hU hW => ⟨rfl, by rw [hU], ⟨by rw [hU]; exact hP, va_K.moved hW.alike hK⟩, hXa U hU hW⟩⟩ rfl hn hsize hst (lv_room hW) hdg hf) hS (fun q _ h => AW.mono hS.1 h) (fun q h => AW.mono hS.1 h) (fun r u t H1 locs1 ht _ hw hB _ _ hS1 => ?_)
  exact kk r u H1 locs1 hw (by rw [← ht]; exact hB.1) hS1
end CALLX
def wdC (ad : Nat → Nat) (cI cJ : ClassId) (σ : St) : va_W := [
  (ad 0, .inr (6, [.ref (ad 1), .ref (ad 2), .ref (ad 7), .ref (ad 8), .int (gS σ 0)])),
  (ad 1, .inr (2, [.int (gS σ 1), .ref (ad 9), .ref (ad 10), .ref (ad 11), .ref (ad 12), .int (gS σ 2), .ref (ad 13), .ref (ad 14), .ref (ad 15), .ref (ad 16), .ref (ad 17), .int (gS σ 3), .ref (ad 18), .ref (ad 19), .ref (ad 20)])),
  (ad 2, .inr (3, [.ref (ad 3), .ref (ad 21), .ref (ad 22), .ref (ad 1), .ref (ad 4), .ref (ad 5), .ref (ad 6), .int (gS σ 4), .int (gS σ 5), .int (gS σ 6), .int (gS σ 7), .int (gS σ 8), .int (gS σ 9), .int (gS σ 10)])),
  (ad 3, .inr (5, [.int (gS σ 11), .ref (ad 23), .ref (ad 24), .int (gS σ 12), .int (gS σ 13), .ref (ad 25), .ref (ad 26), .ref (ad 27), .ref (ad 28), .ref (ad 29)])),
  (ad 4, .inr (0, [.int (gS σ 14), .ref (ad 30), .ref (ad 31), .ref (ad 32), .ref (ad 33), .ref (ad 34)])),
  (ad 5, .inr (1, [.int (gS σ 15), .ref (ad 35), .ref (ad 36), .int (gS σ 16), .ref (ad 37), .ref (ad 38), .ref (ad 39), .ref (ad 40)])),
  (ad 6, .inr (4, [.ref (ad 41), .int (gS σ 17), .int (gS σ 18)])),
  (ad 7, .inl (cJ, 100, .inr (.inl (gL σ 0)))),
  (ad 8, .inl (cJ, 100, .inr (.inl (gL σ 1)))),
  (ad 9, .inl (cI, 80, .inl (gA σ 0))),
  (ad 10, .inl (cI, 80, .inl (gA σ 1))),
  (ad 11, .inl (cI, 80, .inl (gA σ 2))),
  (ad 12, .inl (cI, 100, .inl (gA σ 3))),
  (ad 13, .inl (cI, 300, .inl (gA σ 4))),
  (ad 14, .inl (cI, 300, .inl (gA σ 5))),
  (ad 15, .inl (cI, 300, .inl (gA σ 6))),
  (ad 16, .inl (cI, 160, .inl (gA σ 7))),
  (ad 17, .inl (cI, 160, .inl (gA σ 8))),
  (ad 18, .inl (cI, 40, .inl (gA σ 9))),
  (ad 19, .inl (cI, 40, .inl (gA σ 10))),
  (ad 20, .inl (cI, 40, .inl (gA σ 11))),
  (ad 21, .inl (cI, 80, .inl (gA σ 12))),
  (ad 22, .inl (cJ, 10, .inr (.inl (gL σ 2)))),
  (ad 23, .inl (cI, 80, .inl (gA σ 13))),
  (ad 24, .inl (cJ, 2000, .inr (.inl (gL σ 3)))),
  (ad 25, .inl (cI, 300, .inl (gA σ 14))),
  (ad 26, .inl (cI, 300, .inl (gA σ 15))),
  (ad 27, .inl (cI, 2000, .inl (gA σ 16))),
  (ad 28, .inl (cI, 2000, .inl (gA σ 17))),
  (ad 29, .inl (cI, 3000, .inl (gA σ 18))),
  (ad 30, .inl (cI, 600, .inl (gA σ 19))),
  (ad 31, .inl (cI, 600, .inl (gA σ 20))),
  (ad 32, .inl (cI, 600, .inl (gA σ 21))),
  (ad 33, .inl (cI, 600, .inl (gA σ 22))),
  (ad 34, .inl (cI, 600, .inl (gA σ 23))),
  (ad 35, .inl (cI, 3000, .inl (gA σ 24))),
  (ad 36, .inl (cI, 3000, .inl (gA σ 25))),
  (ad 37, .inl (cI, 3000, .inl (gA σ 26))),
  (ad 38, .inl (cJ, 9000, .inr (.inl (gL σ 4)))),
  (ad 39, .inl (cI, 600, .inl (gA σ 27))),
  (ad 40, .inl (cI, 3000, .inl (gA σ 28))),
  (ad 41, .inl (cI, 3000, .inl (gA σ 29)))]
set_option maxRecDepth 100000 in
theorem wdC_D {ad : Nat → Nat} {cI cJ : ClassId} {sz : Nat} (hap : apart ad 42) (σ : St) : va_D (AW ad 42 sz) (wdC ad cI cJ σ) := va_D_of hap rfl
def wdM (ad : Nat → Nat) (cI : ClassId) (σ : St) : va_W := [
  (ad 0, .inr (7, [.ref (ad 1), .ref (ad 2), .ref (ad 3), .ref (ad 4), .ref (ad 5), .ref (ad 6), .ref (ad 7), .ref (ad 8), .ref (ad 9), .ref (ad 10), .int (gS σ 0), .int (gS σ 1), .int (gS σ 2), .int (gS σ 3), .int (gS σ 4), .int (gS σ 5), .int (gS σ 6), .int (gS σ 7), .int (gS σ 8), .int (gS σ 9), .int (gS σ 10), .int (gS σ 11), .ref (ad 11), .ref (ad 12), .ref (ad 13), .ref (ad 14), .int (gS σ 12), .ref (ad 15), .ref (ad 16), .ref (ad 17), .ref (ad 18), .ref (ad 19), .ref (ad 20), .ref (ad 21), .ref (ad 22), .ref (ad 23), .ref (ad 24), .int (gS σ 13), .ref (ad 25), .int (gS σ 14), .ref (ad 26), .ref (ad 27), .ref (ad 28), .ref (ad 29), .ref (ad 30), .ref (ad 31), .ref (ad 32), .int (gS σ 15), .int (gS σ 16), .ref (ad 33), .ref (ad 34), .int (gS σ 17), .ref (ad 35), .ref (ad 36), .ref (ad 37), .ref (ad 38), .ref (ad 39)])),
  (ad 1, .inl (cI, 80, .inl (gA σ 0))),
  (ad 2, .inl (cI, 80, .inl (gA σ 1))),
  (ad 3, .inl (cI, 80, .inl (gA σ 2))),
  (ad 4, .inl (cI, 300, .inl (gA σ 3))),
  (ad 5, .inl (cI, 300, .inl (gA σ 4))),
  (ad 6, .inl (cI, 300, .inl (gA σ 5))),
  (ad 7, .inl (cI, 300, .inl (gA σ 6))),
  (ad 8, .inl (cI, 40, .inl (gA σ 7))),
  (ad 9, .inl (cI, 40, .inl (gA σ 8))),
  (ad 10, .inl (cI, 40, .inl (gA σ 9))),
  (ad 11, .inl (cI, 600, .inl (gA σ 10))),
  (ad 12, .inl (cI, 600, .inl (gA σ 11))),
  (ad 13, .inl (cI, 600, .inl (gA σ 12))),
  (ad 14, .inl (cI, 600, .inl (gA σ 13))),
  (ad 15, .inl (cI, 3000, .inl (gA σ 14))),
  (ad 16, .inl (cI, 3000, .inl (gA σ 15))),
  (ad 17, .inl (cI, 3000, .inl (gA σ 16))),
  (ad 18, .inl (cI, 3000, .inl (gA σ 17))),
  (ad 19, .inl (cI, 3000, .inl (gA σ 18))),
  (ad 20, .inl (cI, 9000, .inl (gA σ 19))),
  (ad 21, .inl (cI, 9000, .inl (gA σ 20))),
  (ad 22, .inl (cI, 9000, .inl (gA σ 21))),
  (ad 23, .inl (cI, 80, .inl (gA σ 22))),
  (ad 24, .inl (cI, 80, .inl (gA σ 23))),
  (ad 25, .inl (cI, 3000, .inl (gA σ 24))),
  (ad 26, .inl (cI, 300, .inl (gA σ 25))),
  (ad 27, .inl (cI, 300, .inl (gA σ 26))),
  (ad 28, .inl (cI, 300, .inl (gA σ 27))),
  (ad 29, .inl (cI, 300, .inl (gA σ 28))),
  (ad 30, .inl (cI, 2000, .inl (gA σ 29))),
  (ad 31, .inl (cI, 2000, .inl (gA σ 30))),
  (ad 32, .inl (cI, 2000, .inl (gA σ 31))),
  (ad 33, .inl (cI, 3000, .inl (gA σ 32))),
  (ad 34, .inl (cI, 3000, .inl (gA σ 33))),
  (ad 35, .inl (cI, 10, .inl (gA σ 34))),
  (ad 36, .inl (cI, 10, .inl (gA σ 35))),
  (ad 37, .inl (cI, 10, .inl (gA σ 36))),
  (ad 38, .inl (cI, 116, .inl (gA σ 37))),
  (ad 39, .inl (cI, 116, .inl (gA σ 38)))]
set_option maxRecDepth 100000 in
theorem wdM_D {ad : Nat → Nat} {cI : ClassId} {sz : Nat} (hap : apart ad 40) (σ : St) : va_D (AW ad 40 sz) (wdM ad cI σ) := va_D_of hap rfl
end
section
section ROWSC
variable {p : Program} {l : Launch} {e : Env} {R : Room} {s : State} {m : MethodId} {args : Array Value} {below : List Frame} {meth : Method} {c : Code} {H : Heap} {locs : List Loc} {cells slots : Nat} {Q : State → Prop}
variable {cc : ByteArray} {nL index pc : Nat} {Ts : List Cond} {own : String} {rest : List Value} {ls : Array Slot} {D : va_G} {ad : Nat → Nat} {cI cJ : ClassId} {σ : St} {A : Nat → Prop}
set_option maxRecDepth 100000 in
theorem gC_X9_graph (F : CallFix p m c cc nL s args Ts own) (hK : va_K D vwCl [(cI, .int), (cJ, .long)] s) (hin : ∀ w ∈ u_ws RX9 TX9 5, w ∈ Ts) (hP : va_P D vwCl ((wdC ad cI cJ) σ) H) (hlink : (Cond.fieldLink own index "TokenFloor" "graph" "LTokenFloor$Graph;").before args s = true) (hdg : decode cc pc = .ok (.getfield index, 3)) (kk : W p l e R s m args below meth c H locs cells slots Q (F0 m (pc + 3) ls (.ref (ad 1) :: rest))) : W p l e R s m args below meth c H locs cells slots Q (F0 m pc ls (.ref (ad 0) :: rest)) :=
  va_get (D := D) (ci := 6) (v := .ref (ad 1)) (C := RX9) (T := TX9) (N := 5) F.1 F.2.1 F.2.2.2.2 hin F.2.2.2.1 hK hP 0 rfl rfl 0 (by decide) hlink (fun _ h => h) rfl hdg kk
set_option maxRecDepth 100000 in
theorem gC_X9_machine (F : CallFix p m c cc nL s args Ts own) (hK : va_K D vwCl [(cI, .int), (cJ, .long)] s) (hin : ∀ w ∈ u_ws RX9 TX9 5, w ∈ Ts) (hP : va_P D vwCl ((wdC ad cI cJ) σ) H) (hlink : (Cond.fieldLink own index "TokenFloor" "machine" "LTokenFloor$Machine;").before args s = true) (hdg : decode cc pc = .ok (.getfield index, 3)) (kk : W p l e R s m args below meth c H locs cells slots Q (F0 m (pc + 3) ls (.ref (ad 2) :: rest))) : W p l e R s m args below meth c H locs cells slots Q (F0 m pc ls (.ref (ad 0) :: rest)) :=
  va_get (D := D) (ci := 6) (v := .ref (ad 2)) (C := RX9) (T := TX9) (N := 5) F.1 F.2.1 F.2.2.2.2 hin F.2.2.2.1 hK hP 0 rfl rfl 1 (by decide) hlink (fun _ h => h) rfl hdg kk
set_option maxRecDepth 100000 in
theorem gC_X9_figuresA (F : CallFix p m c cc nL s args Ts own) (hK : va_K D vwCl [(cI, .int), (cJ, .long)] s) (hin : ∀ w ∈ u_ws RX9 TX9 5, w ∈ Ts) (hP : va_P D vwCl ((wdC ad cI cJ) σ) H) (hlink : (Cond.fieldLink own index "TokenFloor" "figuresA" "[J").before args s = true) (hdg : decode cc pc = .ok (.getfield index, 3)) (kk : W p l e R s m args below meth c H locs cells slots Q (F0 m (pc + 3) ls (.ref (ad 7) :: rest))) : W p l e R s m args below meth c H locs cells slots Q (F0 m pc ls (.ref (ad 0) :: rest)) :=
  va_get (D := D) (ci := 6) (v := .ref (ad 7)) (C := RX9) (T := TX9) (N := 5) F.1 F.2.1 F.2.2.2.2 hin F.2.2.2.1 hK hP 0 rfl rfl 2 (by decide) hlink (fun _ h => h) rfl hdg kk
set_option maxRecDepth 100000 in
theorem gC_X9_figuresB (F : CallFix p m c cc nL s args Ts own) (hK : va_K D vwCl [(cI, .int), (cJ, .long)] s) (hin : ∀ w ∈ u_ws RX9 TX9 5, w ∈ Ts) (hP : va_P D vwCl ((wdC ad cI cJ) σ) H) (hlink : (Cond.fieldLink own index "TokenFloor" "figuresB" "[J").before args s = true) (hdg : decode cc pc = .ok (.getfield index, 3)) (kk : W p l e R s m args below meth c H locs cells slots Q (F0 m (pc + 3) ls (.ref (ad 8) :: rest))) : W p l e R s m args below meth c H locs cells slots Q (F0 m pc ls (.ref (ad 0) :: rest)) :=
  va_get (D := D) (ci := 6) (v := .ref (ad 8)) (C := RX9) (T := TX9) (N := 5) F.1 F.2.1 F.2.2.2.2 hin F.2.2.2.1 hK hP 0 rfl rfl 3 (by decide) hlink (fun _ h => h) rfl hdg kk
set_option maxRecDepth 100000 in
theorem gC_X9_hasRun (F : CallFix p m c cc nL s args Ts own) (hK : va_K D vwCl [(cI, .int), (cJ, .long)] s) (hin : ∀ w ∈ u_ws RX9 TX9 5, w ∈ Ts) (hP : va_P D vwCl ((wdC ad cI cJ) σ) H) (hlink : (Cond.fieldLink own index "TokenFloor" "hasRun" "Z").before args s = true) (hdg : decode cc pc = .ok (.getfield index, 3)) (kk : W p l e R s m args below meth c H locs cells slots Q (F0 m (pc + 3) ls (.int (gS σ 0) :: rest))) : W p l e R s m args below meth c H locs cells slots Q (F0 m pc ls (.ref (ad 0) :: rest)) :=
  va_get (D := D) (ci := 6) (v := .int (gS σ 0)) (C := RX9) (T := TX9) (N := 5) F.1 F.2.1 F.2.2.2.2 hin F.2.2.2.1 hK hP 0 rfl rfl 4 (by decide) hlink (fun _ h => h) rfl hdg kk
set_option maxRecDepth 100000 in
set_option maxHeartbeats 4000000 in
theorem pC_X9_hasRun (F : CallFix p m c cc nL s args Ts own) (hK : va_K D vwCl [(cI, .int), (cJ, .long)] s) (hin : ∀ w ∈ u_ws RX9 TX9 5, w ∈ Ts) (hP : va_P D vwCl ((wdC ad cI cJ) σ) H) (hDs : ∀ σ, va_D A ((wdC ad cI cJ) σ)) (hS : va_S A s.heap H locs) (hlink : (Cond.fieldLink own index "TokenFloor" "hasRun" "Z").before args s = true) (hdg : decode cc pc = .ok (.putfield index, 3)) {v : Int32} (hz : zb v) (kk : ∀ (H1 : Heap) (locs1 : List Loc), va_P D vwCl ((wdC ad cI cJ) (sS σ 0 v)) H1 → va_S A s.heap H1 locs1 → W p l e R s m args below meth c H1 locs1 cells slots Q (F0 m (pc + 3) ls rest)) : W p l e R s m args below meth c H locs cells slots Q (F0 m pc ls (.int v :: .ref (ad 0) :: rest)) :=
  va_put (D := D) (ci := 6) (v := .int v) (ty := .boolean) (C := RX9) (T := TX9) (N := 5) F.1 F.2.1 F.2.2.2.2 hin tyX9 tyX9_ok nmX9 F.2.2.2.1 hK hP (hDs σ) hS 0 rfl rfl 4 (by decide) hlink (fun _ h => h) rfl (by decide +kernel) (zb_nar hz) (zb_fit hz) (Nat.le_of_ble_eq_true rfl) hdg (fun H1 locs1 hP _ hS => kk H1 locs1 hP hS)
set_option maxRecDepth 100000 in
theorem gC_X2_acts (F : CallFix p m c cc nL s args Ts own) (hK : va_K D vwCl [(cI, .int), (cJ, .long)] s) (hin : ∀ w ∈ u_ws RX2 TX2 15, w ∈ Ts) (hP : va_P D vwCl ((wdC ad cI cJ) σ) H) (hlink : (Cond.fieldLink own index "TokenFloor$Graph" "acts" "I").before args s = true) (hdg : decode cc pc = .ok (.getfield index, 3)) (kk : W p l e R s m args below meth c H locs cells slots Q (F0 m (pc + 3) ls (.int (gS σ 1) :: rest))) : W p l e R s m args below meth c H locs cells slots Q (F0 m pc ls (.ref (ad 1) :: rest)) :=
  va_get (D := D) (ci := 2) (v := .int (gS σ 1)) (C := RX2) (T := TX2) (N := 15) F.1 F.2.1 F.2.2.2.2 hin F.2.2.2.1 hK hP 1 rfl rfl 0 (by decide) hlink (fun _ h => h) rfl hdg kk
set_option maxRecDepth 100000 in
set_option maxHeartbeats 4000000 in
theorem pC_X2_acts (F : CallFix p m c cc nL s args Ts own) (hK : va_K D vwCl [(cI, .int), (cJ, .long)] s) (hin : ∀ w ∈ u_ws RX2 TX2 15, w ∈ Ts) (hP : va_P D vwCl ((wdC ad cI cJ) σ) H) (hDs : ∀ σ, va_D A ((wdC ad cI cJ) σ)) (hS : va_S A s.heap H locs) (hlink : (Cond.fieldLink own index "TokenFloor$Graph" "acts" "I").before args s = true) (hdg : decode cc pc = .ok (.putfield index, 3)) {v : Int32} (kk : ∀ (H1 : Heap) (locs1 : List Loc), va_P D vwCl ((wdC ad cI cJ) (sS σ 1 v)) H1 → va_S A s.heap H1 locs1 → W p l e R s m args below meth c H1 locs1 cells slots Q (F0 m (pc + 3) ls rest)) : W p l e R s m args below meth c H locs cells slots Q (F0 m pc ls (.int v :: .ref (ad 1) :: rest)) :=
  va_put (D := D) (ci := 2) (v := .int v) (ty := .int) (C := RX2) (T := TX2) (N := 15) F.1 F.2.1 F.2.2.2.2 hin tyX2 tyX2_ok nmX2 F.2.2.2.1 hK hP (hDs σ) hS 1 rfl rfl 0 (by decide) hlink (fun _ h => h) rfl (by decide +kernel) rfl rfl (Nat.le_of_ble_eq_true rfl) hdg (fun H1 locs1 hP _ hS => kk H1 locs1 hP hS)
set_option maxRecDepth 100000 in
theorem gC_X2_kind (F : CallFix p m c cc nL s args Ts own) (hK : va_K D vwCl [(cI, .int), (cJ, .long)] s) (hin : ∀ w ∈ u_ws RX2 TX2 15, w ∈ Ts) (hP : va_P D vwCl ((wdC ad cI cJ) σ) H) (hlink : (Cond.fieldLink own index "TokenFloor$Graph" "kind" "[I").before args s = true) (hdg : decode cc pc = .ok (.getfield index, 3)) (kk : W p l e R s m args below meth c H locs cells slots Q (F0 m (pc + 3) ls (.ref (ad 9) :: rest))) : W p l e R s m args below meth c H locs cells slots Q (F0 m pc ls (.ref (ad 1) :: rest)) :=
  va_get (D := D) (ci := 2) (v := .ref (ad 9)) (C := RX2) (T := TX2) (N := 15) F.1 F.2.1 F.2.2.2.2 hin F.2.2.2.1 hK hP 1 rfl rfl 1 (by decide) hlink (fun _ h => h) rfl hdg kk
set_option maxRecDepth 100000 in
theorem gC_X2_number (F : CallFix p m c cc nL s args Ts own) (hK : va_K D vwCl [(cI, .int), (cJ, .long)] s) (hin : ∀ w ∈ u_ws RX2 TX2 15, w ∈ Ts) (hP : va_P D vwCl ((wdC ad cI cJ) σ) H) (hlink : (Cond.fieldLink own index "TokenFloor$Graph" "number" "[I").before args s = true) (hdg : decode cc pc = .ok (.getfield index, 3)) (kk : W p l e R s m args below meth c H locs cells slots Q (F0 m (pc + 3) ls (.ref (ad 10) :: rest))) : W p l e R s m args below meth c H locs cells slots Q (F0 m pc ls (.ref (ad 1) :: rest)) :=
  va_get (D := D) (ci := 2) (v := .ref (ad 10)) (C := RX2) (T := TX2) (N := 15) F.1 F.2.1 F.2.2.2.2 hin F.2.2.2.1 hK hP 1 rfl rfl 2 (by decide) hlink (fun _ h => h) rfl hdg kk
set_option maxRecDepth 100000 in
theorem gC_X2_ports (F : CallFix p m c cc nL s args Ts own) (hK : va_K D vwCl [(cI, .int), (cJ, .long)] s) (hin : ∀ w ∈ u_ws RX2 TX2 15, w ∈ Ts) (hP : va_P D vwCl ((wdC ad cI cJ) σ) H) (hlink : (Cond.fieldLink own index "TokenFloor$Graph" "ports" "[I").before args s = true) (hdg : decode cc pc = .ok (.getfield index, 3)) (kk : W p l e R s m args below meth c H locs cells slots Q (F0 m (pc + 3) ls (.ref (ad 11) :: rest))) : W p l e R s m args below meth c H locs cells slots Q (F0 m pc ls (.ref (ad 1) :: rest)) :=
  va_get (D := D) (ci := 2) (v := .ref (ad 11)) (C := RX2) (T := TX2) (N := 15) F.1 F.2.1 F.2.2.2.2 hin F.2.2.2.1 hK hP 1 rfl rfl 3 (by decide) hlink (fun _ h => h) rfl hdg kk
set_option maxRecDepth 100000 in
theorem gC_X2_parameter (F : CallFix p m c cc nL s args Ts own) (hK : va_K D vwCl [(cI, .int), (cJ, .long)] s) (hin : ∀ w ∈ u_ws RX2 TX2 15, w ∈ Ts) (hP : va_P D vwCl ((wdC ad cI cJ) σ) H) (hlink : (Cond.fieldLink own index "TokenFloor$Graph" "parameter" "[I").before args s = true) (hdg : decode cc pc = .ok (.getfield index, 3)) (kk : W p l e R s m args below meth c H locs cells slots Q (F0 m (pc + 3) ls (.ref (ad 12) :: rest))) : W p l e R s m args below meth c H locs cells slots Q (F0 m pc ls (.ref (ad 1) :: rest)) :=
  va_get (D := D) (ci := 2) (v := .ref (ad 12)) (C := RX2) (T := TX2) (N := 15) F.1 F.2.1 F.2.2.2.2 hin F.2.2.2.1 hK hP 1 rfl rfl 4 (by decide) hlink (fun _ h => h) rfl hdg kk
set_option maxRecDepth 100000 in
theorem gC_X2_ways (F : CallFix p m c cc nL s args Ts own) (hK : va_K D vwCl [(cI, .int), (cJ, .long)] s) (hin : ∀ w ∈ u_ws RX2 TX2 15, w ∈ Ts) (hP : va_P D vwCl ((wdC ad cI cJ) σ) H) (hlink : (Cond.fieldLink own index "TokenFloor$Graph" "ways" "I").before args s = true) (hdg : decode cc pc = .ok (.getfield index, 3)) (kk : W p l e R s m args below meth c H locs cells slots Q (F0 m (pc + 3) ls (.int (gS σ 2) :: rest))) : W p l e R s m args below meth c H locs cells slots Q (F0 m pc ls (.ref (ad 1) :: rest)) :=
  va_get (D := D) (ci := 2) (v := .int (gS σ 2)) (C := RX2) (T := TX2) (N := 15) F.1 F.2.1 F.2.2.2.2 hin F.2.2.2.1 hK hP 1 rfl rfl 5 (by decide) hlink (fun _ h => h) rfl hdg kk
set_option maxRecDepth 100000 in
set_option maxHeartbeats 4000000 in
theorem pC_X2_ways (F : CallFix p m c cc nL s args Ts own) (hK : va_K D vwCl [(cI, .int), (cJ, .long)] s) (hin : ∀ w ∈ u_ws RX2 TX2 15, w ∈ Ts) (hP : va_P D vwCl ((wdC ad cI cJ) σ) H) (hDs : ∀ σ, va_D A ((wdC ad cI cJ) σ)) (hS : va_S A s.heap H locs) (hlink : (Cond.fieldLink own index "TokenFloor$Graph" "ways" "I").before args s = true) (hdg : decode cc pc = .ok (.putfield index, 3)) {v : Int32} (kk : ∀ (H1 : Heap) (locs1 : List Loc), va_P D vwCl ((wdC ad cI cJ) (sS σ 2 v)) H1 → va_S A s.heap H1 locs1 → W p l e R s m args below meth c H1 locs1 cells slots Q (F0 m (pc + 3) ls rest)) : W p l e R s m args below meth c H locs cells slots Q (F0 m pc ls (.int v :: .ref (ad 1) :: rest)) :=
  va_put (D := D) (ci := 2) (v := .int v) (ty := .int) (C := RX2) (T := TX2) (N := 15) F.1 F.2.1 F.2.2.2.2 hin tyX2 tyX2_ok nmX2 F.2.2.2.1 hK hP (hDs σ) hS 1 rfl rfl 5 (by decide) hlink (fun _ h => h) rfl (by decide +kernel) rfl rfl (Nat.le_of_ble_eq_true rfl) hdg (fun H1 locs1 hP _ hS => kk H1 locs1 hP hS)
set_option maxRecDepth 100000 in
theorem gC_X2_wayTo (F : CallFix p m c cc nL s args Ts own) (hK : va_K D vwCl [(cI, .int), (cJ, .long)] s) (hin : ∀ w ∈ u_ws RX2 TX2 15, w ∈ Ts) (hP : va_P D vwCl ((wdC ad cI cJ) σ) H) (hlink : (Cond.fieldLink own index "TokenFloor$Graph" "wayTo" "[I").before args s = true) (hdg : decode cc pc = .ok (.getfield index, 3)) (kk : W p l e R s m args below meth c H locs cells slots Q (F0 m (pc + 3) ls (.ref (ad 13) :: rest))) : W p l e R s m args below meth c H locs cells slots Q (F0 m pc ls (.ref (ad 1) :: rest)) :=
  va_get (D := D) (ci := 2) (v := .ref (ad 13)) (C := RX2) (T := TX2) (N := 15) F.1 F.2.1 F.2.2.2.2 hin F.2.2.2.1 hK hP 1 rfl rfl 6 (by decide) hlink (fun _ h => h) rfl hdg kk
set_option maxRecDepth 100000 in
theorem gC_X2_wayPort (F : CallFix p m c cc nL s args Ts own) (hK : va_K D vwCl [(cI, .int), (cJ, .long)] s) (hin : ∀ w ∈ u_ws RX2 TX2 15, w ∈ Ts) (hP : va_P D vwCl ((wdC ad cI cJ) σ) H) (hlink : (Cond.fieldLink own index "TokenFloor$Graph" "wayPort" "[I").before args s = true) (hdg : decode cc pc = .ok (.getfield index, 3)) (kk : W p l e R s m args below meth c H locs cells slots Q (F0 m (pc + 3) ls (.ref (ad 14) :: rest))) : W p l e R s m args below meth c H locs cells slots Q (F0 m pc ls (.ref (ad 1) :: rest)) :=
  va_get (D := D) (ci := 2) (v := .ref (ad 14)) (C := RX2) (T := TX2) (N := 15) F.1 F.2.1 F.2.2.2.2 hin F.2.2.2.1 hK hP 1 rfl rfl 7 (by decide) hlink (fun _ h => h) rfl hdg kk
set_option maxRecDepth 100000 in
theorem gC_X2_nextWay (F : CallFix p m c cc nL s args Ts own) (hK : va_K D vwCl [(cI, .int), (cJ, .long)] s) (hin : ∀ w ∈ u_ws RX2 TX2 15, w ∈ Ts) (hP : va_P D vwCl ((wdC ad cI cJ) σ) H) (hlink : (Cond.fieldLink own index "TokenFloor$Graph" "nextWay" "[I").before args s = true) (hdg : decode cc pc = .ok (.getfield index, 3)) (kk : W p l e R s m args below meth c H locs cells slots Q (F0 m (pc + 3) ls (.ref (ad 15) :: rest))) : W p l e R s m args below meth c H locs cells slots Q (F0 m pc ls (.ref (ad 1) :: rest)) :=
  va_get (D := D) (ci := 2) (v := .ref (ad 15)) (C := RX2) (T := TX2) (N := 15) F.1 F.2.1 F.2.2.2.2 hin F.2.2.2.1 hK hP 1 rfl rfl 8 (by decide) hlink (fun _ h => h) rfl hdg kk
set_option maxRecDepth 100000 in
theorem gC_X2_firstWay (F : CallFix p m c cc nL s args Ts own) (hK : va_K D vwCl [(cI, .int), (cJ, .long)] s) (hin : ∀ w ∈ u_ws RX2 TX2 15, w ∈ Ts) (hP : va_P D vwCl ((wdC ad cI cJ) σ) H) (hlink : (Cond.fieldLink own index "TokenFloor$Graph" "firstWay" "[I").before args s = true) (hdg : decode cc pc = .ok (.getfield index, 3)) (kk : W p l e R s m args below meth c H locs cells slots Q (F0 m (pc + 3) ls (.ref (ad 16) :: rest))) : W p l e R s m args below meth c H locs cells slots Q (F0 m pc ls (.ref (ad 1) :: rest)) :=
  va_get (D := D) (ci := 2) (v := .ref (ad 16)) (C := RX2) (T := TX2) (N := 15) F.1 F.2.1 F.2.2.2.2 hin F.2.2.2.1 hK hP 1 rfl rfl 9 (by decide) hlink (fun _ h => h) rfl hdg kk
set_option maxRecDepth 100000 in
theorem gC_X2_lastWay (F : CallFix p m c cc nL s args Ts own) (hK : va_K D vwCl [(cI, .int), (cJ, .long)] s) (hin : ∀ w ∈ u_ws RX2 TX2 15, w ∈ Ts) (hP : va_P D vwCl ((wdC ad cI cJ) σ) H) (hlink : (Cond.fieldLink own index "TokenFloor$Graph" "lastWay" "[I").before args s = true) (hdg : decode cc pc = .ok (.getfield index, 3)) (kk : W p l e R s m args below meth c H locs cells slots Q (F0 m (pc + 3) ls (.ref (ad 17) :: rest))) : W p l e R s m args below meth c H locs cells slots Q (F0 m pc ls (.ref (ad 1) :: rest)) :=
  va_get (D := D) (ci := 2) (v := .ref (ad 17)) (C := RX2) (T := TX2) (N := 15) F.1 F.2.1 F.2.2.2.2 hin F.2.2.2.1 hK hP 1 rfl rfl 10 (by decide) hlink (fun _ h => h) rfl hdg kk
set_option maxRecDepth 100000 in
theorem gC_X2_tokens (F : CallFix p m c cc nL s args Ts own) (hK : va_K D vwCl [(cI, .int), (cJ, .long)] s) (hin : ∀ w ∈ u_ws RX2 TX2 15, w ∈ Ts) (hP : va_P D vwCl ((wdC ad cI cJ) σ) H) (hlink : (Cond.fieldLink own index "TokenFloor$Graph" "tokens" "I").before args s = true) (hdg : decode cc pc = .ok (.getfield index, 3)) (kk : W p l e R s m args below meth c H locs cells slots Q (F0 m (pc + 3) ls (.int (gS σ 3) :: rest))) : W p l e R s m args below meth c H locs cells slots Q (F0 m pc ls (.ref (ad 1) :: rest)) :=
  va_get (D := D) (ci := 2) (v := .int (gS σ 3)) (C := RX2) (T := TX2) (N := 15) F.1 F.2.1 F.2.2.2.2 hin F.2.2.2.1 hK hP 1 rfl rfl 11 (by decide) hlink (fun _ h => h) rfl hdg kk
set_option maxRecDepth 100000 in
set_option maxHeartbeats 4000000 in
theorem pC_X2_tokens (F : CallFix p m c cc nL s args Ts own) (hK : va_K D vwCl [(cI, .int), (cJ, .long)] s) (hin : ∀ w ∈ u_ws RX2 TX2 15, w ∈ Ts) (hP : va_P D vwCl ((wdC ad cI cJ) σ) H) (hDs : ∀ σ, va_D A ((wdC ad cI cJ) σ)) (hS : va_S A s.heap H locs) (hlink : (Cond.fieldLink own index "TokenFloor$Graph" "tokens" "I").before args s = true) (hdg : decode cc pc = .ok (.putfield index, 3)) {v : Int32} (kk : ∀ (H1 : Heap) (locs1 : List Loc), va_P D vwCl ((wdC ad cI cJ) (sS σ 3 v)) H1 → va_S A s.heap H1 locs1 → W p l e R s m args below meth c H1 locs1 cells slots Q (F0 m (pc + 3) ls rest)) : W p l e R s m args below meth c H locs cells slots Q (F0 m pc ls (.int v :: .ref (ad 1) :: rest)) :=
  va_put (D := D) (ci := 2) (v := .int v) (ty := .int) (C := RX2) (T := TX2) (N := 15) F.1 F.2.1 F.2.2.2.2 hin tyX2 tyX2_ok nmX2 F.2.2.2.1 hK hP (hDs σ) hS 1 rfl rfl 11 (by decide) hlink (fun _ h => h) rfl (by decide +kernel) rfl rfl (Nat.le_of_ble_eq_true rfl) hdg (fun H1 locs1 hP _ hS => kk H1 locs1 hP hS)
set_option maxRecDepth 100000 in
theorem gC_X2_tokenAct (F : CallFix p m c cc nL s args Ts own) (hK : va_K D vwCl [(cI, .int), (cJ, .long)] s) (hin : ∀ w ∈ u_ws RX2 TX2 15, w ∈ Ts) (hP : va_P D vwCl ((wdC ad cI cJ) σ) H) (hlink : (Cond.fieldLink own index "TokenFloor$Graph" "tokenAct" "[I").before args s = true) (hdg : decode cc pc = .ok (.getfield index, 3)) (kk : W p l e R s m args below meth c H locs cells slots Q (F0 m (pc + 3) ls (.ref (ad 18) :: rest))) : W p l e R s m args below meth c H locs cells slots Q (F0 m pc ls (.ref (ad 1) :: rest)) :=
  va_get (D := D) (ci := 2) (v := .ref (ad 18)) (C := RX2) (T := TX2) (N := 15) F.1 F.2.1 F.2.2.2.2 hin F.2.2.2.1 hK hP 1 rfl rfl 12 (by decide) hlink (fun _ h => h) rfl hdg kk
set_option maxRecDepth 100000 in
theorem gC_X2_tokenPort (F : CallFix p m c cc nL s args Ts own) (hK : va_K D vwCl [(cI, .int), (cJ, .long)] s) (hin : ∀ w ∈ u_ws RX2 TX2 15, w ∈ Ts) (hP : va_P D vwCl ((wdC ad cI cJ) σ) H) (hlink : (Cond.fieldLink own index "TokenFloor$Graph" "tokenPort" "[I").before args s = true) (hdg : decode cc pc = .ok (.getfield index, 3)) (kk : W p l e R s m args below meth c H locs cells slots Q (F0 m (pc + 3) ls (.ref (ad 19) :: rest))) : W p l e R s m args below meth c H locs cells slots Q (F0 m pc ls (.ref (ad 1) :: rest)) :=
  va_get (D := D) (ci := 2) (v := .ref (ad 19)) (C := RX2) (T := TX2) (N := 15) F.1 F.2.1 F.2.2.2.2 hin F.2.2.2.1 hK hP 1 rfl rfl 13 (by decide) hlink (fun _ h => h) rfl hdg kk
set_option maxRecDepth 100000 in
theorem gC_X2_tokenValue (F : CallFix p m c cc nL s args Ts own) (hK : va_K D vwCl [(cI, .int), (cJ, .long)] s) (hin : ∀ w ∈ u_ws RX2 TX2 15, w ∈ Ts) (hP : va_P D vwCl ((wdC ad cI cJ) σ) H) (hlink : (Cond.fieldLink own index "TokenFloor$Graph" "tokenValue" "[I").before args s = true) (hdg : decode cc pc = .ok (.getfield index, 3)) (kk : W p l e R s m args below meth c H locs cells slots Q (F0 m (pc + 3) ls (.ref (ad 20) :: rest))) : W p l e R s m args below meth c H locs cells slots Q (F0 m pc ls (.ref (ad 1) :: rest)) :=
  va_get (D := D) (ci := 2) (v := .ref (ad 20)) (C := RX2) (T := TX2) (N := 15) F.1 F.2.1 F.2.2.2.2 hin F.2.2.2.1 hK hP 1 rfl rfl 14 (by decide) hlink (fun _ h => h) rfl hdg kk
set_option maxRecDepth 100000 in
theorem gC_X4_store (F : CallFix p m c cc nL s args Ts own) (hK : va_K D vwCl [(cI, .int), (cJ, .long)] s) (hin : ∀ w ∈ u_ws RX4 TX4 14, w ∈ Ts) (hP : va_P D vwCl ((wdC ad cI cJ) σ) H) (hlink : (Cond.fieldLink own index "TokenFloor$Machine" "store" "LTokenFloor$Store;").before args s = true) (hdg : decode cc pc = .ok (.getfield index, 3)) (kk : W p l e R s m args below meth c H locs cells slots Q (F0 m (pc + 3) ls (.ref (ad 3) :: rest))) : W p l e R s m args below meth c H locs cells slots Q (F0 m pc ls (.ref (ad 2) :: rest)) :=
  va_get (D := D) (ci := 3) (v := .ref (ad 3)) (C := RX4) (T := TX4) (N := 14) F.1 F.2.1 F.2.2.2.2 hin F.2.2.2.1 hK hP 2 rfl rfl 0 (by decide) hlink (fun _ h => h) rfl hdg kk
set_option maxRecDepth 100000 in
theorem gC_X4_firings (F : CallFix p m c cc nL s args Ts own) (hK : va_K D vwCl [(cI, .int), (cJ, .long)] s) (hin : ∀ w ∈ u_ws RX4 TX4 14, w ∈ Ts) (hP : va_P D vwCl ((wdC ad cI cJ) σ) H) (hlink : (Cond.fieldLink own index "TokenFloor$Machine" "firings" "[I").before args s = true) (hdg : decode cc pc = .ok (.getfield index, 3)) (kk : W p l e R s m args below meth c H locs cells slots Q (F0 m (pc + 3) ls (.ref (ad 21) :: rest))) : W p l e R s m args below meth c H locs cells slots Q (F0 m pc ls (.ref (ad 2) :: rest)) :=
  va_get (D := D) (ci := 3) (v := .ref (ad 21)) (C := RX4) (T := TX4) (N := 14) F.1 F.2.1 F.2.2.2.2 hin F.2.2.2.1 hK hP 2 rfl rfl 1 (by decide) hlink (fun _ h => h) rfl hdg kk
set_option maxRecDepth 100000 in
theorem gC_X4_ends (F : CallFix p m c cc nL s args Ts own) (hK : va_K D vwCl [(cI, .int), (cJ, .long)] s) (hin : ∀ w ∈ u_ws RX4 TX4 14, w ∈ Ts) (hP : va_P D vwCl ((wdC ad cI cJ) σ) H) (hlink : (Cond.fieldLink own index "TokenFloor$Machine" "ends" "[J").before args s = true) (hdg : decode cc pc = .ok (.getfield index, 3)) (kk : W p l e R s m args below meth c H locs cells slots Q (F0 m (pc + 3) ls (.ref (ad 22) :: rest))) : W p l e R s m args below meth c H locs cells slots Q (F0 m pc ls (.ref (ad 2) :: rest)) :=
  va_get (D := D) (ci := 3) (v := .ref (ad 22)) (C := RX4) (T := TX4) (N := 14) F.1 F.2.1 F.2.2.2.2 hin F.2.2.2.1 hK hP 2 rfl rfl 2 (by decide) hlink (fun _ h => h) rfl hdg kk
set_option maxRecDepth 100000 in
theorem gC_X4_graph (F : CallFix p m c cc nL s args Ts own) (hK : va_K D vwCl [(cI, .int), (cJ, .long)] s) (hin : ∀ w ∈ u_ws RX4 TX4 14, w ∈ Ts) (hP : va_P D vwCl ((wdC ad cI cJ) σ) H) (hlink : (Cond.fieldLink own index "TokenFloor$Machine" "graph" "LTokenFloor$Graph;").before args s = true) (hdg : decode cc pc = .ok (.getfield index, 3)) (kk : W p l e R s m args below meth c H locs cells slots Q (F0 m (pc + 3) ls (.ref (ad 1) :: rest))) : W p l e R s m args below meth c H locs cells slots Q (F0 m pc ls (.ref (ad 2) :: rest)) :=
  va_get (D := D) (ci := 3) (v := .ref (ad 1)) (C := RX4) (T := TX4) (N := 14) F.1 F.2.1 F.2.2.2.2 hin F.2.2.2.1 hK hP 2 rfl rfl 3 (by decide) hlink (fun _ h => h) rfl hdg kk
set_option maxRecDepth 100000 in
theorem gC_X4_colours (F : CallFix p m c cc nL s args Ts own) (hK : va_K D vwCl [(cI, .int), (cJ, .long)] s) (hin : ∀ w ∈ u_ws RX4 TX4 14, w ∈ Ts) (hP : va_P D vwCl ((wdC ad cI cJ) σ) H) (hlink : (Cond.fieldLink own index "TokenFloor$Machine" "colours" "LTokenFloor$Colours;").before args s = true) (hdg : decode cc pc = .ok (.getfield index, 3)) (kk : W p l e R s m args below meth c H locs cells slots Q (F0 m (pc + 3) ls (.ref (ad 4) :: rest))) : W p l e R s m args below meth c H locs cells slots Q (F0 m pc ls (.ref (ad 2) :: rest)) :=
  va_get (D := D) (ci := 3) (v := .ref (ad 4)) (C := RX4) (T := TX4) (N := 14) F.1 F.2.1 F.2.2.2.2 hin F.2.2.2.1 hK hP 2 rfl rfl 4 (by decide) hlink (fun _ h => h) rfl hdg kk
set_option maxRecDepth 100000 in
theorem gC_X4_floor (F : CallFix p m c cc nL s args Ts own) (hK : va_K D vwCl [(cI, .int), (cJ, .long)] s) (hin : ∀ w ∈ u_ws RX4 TX4 14, w ∈ Ts) (hP : va_P D vwCl ((wdC ad cI cJ) σ) H) (hlink : (Cond.fieldLink own index "TokenFloor$Machine" "floor" "LTokenFloor$Floor;").before args s = true) (hdg : decode cc pc = .ok (.getfield index, 3)) (kk : W p l e R s m args below meth c H locs cells slots Q (F0 m (pc + 3) ls (.ref (ad 5) :: rest))) : W p l e R s m args below meth c H locs cells slots Q (F0 m pc ls (.ref (ad 2) :: rest)) :=
  va_get (D := D) (ci := 3) (v := .ref (ad 5)) (C := RX4) (T := TX4) (N := 14) F.1 F.2.1 F.2.2.2.2 hin F.2.2.2.1 hK hP 2 rfl rfl 5 (by decide) hlink (fun _ h => h) rfl hdg kk
set_option maxRecDepth 100000 in
theorem gC_X4_ready (F : CallFix p m c cc nL s args Ts own) (hK : va_K D vwCl [(cI, .int), (cJ, .long)] s) (hin : ∀ w ∈ u_ws RX4 TX4 14, w ∈ Ts) (hP : va_P D vwCl ((wdC ad cI cJ) σ) H) (hlink : (Cond.fieldLink own index "TokenFloor$Machine" "ready" "LTokenFloor$ReadyRow;").before args s = true) (hdg : decode cc pc = .ok (.getfield index, 3)) (kk : W p l e R s m args below meth c H locs cells slots Q (F0 m (pc + 3) ls (.ref (ad 6) :: rest))) : W p l e R s m args below meth c H locs cells slots Q (F0 m pc ls (.ref (ad 2) :: rest)) :=
  va_get (D := D) (ci := 3) (v := .ref (ad 6)) (C := RX4) (T := TX4) (N := 14) F.1 F.2.1 F.2.2.2.2 hin F.2.2.2.1 hK hP 2 rfl rfl 6 (by decide) hlink (fun _ h => h) rfl hdg kk
set_option maxRecDepth 100000 in
theorem gC_X4_how (F : CallFix p m c cc nL s args Ts own) (hK : va_K D vwCl [(cI, .int), (cJ, .long)] s) (hin : ∀ w ∈ u_ws RX4 TX4 14, w ∈ Ts) (hP : va_P D vwCl ((wdC ad cI cJ) σ) H) (hlink : (Cond.fieldLink own index "TokenFloor$Machine" "how" "I").before args s = true) (hdg : decode cc pc = .ok (.getfield index, 3)) (kk : W p l e R s m args below meth c H locs cells slots Q (F0 m (pc + 3) ls (.int (gS σ 4) :: rest))) : W p l e R s m args below meth c H locs cells slots Q (F0 m pc ls (.ref (ad 2) :: rest)) :=
  va_get (D := D) (ci := 3) (v := .int (gS σ 4)) (C := RX4) (T := TX4) (N := 14) F.1 F.2.1 F.2.2.2.2 hin F.2.2.2.1 hK hP 2 rfl rfl 7 (by decide) hlink (fun _ h => h) rfl hdg kk
set_option maxRecDepth 100000 in
set_option maxHeartbeats 4000000 in
theorem pC_X4_how (F : CallFix p m c cc nL s args Ts own) (hK : va_K D vwCl [(cI, .int), (cJ, .long)] s) (hin : ∀ w ∈ u_ws RX4 TX4 14, w ∈ Ts) (hP : va_P D vwCl ((wdC ad cI cJ) σ) H) (hDs : ∀ σ, va_D A ((wdC ad cI cJ) σ)) (hS : va_S A s.heap H locs) (hlink : (Cond.fieldLink own index "TokenFloor$Machine" "how" "I").before args s = true) (hdg : decode cc pc = .ok (.putfield index, 3)) {v : Int32} (kk : ∀ (H1 : Heap) (locs1 : List Loc), va_P D vwCl ((wdC ad cI cJ) (sS σ 4 v)) H1 → va_S A s.heap H1 locs1 → W p l e R s m args below meth c H1 locs1 cells slots Q (F0 m (pc + 3) ls rest)) : W p l e R s m args below meth c H locs cells slots Q (F0 m pc ls (.int v :: .ref (ad 2) :: rest)) :=
  va_put (D := D) (ci := 3) (v := .int v) (ty := .int) (C := RX4) (T := TX4) (N := 14) F.1 F.2.1 F.2.2.2.2 hin tyX4 tyX4_ok nmX4 F.2.2.2.1 hK hP (hDs σ) hS 2 rfl rfl 7 (by decide) hlink (fun _ h => h) rfl (by decide +kernel) rfl rfl (Nat.le_of_ble_eq_true rfl) hdg (fun H1 locs1 hP _ hS => kk H1 locs1 hP hS)
set_option maxRecDepth 100000 in
theorem gC_X4_steps (F : CallFix p m c cc nL s args Ts own) (hK : va_K D vwCl [(cI, .int), (cJ, .long)] s) (hin : ∀ w ∈ u_ws RX4 TX4 14, w ∈ Ts) (hP : va_P D vwCl ((wdC ad cI cJ) σ) H) (hlink : (Cond.fieldLink own index "TokenFloor$Machine" "steps" "I").before args s = true) (hdg : decode cc pc = .ok (.getfield index, 3)) (kk : W p l e R s m args below meth c H locs cells slots Q (F0 m (pc + 3) ls (.int (gS σ 5) :: rest))) : W p l e R s m args below meth c H locs cells slots Q (F0 m pc ls (.ref (ad 2) :: rest)) :=
  va_get (D := D) (ci := 3) (v := .int (gS σ 5)) (C := RX4) (T := TX4) (N := 14) F.1 F.2.1 F.2.2.2.2 hin F.2.2.2.1 hK hP 2 rfl rfl 8 (by decide) hlink (fun _ h => h) rfl hdg kk
set_option maxRecDepth 100000 in
set_option maxHeartbeats 4000000 in
theorem pC_X4_steps (F : CallFix p m c cc nL s args Ts own) (hK : va_K D vwCl [(cI, .int), (cJ, .long)] s) (hin : ∀ w ∈ u_ws RX4 TX4 14, w ∈ Ts) (hP : va_P D vwCl ((wdC ad cI cJ) σ) H) (hDs : ∀ σ, va_D A ((wdC ad cI cJ) σ)) (hS : va_S A s.heap H locs) (hlink : (Cond.fieldLink own index "TokenFloor$Machine" "steps" "I").before args s = true) (hdg : decode cc pc = .ok (.putfield index, 3)) {v : Int32} (kk : ∀ (H1 : Heap) (locs1 : List Loc), va_P D vwCl ((wdC ad cI cJ) (sS σ 5 v)) H1 → va_S A s.heap H1 locs1 → W p l e R s m args below meth c H1 locs1 cells slots Q (F0 m (pc + 3) ls rest)) : W p l e R s m args below meth c H locs cells slots Q (F0 m pc ls (.int v :: .ref (ad 2) :: rest)) :=
  va_put (D := D) (ci := 3) (v := .int v) (ty := .int) (C := RX4) (T := TX4) (N := 14) F.1 F.2.1 F.2.2.2.2 hin tyX4 tyX4_ok nmX4 F.2.2.2.1 hK hP (hDs σ) hS 2 rfl rfl 8 (by decide) hlink (fun _ h => h) rfl (by decide +kernel) rfl rfl (Nat.le_of_ble_eq_true rfl) hdg (fun H1 locs1 hP _ hS => kk H1 locs1 hP hS)
set_option maxRecDepth 100000 in
theorem gC_X4_tickCount (F : CallFix p m c cc nL s args Ts own) (hK : va_K D vwCl [(cI, .int), (cJ, .long)] s) (hin : ∀ w ∈ u_ws RX4 TX4 14, w ∈ Ts) (hP : va_P D vwCl ((wdC ad cI cJ) σ) H) (hlink : (Cond.fieldLink own index "TokenFloor$Machine" "tickCount" "I").before args s = true) (hdg : decode cc pc = .ok (.getfield index, 3)) (kk : W p l e R s m args below meth c H locs cells slots Q (F0 m (pc + 3) ls (.int (gS σ 6) :: rest))) : W p l e R s m args below meth c H locs cells slots Q (F0 m pc ls (.ref (ad 2) :: rest)) :=
  va_get (D := D) (ci := 3) (v := .int (gS σ 6)) (C := RX4) (T := TX4) (N := 14) F.1 F.2.1 F.2.2.2.2 hin F.2.2.2.1 hK hP 2 rfl rfl 9 (by decide) hlink (fun _ h => h) rfl hdg kk
set_option maxRecDepth 100000 in
set_option maxHeartbeats 4000000 in
theorem pC_X4_tickCount (F : CallFix p m c cc nL s args Ts own) (hK : va_K D vwCl [(cI, .int), (cJ, .long)] s) (hin : ∀ w ∈ u_ws RX4 TX4 14, w ∈ Ts) (hP : va_P D vwCl ((wdC ad cI cJ) σ) H) (hDs : ∀ σ, va_D A ((wdC ad cI cJ) σ)) (hS : va_S A s.heap H locs) (hlink : (Cond.fieldLink own index "TokenFloor$Machine" "tickCount" "I").before args s = true) (hdg : decode cc pc = .ok (.putfield index, 3)) {v : Int32} (kk : ∀ (H1 : Heap) (locs1 : List Loc), va_P D vwCl ((wdC ad cI cJ) (sS σ 6 v)) H1 → va_S A s.heap H1 locs1 → W p l e R s m args below meth c H1 locs1 cells slots Q (F0 m (pc + 3) ls rest)) : W p l e R s m args below meth c H locs cells slots Q (F0 m pc ls (.int v :: .ref (ad 2) :: rest)) :=
  va_put (D := D) (ci := 3) (v := .int v) (ty := .int) (C := RX4) (T := TX4) (N := 14) F.1 F.2.1 F.2.2.2.2 hin tyX4 tyX4_ok nmX4 F.2.2.2.1 hK hP (hDs σ) hS 2 rfl rfl 9 (by decide) hlink (fun _ h => h) rfl (by decide +kernel) rfl rfl (Nat.le_of_ble_eq_true rfl) hdg (fun H1 locs1 hP _ hS => kk H1 locs1 hP hS)
set_option maxRecDepth 100000 in
theorem gC_X4_most (F : CallFix p m c cc nL s args Ts own) (hK : va_K D vwCl [(cI, .int), (cJ, .long)] s) (hin : ∀ w ∈ u_ws RX4 TX4 14, w ∈ Ts) (hP : va_P D vwCl ((wdC ad cI cJ) σ) H) (hlink : (Cond.fieldLink own index "TokenFloor$Machine" "most" "I").before args s = true) (hdg : decode cc pc = .ok (.getfield index, 3)) (kk : W p l e R s m args below meth c H locs cells slots Q (F0 m (pc + 3) ls (.int (gS σ 7) :: rest))) : W p l e R s m args below meth c H locs cells slots Q (F0 m pc ls (.ref (ad 2) :: rest)) :=
  va_get (D := D) (ci := 3) (v := .int (gS σ 7)) (C := RX4) (T := TX4) (N := 14) F.1 F.2.1 F.2.2.2.2 hin F.2.2.2.1 hK hP 2 rfl rfl 10 (by decide) hlink (fun _ h => h) rfl hdg kk
set_option maxRecDepth 100000 in
set_option maxHeartbeats 4000000 in
theorem pC_X4_most (F : CallFix p m c cc nL s args Ts own) (hK : va_K D vwCl [(cI, .int), (cJ, .long)] s) (hin : ∀ w ∈ u_ws RX4 TX4 14, w ∈ Ts) (hP : va_P D vwCl ((wdC ad cI cJ) σ) H) (hDs : ∀ σ, va_D A ((wdC ad cI cJ) σ)) (hS : va_S A s.heap H locs) (hlink : (Cond.fieldLink own index "TokenFloor$Machine" "most" "I").before args s = true) (hdg : decode cc pc = .ok (.putfield index, 3)) {v : Int32} (kk : ∀ (H1 : Heap) (locs1 : List Loc), va_P D vwCl ((wdC ad cI cJ) (sS σ 7 v)) H1 → va_S A s.heap H1 locs1 → W p l e R s m args below meth c H1 locs1 cells slots Q (F0 m (pc + 3) ls rest)) : W p l e R s m args below meth c H locs cells slots Q (F0 m pc ls (.int v :: .ref (ad 2) :: rest)) :=
  va_put (D := D) (ci := 3) (v := .int v) (ty := .int) (C := RX4) (T := TX4) (N := 14) F.1 F.2.1 F.2.2.2.2 hin tyX4 tyX4_ok nmX4 F.2.2.2.1 hK hP (hDs σ) hS 2 rfl rfl 10 (by decide) hlink (fun _ h => h) rfl (by decide +kernel) rfl rfl (Nat.le_of_ble_eq_true rfl) hdg (fun H1 locs1 hP _ hS => kk H1 locs1 hP hS)
set_option maxRecDepth 100000 in
theorem gC_X4_lost (F : CallFix p m c cc nL s args Ts own) (hK : va_K D vwCl [(cI, .int), (cJ, .long)] s) (hin : ∀ w ∈ u_ws RX4 TX4 14, w ∈ Ts) (hP : va_P D vwCl ((wdC ad cI cJ) σ) H) (hlink : (Cond.fieldLink own index "TokenFloor$Machine" "lost" "I").before args s = true) (hdg : decode cc pc = .ok (.getfield index, 3)) (kk : W p l e R s m args below meth c H locs cells slots Q (F0 m (pc + 3) ls (.int (gS σ 8) :: rest))) : W p l e R s m args below meth c H locs cells slots Q (F0 m pc ls (.ref (ad 2) :: rest)) :=
  va_get (D := D) (ci := 3) (v := .int (gS σ 8)) (C := RX4) (T := TX4) (N := 14) F.1 F.2.1 F.2.2.2.2 hin F.2.2.2.1 hK hP 2 rfl rfl 11 (by decide) hlink (fun _ h => h) rfl hdg kk
set_option maxRecDepth 100000 in
set_option maxHeartbeats 4000000 in
theorem pC_X4_lost (F : CallFix p m c cc nL s args Ts own) (hK : va_K D vwCl [(cI, .int), (cJ, .long)] s) (hin : ∀ w ∈ u_ws RX4 TX4 14, w ∈ Ts) (hP : va_P D vwCl ((wdC ad cI cJ) σ) H) (hDs : ∀ σ, va_D A ((wdC ad cI cJ) σ)) (hS : va_S A s.heap H locs) (hlink : (Cond.fieldLink own index "TokenFloor$Machine" "lost" "I").before args s = true) (hdg : decode cc pc = .ok (.putfield index, 3)) {v : Int32} (kk : ∀ (H1 : Heap) (locs1 : List Loc), va_P D vwCl ((wdC ad cI cJ) (sS σ 8 v)) H1 → va_S A s.heap H1 locs1 → W p l e R s m args below meth c H1 locs1 cells slots Q (F0 m (pc + 3) ls rest)) : W p l e R s m args below meth c H locs cells slots Q (F0 m pc ls (.int v :: .ref (ad 2) :: rest)) :=
  va_put (D := D) (ci := 3) (v := .int v) (ty := .int) (C := RX4) (T := TX4) (N := 14) F.1 F.2.1 F.2.2.2.2 hin tyX4 tyX4_ok nmX4 F.2.2.2.1 hK hP (hDs σ) hS 2 rfl rfl 11 (by decide) hlink (fun _ h => h) rfl (by decide +kernel) rfl rfl (Nat.le_of_ble_eq_true rfl) hdg (fun H1 locs1 hP _ hS => kk H1 locs1 hP hS)
set_option maxRecDepth 100000 in
theorem gC_X4_strays (F : CallFix p m c cc nL s args Ts own) (hK : va_K D vwCl [(cI, .int), (cJ, .long)] s) (hin : ∀ w ∈ u_ws RX4 TX4 14, w ∈ Ts) (hP : va_P D vwCl ((wdC ad cI cJ) σ) H) (hlink : (Cond.fieldLink own index "TokenFloor$Machine" "strays" "I").before args s = true) (hdg : decode cc pc = .ok (.getfield index, 3)) (kk : W p l e R s m args below meth c H locs cells slots Q (F0 m (pc + 3) ls (.int (gS σ 9) :: rest))) : W p l e R s m args below meth c H locs cells slots Q (F0 m pc ls (.ref (ad 2) :: rest)) :=
  va_get (D := D) (ci := 3) (v := .int (gS σ 9)) (C := RX4) (T := TX4) (N := 14) F.1 F.2.1 F.2.2.2.2 hin F.2.2.2.1 hK hP 2 rfl rfl 12 (by decide) hlink (fun _ h => h) rfl hdg kk
set_option maxRecDepth 100000 in
set_option maxHeartbeats 4000000 in
theorem pC_X4_strays (F : CallFix p m c cc nL s args Ts own) (hK : va_K D vwCl [(cI, .int), (cJ, .long)] s) (hin : ∀ w ∈ u_ws RX4 TX4 14, w ∈ Ts) (hP : va_P D vwCl ((wdC ad cI cJ) σ) H) (hDs : ∀ σ, va_D A ((wdC ad cI cJ) σ)) (hS : va_S A s.heap H locs) (hlink : (Cond.fieldLink own index "TokenFloor$Machine" "strays" "I").before args s = true) (hdg : decode cc pc = .ok (.putfield index, 3)) {v : Int32} (kk : ∀ (H1 : Heap) (locs1 : List Loc), va_P D vwCl ((wdC ad cI cJ) (sS σ 9 v)) H1 → va_S A s.heap H1 locs1 → W p l e R s m args below meth c H1 locs1 cells slots Q (F0 m (pc + 3) ls rest)) : W p l e R s m args below meth c H locs cells slots Q (F0 m pc ls (.int v :: .ref (ad 2) :: rest)) :=
  va_put (D := D) (ci := 3) (v := .int v) (ty := .int) (C := RX4) (T := TX4) (N := 14) F.1 F.2.1 F.2.2.2.2 hin tyX4 tyX4_ok nmX4 F.2.2.2.1 hK hP (hDs σ) hS 2 rfl rfl 12 (by decide) hlink (fun _ h => h) rfl (by decide +kernel) rfl rfl (Nat.le_of_ble_eq_true rfl) hdg (fun H1 locs1 hP _ hS => kk H1 locs1 hP hS)
set_option maxRecDepth 100000 in
theorem gC_X4_clashAct (F : CallFix p m c cc nL s args Ts own) (hK : va_K D vwCl [(cI, .int), (cJ, .long)] s) (hin : ∀ w ∈ u_ws RX4 TX4 14, w ∈ Ts) (hP : va_P D vwCl ((wdC ad cI cJ) σ) H) (hlink : (Cond.fieldLink own index "TokenFloor$Machine" "clashAct" "I").before args s = true) (hdg : decode cc pc = .ok (.getfield index, 3)) (kk : W p l e R s m args below meth c H locs cells slots Q (F0 m (pc + 3) ls (.int (gS σ 10) :: rest))) : W p l e R s m args below meth c H locs cells slots Q (F0 m pc ls (.ref (ad 2) :: rest)) :=
  va_get (D := D) (ci := 3) (v := .int (gS σ 10)) (C := RX4) (T := TX4) (N := 14) F.1 F.2.1 F.2.2.2.2 hin F.2.2.2.1 hK hP 2 rfl rfl 13 (by decide) hlink (fun _ h => h) rfl hdg kk
set_option maxRecDepth 100000 in
set_option maxHeartbeats 4000000 in
theorem pC_X4_clashAct (F : CallFix p m c cc nL s args Ts own) (hK : va_K D vwCl [(cI, .int), (cJ, .long)] s) (hin : ∀ w ∈ u_ws RX4 TX4 14, w ∈ Ts) (hP : va_P D vwCl ((wdC ad cI cJ) σ) H) (hDs : ∀ σ, va_D A ((wdC ad cI cJ) σ)) (hS : va_S A s.heap H locs) (hlink : (Cond.fieldLink own index "TokenFloor$Machine" "clashAct" "I").before args s = true) (hdg : decode cc pc = .ok (.putfield index, 3)) {v : Int32} (kk : ∀ (H1 : Heap) (locs1 : List Loc), va_P D vwCl ((wdC ad cI cJ) (sS σ 10 v)) H1 → va_S A s.heap H1 locs1 → W p l e R s m args below meth c H1 locs1 cells slots Q (F0 m (pc + 3) ls rest)) : W p l e R s m args below meth c H locs cells slots Q (F0 m pc ls (.int v :: .ref (ad 2) :: rest)) :=
  va_put (D := D) (ci := 3) (v := .int v) (ty := .int) (C := RX4) (T := TX4) (N := 14) F.1 F.2.1 F.2.2.2.2 hin tyX4 tyX4_ok nmX4 F.2.2.2.1 hK hP (hDs σ) hS 2 rfl rfl 13 (by decide) hlink (fun _ h => h) rfl (by decide +kernel) rfl rfl (Nat.le_of_ble_eq_true rfl) hdg (fun H1 locs1 hP _ hS => kk H1 locs1 hP hS)
set_option maxRecDepth 100000 in
theorem gC_X6_waiting (F : CallFix p m c cc nL s args Ts own) (hK : va_K D vwCl [(cI, .int), (cJ, .long)] s) (hin : ∀ w ∈ u_ws RX6 TX6 10, w ∈ Ts) (hP : va_P D vwCl ((wdC ad cI cJ) σ) H) (hlink : (Cond.fieldLink own index "TokenFloor$Store" "waiting" "I").before args s = true) (hdg : decode cc pc = .ok (.getfield index, 3)) (kk : W p l e R s m args below meth c H locs cells slots Q (F0 m (pc + 3) ls (.int (gS σ 11) :: rest))) : W p l e R s m args below meth c H locs cells slots Q (F0 m pc ls (.ref (ad 3) :: rest)) :=
  va_get (D := D) (ci := 5) (v := .int (gS σ 11)) (C := RX6) (T := TX6) (N := 10) F.1 F.2.1 F.2.2.2.2 hin F.2.2.2.1 hK hP 3 rfl rfl 0 (by decide) hlink (fun _ h => h) rfl hdg kk
set_option maxRecDepth 100000 in
set_option maxHeartbeats 4000000 in
theorem pC_X6_waiting (F : CallFix p m c cc nL s args Ts own) (hK : va_K D vwCl [(cI, .int), (cJ, .long)] s) (hin : ∀ w ∈ u_ws RX6 TX6 10, w ∈ Ts) (hP : va_P D vwCl ((wdC ad cI cJ) σ) H) (hDs : ∀ σ, va_D A ((wdC ad cI cJ) σ)) (hS : va_S A s.heap H locs) (hlink : (Cond.fieldLink own index "TokenFloor$Store" "waiting" "I").before args s = true) (hdg : decode cc pc = .ok (.putfield index, 3)) {v : Int32} (kk : ∀ (H1 : Heap) (locs1 : List Loc), va_P D vwCl ((wdC ad cI cJ) (sS σ 11 v)) H1 → va_S A s.heap H1 locs1 → W p l e R s m args below meth c H1 locs1 cells slots Q (F0 m (pc + 3) ls rest)) : W p l e R s m args below meth c H locs cells slots Q (F0 m pc ls (.int v :: .ref (ad 3) :: rest)) :=
  va_put (D := D) (ci := 5) (v := .int v) (ty := .int) (C := RX6) (T := TX6) (N := 10) F.1 F.2.1 F.2.2.2.2 hin tyX6 tyX6_ok nmX6 F.2.2.2.1 hK hP (hDs σ) hS 3 rfl rfl 0 (by decide) hlink (fun _ h => h) rfl (by decide +kernel) rfl rfl (Nat.le_of_ble_eq_true rfl) hdg (fun H1 locs1 hP _ hS => kk H1 locs1 hP hS)
set_option maxRecDepth 100000 in
theorem gC_X6_rowOfAct (F : CallFix p m c cc nL s args Ts own) (hK : va_K D vwCl [(cI, .int), (cJ, .long)] s) (hin : ∀ w ∈ u_ws RX6 TX6 10, w ∈ Ts) (hP : va_P D vwCl ((wdC ad cI cJ) σ) H) (hlink : (Cond.fieldLink own index "TokenFloor$Store" "rowOfAct" "[I").before args s = true) (hdg : decode cc pc = .ok (.getfield index, 3)) (kk : W p l e R s m args below meth c H locs cells slots Q (F0 m (pc + 3) ls (.ref (ad 23) :: rest))) : W p l e R s m args below meth c H locs cells slots Q (F0 m pc ls (.ref (ad 3) :: rest)) :=
  va_get (D := D) (ci := 5) (v := .ref (ad 23)) (C := RX6) (T := TX6) (N := 10) F.1 F.2.1 F.2.2.2.2 hin F.2.2.2.1 hK hP 3 rfl rfl 1 (by decide) hlink (fun _ h => h) rfl hdg kk
set_option maxRecDepth 100000 in
theorem gC_X6_written (F : CallFix p m c cc nL s args Ts own) (hK : va_K D vwCl [(cI, .int), (cJ, .long)] s) (hin : ∀ w ∈ u_ws RX6 TX6 10, w ∈ Ts) (hP : va_P D vwCl ((wdC ad cI cJ) σ) H) (hlink : (Cond.fieldLink own index "TokenFloor$Store" "written" "[J").before args s = true) (hdg : decode cc pc = .ok (.getfield index, 3)) (kk : W p l e R s m args below meth c H locs cells slots Q (F0 m (pc + 3) ls (.ref (ad 24) :: rest))) : W p l e R s m args below meth c H locs cells slots Q (F0 m pc ls (.ref (ad 3) :: rest)) :=
  va_get (D := D) (ci := 5) (v := .ref (ad 24)) (C := RX6) (T := TX6) (N := 10) F.1 F.2.1 F.2.2.2.2 hin F.2.2.2.1 hK hP 3 rfl rfl 2 (by decide) hlink (fun _ h => h) rfl hdg kk
set_option maxRecDepth 100000 in
theorem gC_X6_rows (F : CallFix p m c cc nL s args Ts own) (hK : va_K D vwCl [(cI, .int), (cJ, .long)] s) (hin : ∀ w ∈ u_ws RX6 TX6 10, w ∈ Ts) (hP : va_P D vwCl ((wdC ad cI cJ) σ) H) (hlink : (Cond.fieldLink own index "TokenFloor$Store" "rows" "I").before args s = true) (hdg : decode cc pc = .ok (.getfield index, 3)) (kk : W p l e R s m args below meth c H locs cells slots Q (F0 m (pc + 3) ls (.int (gS σ 12) :: rest))) : W p l e R s m args below meth c H locs cells slots Q (F0 m pc ls (.ref (ad 3) :: rest)) :=
  va_get (D := D) (ci := 5) (v := .int (gS σ 12)) (C := RX6) (T := TX6) (N := 10) F.1 F.2.1 F.2.2.2.2 hin F.2.2.2.1 hK hP 3 rfl rfl 3 (by decide) hlink (fun _ h => h) rfl hdg kk
set_option maxRecDepth 100000 in
set_option maxHeartbeats 4000000 in
theorem pC_X6_rows (F : CallFix p m c cc nL s args Ts own) (hK : va_K D vwCl [(cI, .int), (cJ, .long)] s) (hin : ∀ w ∈ u_ws RX6 TX6 10, w ∈ Ts) (hP : va_P D vwCl ((wdC ad cI cJ) σ) H) (hDs : ∀ σ, va_D A ((wdC ad cI cJ) σ)) (hS : va_S A s.heap H locs) (hlink : (Cond.fieldLink own index "TokenFloor$Store" "rows" "I").before args s = true) (hdg : decode cc pc = .ok (.putfield index, 3)) {v : Int32} (kk : ∀ (H1 : Heap) (locs1 : List Loc), va_P D vwCl ((wdC ad cI cJ) (sS σ 12 v)) H1 → va_S A s.heap H1 locs1 → W p l e R s m args below meth c H1 locs1 cells slots Q (F0 m (pc + 3) ls rest)) : W p l e R s m args below meth c H locs cells slots Q (F0 m pc ls (.int v :: .ref (ad 3) :: rest)) :=
  va_put (D := D) (ci := 5) (v := .int v) (ty := .int) (C := RX6) (T := TX6) (N := 10) F.1 F.2.1 F.2.2.2.2 hin tyX6 tyX6_ok nmX6 F.2.2.2.1 hK hP (hDs σ) hS 3 rfl rfl 3 (by decide) hlink (fun _ h => h) rfl (by decide +kernel) rfl rfl (Nat.le_of_ble_eq_true rfl) hdg (fun H1 locs1 hP _ hS => kk H1 locs1 hP hS)
set_option maxRecDepth 100000 in
theorem gC_X6_cells (F : CallFix p m c cc nL s args Ts own) (hK : va_K D vwCl [(cI, .int), (cJ, .long)] s) (hin : ∀ w ∈ u_ws RX6 TX6 10, w ∈ Ts) (hP : va_P D vwCl ((wdC ad cI cJ) σ) H) (hlink : (Cond.fieldLink own index "TokenFloor$Store" "cells" "I").before args s = true) (hdg : decode cc pc = .ok (.getfield index, 3)) (kk : W p l e R s m args below meth c H locs cells slots Q (F0 m (pc + 3) ls (.int (gS σ 13) :: rest))) : W p l e R s m args below meth c H locs cells slots Q (F0 m pc ls (.ref (ad 3) :: rest)) :=
  va_get (D := D) (ci := 5) (v := .int (gS σ 13)) (C := RX6) (T := TX6) (N := 10) F.1 F.2.1 F.2.2.2.2 hin F.2.2.2.1 hK hP 3 rfl rfl 4 (by decide) hlink (fun _ h => h) rfl hdg kk
set_option maxRecDepth 100000 in
set_option maxHeartbeats 4000000 in
theorem pC_X6_cells (F : CallFix p m c cc nL s args Ts own) (hK : va_K D vwCl [(cI, .int), (cJ, .long)] s) (hin : ∀ w ∈ u_ws RX6 TX6 10, w ∈ Ts) (hP : va_P D vwCl ((wdC ad cI cJ) σ) H) (hDs : ∀ σ, va_D A ((wdC ad cI cJ) σ)) (hS : va_S A s.heap H locs) (hlink : (Cond.fieldLink own index "TokenFloor$Store" "cells" "I").before args s = true) (hdg : decode cc pc = .ok (.putfield index, 3)) {v : Int32} (kk : ∀ (H1 : Heap) (locs1 : List Loc), va_P D vwCl ((wdC ad cI cJ) (sS σ 13 v)) H1 → va_S A s.heap H1 locs1 → W p l e R s m args below meth c H1 locs1 cells slots Q (F0 m (pc + 3) ls rest)) : W p l e R s m args below meth c H locs cells slots Q (F0 m pc ls (.int v :: .ref (ad 3) :: rest)) :=
  va_put (D := D) (ci := 5) (v := .int v) (ty := .int) (C := RX6) (T := TX6) (N := 10) F.1 F.2.1 F.2.2.2.2 hin tyX6 tyX6_ok nmX6 F.2.2.2.1 hK hP (hDs σ) hS 3 rfl rfl 4 (by decide) hlink (fun _ h => h) rfl (by decide +kernel) rfl rfl (Nat.le_of_ble_eq_true rfl) hdg (fun H1 locs1 hP _ hS => kk H1 locs1 hP hS)
set_option maxRecDepth 100000 in
theorem gC_X6_start (F : CallFix p m c cc nL s args Ts own) (hK : va_K D vwCl [(cI, .int), (cJ, .long)] s) (hin : ∀ w ∈ u_ws RX6 TX6 10, w ∈ Ts) (hP : va_P D vwCl ((wdC ad cI cJ) σ) H) (hlink : (Cond.fieldLink own index "TokenFloor$Store" "start" "[I").before args s = true) (hdg : decode cc pc = .ok (.getfield index, 3)) (kk : W p l e R s m args below meth c H locs cells slots Q (F0 m (pc + 3) ls (.ref (ad 25) :: rest))) : W p l e R s m args below meth c H locs cells slots Q (F0 m pc ls (.ref (ad 3) :: rest)) :=
  va_get (D := D) (ci := 5) (v := .ref (ad 25)) (C := RX6) (T := TX6) (N := 10) F.1 F.2.1 F.2.2.2.2 hin F.2.2.2.1 hK hP 3 rfl rfl 5 (by decide) hlink (fun _ h => h) rfl hdg kk
set_option maxRecDepth 100000 in
theorem gC_X6_size (F : CallFix p m c cc nL s args Ts own) (hK : va_K D vwCl [(cI, .int), (cJ, .long)] s) (hin : ∀ w ∈ u_ws RX6 TX6 10, w ∈ Ts) (hP : va_P D vwCl ((wdC ad cI cJ) σ) H) (hlink : (Cond.fieldLink own index "TokenFloor$Store" "size" "[I").before args s = true) (hdg : decode cc pc = .ok (.getfield index, 3)) (kk : W p l e R s m args below meth c H locs cells slots Q (F0 m (pc + 3) ls (.ref (ad 26) :: rest))) : W p l e R s m args below meth c H locs cells slots Q (F0 m pc ls (.ref (ad 3) :: rest)) :=
  va_get (D := D) (ci := 5) (v := .ref (ad 26)) (C := RX6) (T := TX6) (N := 10) F.1 F.2.1 F.2.2.2.2 hin F.2.2.2.1 hK hP 3 rfl rfl 6 (by decide) hlink (fun _ h => h) rfl hdg kk
set_option maxRecDepth 100000 in
theorem gC_X6_firstReader (F : CallFix p m c cc nL s args Ts own) (hK : va_K D vwCl [(cI, .int), (cJ, .long)] s) (hin : ∀ w ∈ u_ws RX6 TX6 10, w ∈ Ts) (hP : va_P D vwCl ((wdC ad cI cJ) σ) H) (hlink : (Cond.fieldLink own index "TokenFloor$Store" "firstReader" "[I").before args s = true) (hdg : decode cc pc = .ok (.getfield index, 3)) (kk : W p l e R s m args below meth c H locs cells slots Q (F0 m (pc + 3) ls (.ref (ad 27) :: rest))) : W p l e R s m args below meth c H locs cells slots Q (F0 m pc ls (.ref (ad 3) :: rest)) :=
  va_get (D := D) (ci := 5) (v := .ref (ad 27)) (C := RX6) (T := TX6) (N := 10) F.1 F.2.1 F.2.2.2.2 hin F.2.2.2.1 hK hP 3 rfl rfl 7 (by decide) hlink (fun _ h => h) rfl hdg kk
set_option maxRecDepth 100000 in
theorem gC_X6_lastReader (F : CallFix p m c cc nL s args Ts own) (hK : va_K D vwCl [(cI, .int), (cJ, .long)] s) (hin : ∀ w ∈ u_ws RX6 TX6 10, w ∈ Ts) (hP : va_P D vwCl ((wdC ad cI cJ) σ) H) (hlink : (Cond.fieldLink own index "TokenFloor$Store" "lastReader" "[I").before args s = true) (hdg : decode cc pc = .ok (.getfield index, 3)) (kk : W p l e R s m args below meth c H locs cells slots Q (F0 m (pc + 3) ls (.ref (ad 28) :: rest))) : W p l e R s m args below meth c H locs cells slots Q (F0 m pc ls (.ref (ad 3) :: rest)) :=
  va_get (D := D) (ci := 5) (v := .ref (ad 28)) (C := RX6) (T := TX6) (N := 10) F.1 F.2.1 F.2.2.2.2 hin F.2.2.2.1 hK hP 3 rfl rfl 8 (by decide) hlink (fun _ h => h) rfl hdg kk
set_option maxRecDepth 100000 in
theorem gC_X6_nextReader (F : CallFix p m c cc nL s args Ts own) (hK : va_K D vwCl [(cI, .int), (cJ, .long)] s) (hin : ∀ w ∈ u_ws RX6 TX6 10, w ∈ Ts) (hP : va_P D vwCl ((wdC ad cI cJ) σ) H) (hlink : (Cond.fieldLink own index "TokenFloor$Store" "nextReader" "[I").before args s = true) (hdg : decode cc pc = .ok (.getfield index, 3)) (kk : W p l e R s m args below meth c H locs cells slots Q (F0 m (pc + 3) ls (.ref (ad 29) :: rest))) : W p l e R s m args below meth c H locs cells slots Q (F0 m pc ls (.ref (ad 3) :: rest)) :=
  va_get (D := D) (ci := 5) (v := .ref (ad 29)) (C := RX6) (T := TX6) (N := 10) F.1 F.2.1 F.2.2.2.2 hin F.2.2.2.1 hK hP 3 rfl rfl 9 (by decide) hlink (fun _ h => h) rfl hdg kk
set_option maxRecDepth 100000 in
theorem gC_X0_count (F : CallFix p m c cc nL s args Ts own) (hK : va_K D vwCl [(cI, .int), (cJ, .long)] s) (hin : ∀ w ∈ u_ws RX0 TX0 6, w ∈ Ts) (hP : va_P D vwCl ((wdC ad cI cJ) σ) H) (hlink : (Cond.fieldLink own index "TokenFloor$Colours" "count" "I").before args s = true) (hdg : decode cc pc = .ok (.getfield index, 3)) (kk : W p l e R s m args below meth c H locs cells slots Q (F0 m (pc + 3) ls (.int (gS σ 14) :: rest))) : W p l e R s m args below meth c H locs cells slots Q (F0 m pc ls (.ref (ad 4) :: rest)) :=
  va_get (D := D) (ci := 0) (v := .int (gS σ 14)) (C := RX0) (T := TX0) (N := 6) F.1 F.2.1 F.2.2.2.2 hin F.2.2.2.1 hK hP 4 rfl rfl 0 (by decide) hlink (fun _ h => h) rfl hdg kk
set_option maxRecDepth 100000 in
set_option maxHeartbeats 4000000 in
theorem pC_X0_count (F : CallFix p m c cc nL s args Ts own) (hK : va_K D vwCl [(cI, .int), (cJ, .long)] s) (hin : ∀ w ∈ u_ws RX0 TX0 6, w ∈ Ts) (hP : va_P D vwCl ((wdC ad cI cJ) σ) H) (hDs : ∀ σ, va_D A ((wdC ad cI cJ) σ)) (hS : va_S A s.heap H locs) (hlink : (Cond.fieldLink own index "TokenFloor$Colours" "count" "I").before args s = true) (hdg : decode cc pc = .ok (.putfield index, 3)) {v : Int32} (kk : ∀ (H1 : Heap) (locs1 : List Loc), va_P D vwCl ((wdC ad cI cJ) (sS σ 14 v)) H1 → va_S A s.heap H1 locs1 → W p l e R s m args below meth c H1 locs1 cells slots Q (F0 m (pc + 3) ls rest)) : W p l e R s m args below meth c H locs cells slots Q (F0 m pc ls (.int v :: .ref (ad 4) :: rest)) :=
  va_put (D := D) (ci := 0) (v := .int v) (ty := .int) (C := RX0) (T := TX0) (N := 6) F.1 F.2.1 F.2.2.2.2 hin tyX0 tyX0_ok nmX0 F.2.2.2.1 hK hP (hDs σ) hS 4 rfl rfl 0 (by decide) hlink (fun _ h => h) rfl (by decide +kernel) rfl rfl (Nat.le_of_ble_eq_true rfl) hdg (fun H1 locs1 hP _ hS => kk H1 locs1 hP hS)
set_option maxRecDepth 100000 in
theorem gC_X0_origin (F : CallFix p m c cc nL s args Ts own) (hK : va_K D vwCl [(cI, .int), (cJ, .long)] s) (hin : ∀ w ∈ u_ws RX0 TX0 6, w ∈ Ts) (hP : va_P D vwCl ((wdC ad cI cJ) σ) H) (hlink : (Cond.fieldLink own index "TokenFloor$Colours" "origin" "[I").before args s = true) (hdg : decode cc pc = .ok (.getfield index, 3)) (kk : W p l e R s m args below meth c H locs cells slots Q (F0 m (pc + 3) ls (.ref (ad 30) :: rest))) : W p l e R s m args below meth c H locs cells slots Q (F0 m pc ls (.ref (ad 4) :: rest)) :=
  va_get (D := D) (ci := 0) (v := .ref (ad 30)) (C := RX0) (T := TX0) (N := 6) F.1 F.2.1 F.2.2.2.2 hin F.2.2.2.1 hK hP 4 rfl rfl 1 (by decide) hlink (fun _ h => h) rfl hdg kk
set_option maxRecDepth 100000 in
theorem gC_X0_outer (F : CallFix p m c cc nL s args Ts own) (hK : va_K D vwCl [(cI, .int), (cJ, .long)] s) (hin : ∀ w ∈ u_ws RX0 TX0 6, w ∈ Ts) (hP : va_P D vwCl ((wdC ad cI cJ) σ) H) (hlink : (Cond.fieldLink own index "TokenFloor$Colours" "outer" "[I").before args s = true) (hdg : decode cc pc = .ok (.getfield index, 3)) (kk : W p l e R s m args below meth c H locs cells slots Q (F0 m (pc + 3) ls (.ref (ad 31) :: rest))) : W p l e R s m args below meth c H locs cells slots Q (F0 m pc ls (.ref (ad 4) :: rest)) :=
  va_get (D := D) (ci := 0) (v := .ref (ad 31)) (C := RX0) (T := TX0) (N := 6) F.1 F.2.1 F.2.2.2.2 hin F.2.2.2.1 hK hP 4 rfl rfl 2 (by decide) hlink (fun _ h => h) rfl hdg kk
set_option maxRecDepth 100000 in
theorem gC_X0_key (F : CallFix p m c cc nL s args Ts own) (hK : va_K D vwCl [(cI, .int), (cJ, .long)] s) (hin : ∀ w ∈ u_ws RX0 TX0 6, w ∈ Ts) (hP : va_P D vwCl ((wdC ad cI cJ) σ) H) (hlink : (Cond.fieldLink own index "TokenFloor$Colours" "key" "[I").before args s = true) (hdg : decode cc pc = .ok (.getfield index, 3)) (kk : W p l e R s m args below meth c H locs cells slots Q (F0 m (pc + 3) ls (.ref (ad 32) :: rest))) : W p l e R s m args below meth c H locs cells slots Q (F0 m pc ls (.ref (ad 4) :: rest)) :=
  va_get (D := D) (ci := 0) (v := .ref (ad 32)) (C := RX0) (T := TX0) (N := 6) F.1 F.2.1 F.2.2.2.2 hin F.2.2.2.1 hK hP 4 rfl rfl 3 (by decide) hlink (fun _ h => h) rfl hdg kk
set_option maxRecDepth 100000 in
theorem gC_X0_firstReached (F : CallFix p m c cc nL s args Ts own) (hK : va_K D vwCl [(cI, .int), (cJ, .long)] s) (hin : ∀ w ∈ u_ws RX0 TX0 6, w ∈ Ts) (hP : va_P D vwCl ((wdC ad cI cJ) σ) H) (hlink : (Cond.fieldLink own index "TokenFloor$Colours" "firstReached" "[I").before args s = true) (hdg : decode cc pc = .ok (.getfield index, 3)) (kk : W p l e R s m args below meth c H locs cells slots Q (F0 m (pc + 3) ls (.ref (ad 33) :: rest))) : W p l e R s m args below meth c H locs cells slots Q (F0 m pc ls (.ref (ad 4) :: rest)) :=
  va_get (D := D) (ci := 0) (v := .ref (ad 33)) (C := RX0) (T := TX0) (N := 6) F.1 F.2.1 F.2.2.2.2 hin F.2.2.2.1 hK hP 4 rfl rfl 4 (by decide) hlink (fun _ h => h) rfl hdg kk
set_option maxRecDepth 100000 in
theorem gC_X0_nextReached (F : CallFix p m c cc nL s args Ts own) (hK : va_K D vwCl [(cI, .int), (cJ, .long)] s) (hin : ∀ w ∈ u_ws RX0 TX0 6, w ∈ Ts) (hP : va_P D vwCl ((wdC ad cI cJ) σ) H) (hlink : (Cond.fieldLink own index "TokenFloor$Colours" "nextReached" "[I").before args s = true) (hdg : decode cc pc = .ok (.getfield index, 3)) (kk : W p l e R s m args below meth c H locs cells slots Q (F0 m (pc + 3) ls (.ref (ad 34) :: rest))) : W p l e R s m args below meth c H locs cells slots Q (F0 m pc ls (.ref (ad 4) :: rest)) :=
  va_get (D := D) (ci := 0) (v := .ref (ad 34)) (C := RX0) (T := TX0) (N := 6) F.1 F.2.1 F.2.2.2.2 hin F.2.2.2.1 hK hP 4 rfl rfl 5 (by decide) hlink (fun _ h => h) rfl hdg kk
set_option maxRecDepth 100000 in
theorem gC_X1_left (F : CallFix p m c cc nL s args Ts own) (hK : va_K D vwCl [(cI, .int), (cJ, .long)] s) (hin : ∀ w ∈ u_ws RX1 TX1 8, w ∈ Ts) (hP : va_P D vwCl ((wdC ad cI cJ) σ) H) (hlink : (Cond.fieldLink own index "TokenFloor$Floor" "left" "I").before args s = true) (hdg : decode cc pc = .ok (.getfield index, 3)) (kk : W p l e R s m args below meth c H locs cells slots Q (F0 m (pc + 3) ls (.int (gS σ 15) :: rest))) : W p l e R s m args below meth c H locs cells slots Q (F0 m pc ls (.ref (ad 5) :: rest)) :=
  va_get (D := D) (ci := 1) (v := .int (gS σ 15)) (C := RX1) (T := TX1) (N := 8) F.1 F.2.1 F.2.2.2.2 hin F.2.2.2.1 hK hP 5 rfl rfl 0 (by decide) hlink (fun _ h => h) rfl hdg kk
set_option maxRecDepth 100000 in
set_option maxHeartbeats 4000000 in
theorem pC_X1_left (F : CallFix p m c cc nL s args Ts own) (hK : va_K D vwCl [(cI, .int), (cJ, .long)] s) (hin : ∀ w ∈ u_ws RX1 TX1 8, w ∈ Ts) (hP : va_P D vwCl ((wdC ad cI cJ) σ) H) (hDs : ∀ σ, va_D A ((wdC ad cI cJ) σ)) (hS : va_S A s.heap H locs) (hlink : (Cond.fieldLink own index "TokenFloor$Floor" "left" "I").before args s = true) (hdg : decode cc pc = .ok (.putfield index, 3)) {v : Int32} (kk : ∀ (H1 : Heap) (locs1 : List Loc), va_P D vwCl ((wdC ad cI cJ) (sS σ 15 v)) H1 → va_S A s.heap H1 locs1 → W p l e R s m args below meth c H1 locs1 cells slots Q (F0 m (pc + 3) ls rest)) : W p l e R s m args below meth c H locs cells slots Q (F0 m pc ls (.int v :: .ref (ad 5) :: rest)) :=
  va_put (D := D) (ci := 1) (v := .int v) (ty := .int) (C := RX1) (T := TX1) (N := 8) F.1 F.2.1 F.2.2.2.2 hin tyX1 tyX1_ok nmX1 F.2.2.2.1 hK hP (hDs σ) hS 5 rfl rfl 0 (by decide) hlink (fun _ h => h) rfl (by decide +kernel) rfl rfl (Nat.le_of_ble_eq_true rfl) hdg (fun H1 locs1 hP _ hS => kk H1 locs1 hP hS)
set_option maxRecDepth 100000 in
theorem gC_X1_actOf (F : CallFix p m c cc nL s args Ts own) (hK : va_K D vwCl [(cI, .int), (cJ, .long)] s) (hin : ∀ w ∈ u_ws RX1 TX1 8, w ∈ Ts) (hP : va_P D vwCl ((wdC ad cI cJ) σ) H) (hlink : (Cond.fieldLink own index "TokenFloor$Floor" "actOf" "[I").before args s = true) (hdg : decode cc pc = .ok (.getfield index, 3)) (kk : W p l e R s m args below meth c H locs cells slots Q (F0 m (pc + 3) ls (.ref (ad 35) :: rest))) : W p l e R s m args below meth c H locs cells slots Q (F0 m pc ls (.ref (ad 5) :: rest)) :=
  va_get (D := D) (ci := 1) (v := .ref (ad 35)) (C := RX1) (T := TX1) (N := 8) F.1 F.2.1 F.2.2.2.2 hin F.2.2.2.1 hK hP 5 rfl rfl 1 (by decide) hlink (fun _ h => h) rfl hdg kk
set_option maxRecDepth 100000 in
theorem gC_X1_colourOf (F : CallFix p m c cc nL s args Ts own) (hK : va_K D vwCl [(cI, .int), (cJ, .long)] s) (hin : ∀ w ∈ u_ws RX1 TX1 8, w ∈ Ts) (hP : va_P D vwCl ((wdC ad cI cJ) σ) H) (hlink : (Cond.fieldLink own index "TokenFloor$Floor" "colourOf" "[I").before args s = true) (hdg : decode cc pc = .ok (.getfield index, 3)) (kk : W p l e R s m args below meth c H locs cells slots Q (F0 m (pc + 3) ls (.ref (ad 36) :: rest))) : W p l e R s m args below meth c H locs cells slots Q (F0 m pc ls (.ref (ad 5) :: rest)) :=
  va_get (D := D) (ci := 1) (v := .ref (ad 36)) (C := RX1) (T := TX1) (N := 8) F.1 F.2.1 F.2.2.2.2 hin F.2.2.2.1 hK hP 5 rfl rfl 2 (by decide) hlink (fun _ h => h) rfl hdg kk
set_option maxRecDepth 100000 in
theorem gC_X1_count (F : CallFix p m c cc nL s args Ts own) (hK : va_K D vwCl [(cI, .int), (cJ, .long)] s) (hin : ∀ w ∈ u_ws RX1 TX1 8, w ∈ Ts) (hP : va_P D vwCl ((wdC ad cI cJ) σ) H) (hlink : (Cond.fieldLink own index "TokenFloor$Floor" "count" "I").before args s = true) (hdg : decode cc pc = .ok (.getfield index, 3)) (kk : W p l e R s m args below meth c H locs cells slots Q (F0 m (pc + 3) ls (.int (gS σ 16) :: rest))) : W p l e R s m args below meth c H locs cells slots Q (F0 m pc ls (.ref (ad 5) :: rest)) :=
  va_get (D := D) (ci := 1) (v := .int (gS σ 16)) (C := RX1) (T := TX1) (N := 8) F.1 F.2.1 F.2.2.2.2 hin F.2.2.2.1 hK hP 5 rfl rfl 3 (by decide) hlink (fun _ h => h) rfl hdg kk
set_option maxRecDepth 100000 in
set_option maxHeartbeats 4000000 in
theorem pC_X1_count (F : CallFix p m c cc nL s args Ts own) (hK : va_K D vwCl [(cI, .int), (cJ, .long)] s) (hin : ∀ w ∈ u_ws RX1 TX1 8, w ∈ Ts) (hP : va_P D vwCl ((wdC ad cI cJ) σ) H) (hDs : ∀ σ, va_D A ((wdC ad cI cJ) σ)) (hS : va_S A s.heap H locs) (hlink : (Cond.fieldLink own index "TokenFloor$Floor" "count" "I").before args s = true) (hdg : decode cc pc = .ok (.putfield index, 3)) {v : Int32} (kk : ∀ (H1 : Heap) (locs1 : List Loc), va_P D vwCl ((wdC ad cI cJ) (sS σ 16 v)) H1 → va_S A s.heap H1 locs1 → W p l e R s m args below meth c H1 locs1 cells slots Q (F0 m (pc + 3) ls rest)) : W p l e R s m args below meth c H locs cells slots Q (F0 m pc ls (.int v :: .ref (ad 5) :: rest)) :=
  va_put (D := D) (ci := 1) (v := .int v) (ty := .int) (C := RX1) (T := TX1) (N := 8) F.1 F.2.1 F.2.2.2.2 hin tyX1 tyX1_ok nmX1 F.2.2.2.1 hK hP (hDs σ) hS 5 rfl rfl 3 (by decide) hlink (fun _ h => h) rfl (by decide +kernel) rfl rfl (Nat.le_of_ble_eq_true rfl) hdg (fun H1 locs1 hP _ hS => kk H1 locs1 hP hS)
set_option maxRecDepth 100000 in
theorem gC_X1_had (F : CallFix p m c cc nL s args Ts own) (hK : va_K D vwCl [(cI, .int), (cJ, .long)] s) (hin : ∀ w ∈ u_ws RX1 TX1 8, w ∈ Ts) (hP : va_P D vwCl ((wdC ad cI cJ) σ) H) (hlink : (Cond.fieldLink own index "TokenFloor$Floor" "had" "[I").before args s = true) (hdg : decode cc pc = .ok (.getfield index, 3)) (kk : W p l e R s m args below meth c H locs cells slots Q (F0 m (pc + 3) ls (.ref (ad 37) :: rest))) : W p l e R s m args below meth c H locs cells slots Q (F0 m pc ls (.ref (ad 5) :: rest)) :=
  va_get (D := D) (ci := 1) (v := .ref (ad 37)) (C := RX1) (T := TX1) (N := 8) F.1 F.2.1 F.2.2.2.2 hin F.2.2.2.1 hK hP 5 rfl rfl 4 (by decide) hlink (fun _ h => h) rfl hdg kk
set_option maxRecDepth 100000 in
theorem gC_X1_came (F : CallFix p m c cc nL s args Ts own) (hK : va_K D vwCl [(cI, .int), (cJ, .long)] s) (hin : ∀ w ∈ u_ws RX1 TX1 8, w ∈ Ts) (hP : va_P D vwCl ((wdC ad cI cJ) σ) H) (hlink : (Cond.fieldLink own index "TokenFloor$Floor" "came" "[J").before args s = true) (hdg : decode cc pc = .ok (.getfield index, 3)) (kk : W p l e R s m args below meth c H locs cells slots Q (F0 m (pc + 3) ls (.ref (ad 38) :: rest))) : W p l e R s m args below meth c H locs cells slots Q (F0 m pc ls (.ref (ad 5) :: rest)) :=
  va_get (D := D) (ci := 1) (v := .ref (ad 38)) (C := RX1) (T := TX1) (N := 8) F.1 F.2.1 F.2.2.2.2 hin F.2.2.2.1 hK hP 5 rfl rfl 5 (by decide) hlink (fun _ h => h) rfl hdg kk
set_option maxRecDepth 100000 in
theorem gC_X1_firstPair (F : CallFix p m c cc nL s args Ts own) (hK : va_K D vwCl [(cI, .int), (cJ, .long)] s) (hin : ∀ w ∈ u_ws RX1 TX1 8, w ∈ Ts) (hP : va_P D vwCl ((wdC ad cI cJ) σ) H) (hlink : (Cond.fieldLink own index "TokenFloor$Floor" "firstPair" "[I").before args s = true) (hdg : decode cc pc = .ok (.getfield index, 3)) (kk : W p l e R s m args below meth c H locs cells slots Q (F0 m (pc + 3) ls (.ref (ad 39) :: rest))) : W p l e R s m args below meth c H locs cells slots Q (F0 m pc ls (.ref (ad 5) :: rest)) :=
  va_get (D := D) (ci := 1) (v := .ref (ad 39)) (C := RX1) (T := TX1) (N := 8) F.1 F.2.1 F.2.2.2.2 hin F.2.2.2.1 hK hP 5 rfl rfl 6 (by decide) hlink (fun _ h => h) rfl hdg kk
set_option maxRecDepth 100000 in
theorem gC_X1_nextPair (F : CallFix p m c cc nL s args Ts own) (hK : va_K D vwCl [(cI, .int), (cJ, .long)] s) (hin : ∀ w ∈ u_ws RX1 TX1 8, w ∈ Ts) (hP : va_P D vwCl ((wdC ad cI cJ) σ) H) (hlink : (Cond.fieldLink own index "TokenFloor$Floor" "nextPair" "[I").before args s = true) (hdg : decode cc pc = .ok (.getfield index, 3)) (kk : W p l e R s m args below meth c H locs cells slots Q (F0 m (pc + 3) ls (.ref (ad 40) :: rest))) : W p l e R s m args below meth c H locs cells slots Q (F0 m pc ls (.ref (ad 5) :: rest)) :=
  va_get (D := D) (ci := 1) (v := .ref (ad 40)) (C := RX1) (T := TX1) (N := 8) F.1 F.2.1 F.2.2.2.2 hin F.2.2.2.1 hK hP 5 rfl rfl 7 (by decide) hlink (fun _ h => h) rfl hdg kk
set_option maxRecDepth 100000 in
theorem gC_X5_row (F : CallFix p m c cc nL s args Ts own) (hK : va_K D vwCl [(cI, .int), (cJ, .long)] s) (hin : ∀ w ∈ u_ws RX5 TX5 3, w ∈ Ts) (hP : va_P D vwCl ((wdC ad cI cJ) σ) H) (hlink : (Cond.fieldLink own index "TokenFloor$ReadyRow" "row" "[I").before args s = true) (hdg : decode cc pc = .ok (.getfield index, 3)) (kk : W p l e R s m args below meth c H locs cells slots Q (F0 m (pc + 3) ls (.ref (ad 41) :: rest))) : W p l e R s m args below meth c H locs cells slots Q (F0 m pc ls (.ref (ad 6) :: rest)) :=
  va_get (D := D) (ci := 4) (v := .ref (ad 41)) (C := RX5) (T := TX5) (N := 3) F.1 F.2.1 F.2.2.2.2 hin F.2.2.2.1 hK hP 6 rfl rfl 0 (by decide) hlink (fun _ h => h) rfl hdg kk
set_option maxRecDepth 100000 in
theorem gC_X5_head (F : CallFix p m c cc nL s args Ts own) (hK : va_K D vwCl [(cI, .int), (cJ, .long)] s) (hin : ∀ w ∈ u_ws RX5 TX5 3, w ∈ Ts) (hP : va_P D vwCl ((wdC ad cI cJ) σ) H) (hlink : (Cond.fieldLink own index "TokenFloor$ReadyRow" "head" "I").before args s = true) (hdg : decode cc pc = .ok (.getfield index, 3)) (kk : W p l e R s m args below meth c H locs cells slots Q (F0 m (pc + 3) ls (.int (gS σ 17) :: rest))) : W p l e R s m args below meth c H locs cells slots Q (F0 m pc ls (.ref (ad 6) :: rest)) :=
  va_get (D := D) (ci := 4) (v := .int (gS σ 17)) (C := RX5) (T := TX5) (N := 3) F.1 F.2.1 F.2.2.2.2 hin F.2.2.2.1 hK hP 6 rfl rfl 1 (by decide) hlink (fun _ h => h) rfl hdg kk
set_option maxRecDepth 100000 in
set_option maxHeartbeats 4000000 in
theorem pC_X5_head (F : CallFix p m c cc nL s args Ts own) (hK : va_K D vwCl [(cI, .int), (cJ, .long)] s) (hin : ∀ w ∈ u_ws RX5 TX5 3, w ∈ Ts) (hP : va_P D vwCl ((wdC ad cI cJ) σ) H) (hDs : ∀ σ, va_D A ((wdC ad cI cJ) σ)) (hS : va_S A s.heap H locs) (hlink : (Cond.fieldLink own index "TokenFloor$ReadyRow" "head" "I").before args s = true) (hdg : decode cc pc = .ok (.putfield index, 3)) {v : Int32} (kk : ∀ (H1 : Heap) (locs1 : List Loc), va_P D vwCl ((wdC ad cI cJ) (sS σ 17 v)) H1 → va_S A s.heap H1 locs1 → W p l e R s m args below meth c H1 locs1 cells slots Q (F0 m (pc + 3) ls rest)) : W p l e R s m args below meth c H locs cells slots Q (F0 m pc ls (.int v :: .ref (ad 6) :: rest)) :=
  va_put (D := D) (ci := 4) (v := .int v) (ty := .int) (C := RX5) (T := TX5) (N := 3) F.1 F.2.1 F.2.2.2.2 hin tyX5 tyX5_ok nmX5 F.2.2.2.1 hK hP (hDs σ) hS 6 rfl rfl 1 (by decide) hlink (fun _ h => h) rfl (by decide +kernel) rfl rfl (Nat.le_of_ble_eq_true rfl) hdg (fun H1 locs1 hP _ hS => kk H1 locs1 hP hS)
set_option maxRecDepth 100000 in
theorem gC_X5_tail (F : CallFix p m c cc nL s args Ts own) (hK : va_K D vwCl [(cI, .int), (cJ, .long)] s) (hin : ∀ w ∈ u_ws RX5 TX5 3, w ∈ Ts) (hP : va_P D vwCl ((wdC ad cI cJ) σ) H) (hlink : (Cond.fieldLink own index "TokenFloor$ReadyRow" "tail" "I").before args s = true) (hdg : decode cc pc = .ok (.getfield index, 3)) (kk : W p l e R s m args below meth c H locs cells slots Q (F0 m (pc + 3) ls (.int (gS σ 18) :: rest))) : W p l e R s m args below meth c H locs cells slots Q (F0 m pc ls (.ref (ad 6) :: rest)) :=
  va_get (D := D) (ci := 4) (v := .int (gS σ 18)) (C := RX5) (T := TX5) (N := 3) F.1 F.2.1 F.2.2.2.2 hin F.2.2.2.1 hK hP 6 rfl rfl 2 (by decide) hlink (fun _ h => h) rfl hdg kk
set_option maxRecDepth 100000 in
set_option maxHeartbeats 4000000 in
theorem pC_X5_tail (F : CallFix p m c cc nL s args Ts own) (hK : va_K D vwCl [(cI, .int), (cJ, .long)] s) (hin : ∀ w ∈ u_ws RX5 TX5 3, w ∈ Ts) (hP : va_P D vwCl ((wdC ad cI cJ) σ) H) (hDs : ∀ σ, va_D A ((wdC ad cI cJ) σ)) (hS : va_S A s.heap H locs) (hlink : (Cond.fieldLink own index "TokenFloor$ReadyRow" "tail" "I").before args s = true) (hdg : decode cc pc = .ok (.putfield index, 3)) {v : Int32} (kk : ∀ (H1 : Heap) (locs1 : List Loc), va_P D vwCl ((wdC ad cI cJ) (sS σ 18 v)) H1 → va_S A s.heap H1 locs1 → W p l e R s m args below meth c H1 locs1 cells slots Q (F0 m (pc + 3) ls rest)) : W p l e R s m args below meth c H locs cells slots Q (F0 m pc ls (.int v :: .ref (ad 6) :: rest)) :=
  va_put (D := D) (ci := 4) (v := .int v) (ty := .int) (C := RX5) (T := TX5) (N := 3) F.1 F.2.1 F.2.2.2.2 hin tyX5 tyX5_ok nmX5 F.2.2.2.1 hK hP (hDs σ) hS 6 rfl rfl 2 (by decide) hlink (fun _ h => h) rfl (by decide +kernel) rfl rfl (Nat.le_of_ble_eq_true rfl) hdg (fun H1 locs1 hP _ hS => kk H1 locs1 hP hS)
set_option maxRecDepth 100000 in
theorem lC_X9_figuresA (F : CallFix p m c cc nL s args Ts own) (hK : va_K D vwCl [(cI, .int), (cJ, .long)] s) (hP : va_P D vwCl ((wdC ad cI cJ) σ) H) {i : Int32} (hi : vp_in i 100) (hdg : decode cc pc = .ok (.laload, 1)) (kk : W p l e R s m args below meth c H locs cells slots Q (F0 m (pc + 1) ls (.long (gL σ 0 i.toNatClampNeg) :: rest))) : W p l e R s m args below meth c H locs cells slots Q (F0 m pc ls (.int i :: .ref (ad 7) :: rest)) :=
  va_lald F.1 F.2.1 hK hP 7 1 rfl rfl hi hdg kk
set_option maxRecDepth 100000 in
set_option maxHeartbeats 4000000 in
theorem sC_X9_figuresA (F : CallFix p m c cc nL s args Ts own) (hK : va_K D vwCl [(cI, .int), (cJ, .long)] s) (hP : va_P D vwCl ((wdC ad cI cJ) σ) H) (hDs : ∀ σ, va_D A ((wdC ad cI cJ) σ)) (hS : va_S A s.heap H locs) {i : Int32} {x : Int64} (hi : vp_in i 100) (hdg : decode cc pc = .ok (.lastore, 1)) (kk : ∀ (H1 : Heap) (locs1 : List Loc), va_P D vwCl ((wdC ad cI cJ) (sL σ 0 i.toNatClampNeg x)) H1 → va_S A s.heap H1 locs1 → W p l e R s m args below meth c H1 locs1 cells slots Q (F0 m (pc + 1) ls rest)) : W p l e R s m args below meth c H locs cells slots Q (F0 m pc ls (.long x :: .int i :: .ref (ad 7) :: rest)) :=
  va_last F.1 F.2.1 hK hP (hDs σ) hS 7 1 rfl rfl hi hdg (fun H1 locs1 hP _ hS => kk H1 locs1 hP hS)
set_option maxRecDepth 100000 in
theorem lC_X9_figuresB (F : CallFix p m c cc nL s args Ts own) (hK : va_K D vwCl [(cI, .int), (cJ, .long)] s) (hP : va_P D vwCl ((wdC ad cI cJ) σ) H) {i : Int32} (hi : vp_in i 100) (hdg : decode cc pc = .ok (.laload, 1)) (kk : W p l e R s m args below meth c H locs cells slots Q (F0 m (pc + 1) ls (.long (gL σ 1 i.toNatClampNeg) :: rest))) : W p l e R s m args below meth c H locs cells slots Q (F0 m pc ls (.int i :: .ref (ad 8) :: rest)) :=
  va_lald F.1 F.2.1 hK hP 8 1 rfl rfl hi hdg kk
set_option maxRecDepth 100000 in
set_option maxHeartbeats 4000000 in
theorem sC_X9_figuresB (F : CallFix p m c cc nL s args Ts own) (hK : va_K D vwCl [(cI, .int), (cJ, .long)] s) (hP : va_P D vwCl ((wdC ad cI cJ) σ) H) (hDs : ∀ σ, va_D A ((wdC ad cI cJ) σ)) (hS : va_S A s.heap H locs) {i : Int32} {x : Int64} (hi : vp_in i 100) (hdg : decode cc pc = .ok (.lastore, 1)) (kk : ∀ (H1 : Heap) (locs1 : List Loc), va_P D vwCl ((wdC ad cI cJ) (sL σ 1 i.toNatClampNeg x)) H1 → va_S A s.heap H1 locs1 → W p l e R s m args below meth c H1 locs1 cells slots Q (F0 m (pc + 1) ls rest)) : W p l e R s m args below meth c H locs cells slots Q (F0 m pc ls (.long x :: .int i :: .ref (ad 8) :: rest)) :=
  va_last F.1 F.2.1 hK hP (hDs σ) hS 8 1 rfl rfl hi hdg (fun H1 locs1 hP _ hS => kk H1 locs1 hP hS)
set_option maxRecDepth 100000 in
theorem lC_X2_kind (F : CallFix p m c cc nL s args Ts own) (hK : va_K D vwCl [(cI, .int), (cJ, .long)] s) (hP : va_P D vwCl ((wdC ad cI cJ) σ) H) {i : Int32} (hi : vp_in i 80) (hdg : decode cc pc = .ok (.iaload, 1)) (kk : W p l e R s m args below meth c H locs cells slots Q (F0 m (pc + 1) ls (.int (gA σ 0 i.toNatClampNeg) :: rest))) : W p l e R s m args below meth c H locs cells slots Q (F0 m pc ls (.int i :: .ref (ad 9) :: rest)) :=
  va_iald F.1 F.2.1 hK hP 9 0 rfl rfl hi hdg kk
set_option maxRecDepth 100000 in
set_option maxHeartbeats 4000000 in
theorem sC_X2_kind (F : CallFix p m c cc nL s args Ts own) (hK : va_K D vwCl [(cI, .int), (cJ, .long)] s) (hP : va_P D vwCl ((wdC ad cI cJ) σ) H) (hDs : ∀ σ, va_D A ((wdC ad cI cJ) σ)) (hS : va_S A s.heap H locs) {i : Int32} {x : Int32} (hi : vp_in i 80) (hdg : decode cc pc = .ok (.iastore, 1)) (kk : ∀ (H1 : Heap) (locs1 : List Loc), va_P D vwCl ((wdC ad cI cJ) (sA σ 0 i.toNatClampNeg x)) H1 → va_S A s.heap H1 locs1 → W p l e R s m args below meth c H1 locs1 cells slots Q (F0 m (pc + 1) ls rest)) : W p l e R s m args below meth c H locs cells slots Q (F0 m pc ls (.int x :: .int i :: .ref (ad 9) :: rest)) :=
  va_iast F.1 F.2.1 hK hP (hDs σ) hS 9 0 rfl rfl hi hdg (fun H1 locs1 hP _ hS => kk H1 locs1 hP hS)
set_option maxRecDepth 100000 in
theorem lC_X2_number (F : CallFix p m c cc nL s args Ts own) (hK : va_K D vwCl [(cI, .int), (cJ, .long)] s) (hP : va_P D vwCl ((wdC ad cI cJ) σ) H) {i : Int32} (hi : vp_in i 80) (hdg : decode cc pc = .ok (.iaload, 1)) (kk : W p l e R s m args below meth c H locs cells slots Q (F0 m (pc + 1) ls (.int (gA σ 1 i.toNatClampNeg) :: rest))) : W p l e R s m args below meth c H locs cells slots Q (F0 m pc ls (.int i :: .ref (ad 10) :: rest)) :=
  va_iald F.1 F.2.1 hK hP 10 0 rfl rfl hi hdg kk
set_option maxRecDepth 100000 in
set_option maxHeartbeats 4000000 in
theorem sC_X2_number (F : CallFix p m c cc nL s args Ts own) (hK : va_K D vwCl [(cI, .int), (cJ, .long)] s) (hP : va_P D vwCl ((wdC ad cI cJ) σ) H) (hDs : ∀ σ, va_D A ((wdC ad cI cJ) σ)) (hS : va_S A s.heap H locs) {i : Int32} {x : Int32} (hi : vp_in i 80) (hdg : decode cc pc = .ok (.iastore, 1)) (kk : ∀ (H1 : Heap) (locs1 : List Loc), va_P D vwCl ((wdC ad cI cJ) (sA σ 1 i.toNatClampNeg x)) H1 → va_S A s.heap H1 locs1 → W p l e R s m args below meth c H1 locs1 cells slots Q (F0 m (pc + 1) ls rest)) : W p l e R s m args below meth c H locs cells slots Q (F0 m pc ls (.int x :: .int i :: .ref (ad 10) :: rest)) :=
  va_iast F.1 F.2.1 hK hP (hDs σ) hS 10 0 rfl rfl hi hdg (fun H1 locs1 hP _ hS => kk H1 locs1 hP hS)
set_option maxRecDepth 100000 in
theorem lC_X2_ports (F : CallFix p m c cc nL s args Ts own) (hK : va_K D vwCl [(cI, .int), (cJ, .long)] s) (hP : va_P D vwCl ((wdC ad cI cJ) σ) H) {i : Int32} (hi : vp_in i 80) (hdg : decode cc pc = .ok (.iaload, 1)) (kk : W p l e R s m args below meth c H locs cells slots Q (F0 m (pc + 1) ls (.int (gA σ 2 i.toNatClampNeg) :: rest))) : W p l e R s m args below meth c H locs cells slots Q (F0 m pc ls (.int i :: .ref (ad 11) :: rest)) :=
  va_iald F.1 F.2.1 hK hP 11 0 rfl rfl hi hdg kk
set_option maxRecDepth 100000 in
set_option maxHeartbeats 4000000 in
theorem sC_X2_ports (F : CallFix p m c cc nL s args Ts own) (hK : va_K D vwCl [(cI, .int), (cJ, .long)] s) (hP : va_P D vwCl ((wdC ad cI cJ) σ) H) (hDs : ∀ σ, va_D A ((wdC ad cI cJ) σ)) (hS : va_S A s.heap H locs) {i : Int32} {x : Int32} (hi : vp_in i 80) (hdg : decode cc pc = .ok (.iastore, 1)) (kk : ∀ (H1 : Heap) (locs1 : List Loc), va_P D vwCl ((wdC ad cI cJ) (sA σ 2 i.toNatClampNeg x)) H1 → va_S A s.heap H1 locs1 → W p l e R s m args below meth c H1 locs1 cells slots Q (F0 m (pc + 1) ls rest)) : W p l e R s m args below meth c H locs cells slots Q (F0 m pc ls (.int x :: .int i :: .ref (ad 11) :: rest)) :=
  va_iast F.1 F.2.1 hK hP (hDs σ) hS 11 0 rfl rfl hi hdg (fun H1 locs1 hP _ hS => kk H1 locs1 hP hS)
set_option maxRecDepth 100000 in
theorem lC_X2_parameter (F : CallFix p m c cc nL s args Ts own) (hK : va_K D vwCl [(cI, .int), (cJ, .long)] s) (hP : va_P D vwCl ((wdC ad cI cJ) σ) H) {i : Int32} (hi : vp_in i 100) (hdg : decode cc pc = .ok (.iaload, 1)) (kk : W p l e R s m args below meth c H locs cells slots Q (F0 m (pc + 1) ls (.int (gA σ 3 i.toNatClampNeg) :: rest))) : W p l e R s m args below meth c H locs cells slots Q (F0 m pc ls (.int i :: .ref (ad 12) :: rest)) :=
  va_iald F.1 F.2.1 hK hP 12 0 rfl rfl hi hdg kk
set_option maxRecDepth 100000 in
set_option maxHeartbeats 4000000 in
theorem sC_X2_parameter (F : CallFix p m c cc nL s args Ts own) (hK : va_K D vwCl [(cI, .int), (cJ, .long)] s) (hP : va_P D vwCl ((wdC ad cI cJ) σ) H) (hDs : ∀ σ, va_D A ((wdC ad cI cJ) σ)) (hS : va_S A s.heap H locs) {i : Int32} {x : Int32} (hi : vp_in i 100) (hdg : decode cc pc = .ok (.iastore, 1)) (kk : ∀ (H1 : Heap) (locs1 : List Loc), va_P D vwCl ((wdC ad cI cJ) (sA σ 3 i.toNatClampNeg x)) H1 → va_S A s.heap H1 locs1 → W p l e R s m args below meth c H1 locs1 cells slots Q (F0 m (pc + 1) ls rest)) : W p l e R s m args below meth c H locs cells slots Q (F0 m pc ls (.int x :: .int i :: .ref (ad 12) :: rest)) :=
  va_iast F.1 F.2.1 hK hP (hDs σ) hS 12 0 rfl rfl hi hdg (fun H1 locs1 hP _ hS => kk H1 locs1 hP hS)
set_option maxRecDepth 100000 in
theorem lC_X2_wayTo (F : CallFix p m c cc nL s args Ts own) (hK : va_K D vwCl [(cI, .int), (cJ, .long)] s) (hP : va_P D vwCl ((wdC ad cI cJ) σ) H) {i : Int32} (hi : vp_in i 300) (hdg : decode cc pc = .ok (.iaload, 1)) (kk : W p l e R s m args below meth c H locs cells slots Q (F0 m (pc + 1) ls (.int (gA σ 4 i.toNatClampNeg) :: rest))) : W p l e R s m args below meth c H locs cells slots Q (F0 m pc ls (.int i :: .ref (ad 13) :: rest)) :=
  va_iald F.1 F.2.1 hK hP 13 0 rfl rfl hi hdg kk
set_option maxRecDepth 100000 in
set_option maxHeartbeats 4000000 in
theorem sC_X2_wayTo (F : CallFix p m c cc nL s args Ts own) (hK : va_K D vwCl [(cI, .int), (cJ, .long)] s) (hP : va_P D vwCl ((wdC ad cI cJ) σ) H) (hDs : ∀ σ, va_D A ((wdC ad cI cJ) σ)) (hS : va_S A s.heap H locs) {i : Int32} {x : Int32} (hi : vp_in i 300) (hdg : decode cc pc = .ok (.iastore, 1)) (kk : ∀ (H1 : Heap) (locs1 : List Loc), va_P D vwCl ((wdC ad cI cJ) (sA σ 4 i.toNatClampNeg x)) H1 → va_S A s.heap H1 locs1 → W p l e R s m args below meth c H1 locs1 cells slots Q (F0 m (pc + 1) ls rest)) : W p l e R s m args below meth c H locs cells slots Q (F0 m pc ls (.int x :: .int i :: .ref (ad 13) :: rest)) :=
  va_iast F.1 F.2.1 hK hP (hDs σ) hS 13 0 rfl rfl hi hdg (fun H1 locs1 hP _ hS => kk H1 locs1 hP hS)
set_option maxRecDepth 100000 in
theorem lC_X2_wayPort (F : CallFix p m c cc nL s args Ts own) (hK : va_K D vwCl [(cI, .int), (cJ, .long)] s) (hP : va_P D vwCl ((wdC ad cI cJ) σ) H) {i : Int32} (hi : vp_in i 300) (hdg : decode cc pc = .ok (.iaload, 1)) (kk : W p l e R s m args below meth c H locs cells slots Q (F0 m (pc + 1) ls (.int (gA σ 5 i.toNatClampNeg) :: rest))) : W p l e R s m args below meth c H locs cells slots Q (F0 m pc ls (.int i :: .ref (ad 14) :: rest)) :=
  va_iald F.1 F.2.1 hK hP 14 0 rfl rfl hi hdg kk
set_option maxRecDepth 100000 in
set_option maxHeartbeats 4000000 in
theorem sC_X2_wayPort (F : CallFix p m c cc nL s args Ts own) (hK : va_K D vwCl [(cI, .int), (cJ, .long)] s) (hP : va_P D vwCl ((wdC ad cI cJ) σ) H) (hDs : ∀ σ, va_D A ((wdC ad cI cJ) σ)) (hS : va_S A s.heap H locs) {i : Int32} {x : Int32} (hi : vp_in i 300) (hdg : decode cc pc = .ok (.iastore, 1)) (kk : ∀ (H1 : Heap) (locs1 : List Loc), va_P D vwCl ((wdC ad cI cJ) (sA σ 5 i.toNatClampNeg x)) H1 → va_S A s.heap H1 locs1 → W p l e R s m args below meth c H1 locs1 cells slots Q (F0 m (pc + 1) ls rest)) : W p l e R s m args below meth c H locs cells slots Q (F0 m pc ls (.int x :: .int i :: .ref (ad 14) :: rest)) :=
  va_iast F.1 F.2.1 hK hP (hDs σ) hS 14 0 rfl rfl hi hdg (fun H1 locs1 hP _ hS => kk H1 locs1 hP hS)
set_option maxRecDepth 100000 in
theorem lC_X2_nextWay (F : CallFix p m c cc nL s args Ts own) (hK : va_K D vwCl [(cI, .int), (cJ, .long)] s) (hP : va_P D vwCl ((wdC ad cI cJ) σ) H) {i : Int32} (hi : vp_in i 300) (hdg : decode cc pc = .ok (.iaload, 1)) (kk : W p l e R s m args below meth c H locs cells slots Q (F0 m (pc + 1) ls (.int (gA σ 6 i.toNatClampNeg) :: rest))) : W p l e R s m args below meth c H locs cells slots Q (F0 m pc ls (.int i :: .ref (ad 15) :: rest)) :=
  va_iald F.1 F.2.1 hK hP 15 0 rfl rfl hi hdg kk
set_option maxRecDepth 100000 in
set_option maxHeartbeats 4000000 in
theorem sC_X2_nextWay (F : CallFix p m c cc nL s args Ts own) (hK : va_K D vwCl [(cI, .int), (cJ, .long)] s) (hP : va_P D vwCl ((wdC ad cI cJ) σ) H) (hDs : ∀ σ, va_D A ((wdC ad cI cJ) σ)) (hS : va_S A s.heap H locs) {i : Int32} {x : Int32} (hi : vp_in i 300) (hdg : decode cc pc = .ok (.iastore, 1)) (kk : ∀ (H1 : Heap) (locs1 : List Loc), va_P D vwCl ((wdC ad cI cJ) (sA σ 6 i.toNatClampNeg x)) H1 → va_S A s.heap H1 locs1 → W p l e R s m args below meth c H1 locs1 cells slots Q (F0 m (pc + 1) ls rest)) : W p l e R s m args below meth c H locs cells slots Q (F0 m pc ls (.int x :: .int i :: .ref (ad 15) :: rest)) :=
  va_iast F.1 F.2.1 hK hP (hDs σ) hS 15 0 rfl rfl hi hdg (fun H1 locs1 hP _ hS => kk H1 locs1 hP hS)
set_option maxRecDepth 100000 in
theorem lC_X2_firstWay (F : CallFix p m c cc nL s args Ts own) (hK : va_K D vwCl [(cI, .int), (cJ, .long)] s) (hP : va_P D vwCl ((wdC ad cI cJ) σ) H) {i : Int32} (hi : vp_in i 160) (hdg : decode cc pc = .ok (.iaload, 1)) (kk : W p l e R s m args below meth c H locs cells slots Q (F0 m (pc + 1) ls (.int (gA σ 7 i.toNatClampNeg) :: rest))) : W p l e R s m args below meth c H locs cells slots Q (F0 m pc ls (.int i :: .ref (ad 16) :: rest)) :=
  va_iald F.1 F.2.1 hK hP 16 0 rfl rfl hi hdg kk
set_option maxRecDepth 100000 in
set_option maxHeartbeats 4000000 in
theorem sC_X2_firstWay (F : CallFix p m c cc nL s args Ts own) (hK : va_K D vwCl [(cI, .int), (cJ, .long)] s) (hP : va_P D vwCl ((wdC ad cI cJ) σ) H) (hDs : ∀ σ, va_D A ((wdC ad cI cJ) σ)) (hS : va_S A s.heap H locs) {i : Int32} {x : Int32} (hi : vp_in i 160) (hdg : decode cc pc = .ok (.iastore, 1)) (kk : ∀ (H1 : Heap) (locs1 : List Loc), va_P D vwCl ((wdC ad cI cJ) (sA σ 7 i.toNatClampNeg x)) H1 → va_S A s.heap H1 locs1 → W p l e R s m args below meth c H1 locs1 cells slots Q (F0 m (pc + 1) ls rest)) : W p l e R s m args below meth c H locs cells slots Q (F0 m pc ls (.int x :: .int i :: .ref (ad 16) :: rest)) :=
  va_iast F.1 F.2.1 hK hP (hDs σ) hS 16 0 rfl rfl hi hdg (fun H1 locs1 hP _ hS => kk H1 locs1 hP hS)
set_option maxRecDepth 100000 in
theorem lC_X2_lastWay (F : CallFix p m c cc nL s args Ts own) (hK : va_K D vwCl [(cI, .int), (cJ, .long)] s) (hP : va_P D vwCl ((wdC ad cI cJ) σ) H) {i : Int32} (hi : vp_in i 160) (hdg : decode cc pc = .ok (.iaload, 1)) (kk : W p l e R s m args below meth c H locs cells slots Q (F0 m (pc + 1) ls (.int (gA σ 8 i.toNatClampNeg) :: rest))) : W p l e R s m args below meth c H locs cells slots Q (F0 m pc ls (.int i :: .ref (ad 17) :: rest)) :=
  va_iald F.1 F.2.1 hK hP 17 0 rfl rfl hi hdg kk
set_option maxRecDepth 100000 in
set_option maxHeartbeats 4000000 in
theorem sC_X2_lastWay (F : CallFix p m c cc nL s args Ts own) (hK : va_K D vwCl [(cI, .int), (cJ, .long)] s) (hP : va_P D vwCl ((wdC ad cI cJ) σ) H) (hDs : ∀ σ, va_D A ((wdC ad cI cJ) σ)) (hS : va_S A s.heap H locs) {i : Int32} {x : Int32} (hi : vp_in i 160) (hdg : decode cc pc = .ok (.iastore, 1)) (kk : ∀ (H1 : Heap) (locs1 : List Loc), va_P D vwCl ((wdC ad cI cJ) (sA σ 8 i.toNatClampNeg x)) H1 → va_S A s.heap H1 locs1 → W p l e R s m args below meth c H1 locs1 cells slots Q (F0 m (pc + 1) ls rest)) : W p l e R s m args below meth c H locs cells slots Q (F0 m pc ls (.int x :: .int i :: .ref (ad 17) :: rest)) :=
  va_iast F.1 F.2.1 hK hP (hDs σ) hS 17 0 rfl rfl hi hdg (fun H1 locs1 hP _ hS => kk H1 locs1 hP hS)
set_option maxRecDepth 100000 in
theorem lC_X2_tokenAct (F : CallFix p m c cc nL s args Ts own) (hK : va_K D vwCl [(cI, .int), (cJ, .long)] s) (hP : va_P D vwCl ((wdC ad cI cJ) σ) H) {i : Int32} (hi : vp_in i 40) (hdg : decode cc pc = .ok (.iaload, 1)) (kk : W p l e R s m args below meth c H locs cells slots Q (F0 m (pc + 1) ls (.int (gA σ 9 i.toNatClampNeg) :: rest))) : W p l e R s m args below meth c H locs cells slots Q (F0 m pc ls (.int i :: .ref (ad 18) :: rest)) :=
  va_iald F.1 F.2.1 hK hP 18 0 rfl rfl hi hdg kk
set_option maxRecDepth 100000 in
set_option maxHeartbeats 4000000 in
theorem sC_X2_tokenAct (F : CallFix p m c cc nL s args Ts own) (hK : va_K D vwCl [(cI, .int), (cJ, .long)] s) (hP : va_P D vwCl ((wdC ad cI cJ) σ) H) (hDs : ∀ σ, va_D A ((wdC ad cI cJ) σ)) (hS : va_S A s.heap H locs) {i : Int32} {x : Int32} (hi : vp_in i 40) (hdg : decode cc pc = .ok (.iastore, 1)) (kk : ∀ (H1 : Heap) (locs1 : List Loc), va_P D vwCl ((wdC ad cI cJ) (sA σ 9 i.toNatClampNeg x)) H1 → va_S A s.heap H1 locs1 → W p l e R s m args below meth c H1 locs1 cells slots Q (F0 m (pc + 1) ls rest)) : W p l e R s m args below meth c H locs cells slots Q (F0 m pc ls (.int x :: .int i :: .ref (ad 18) :: rest)) :=
  va_iast F.1 F.2.1 hK hP (hDs σ) hS 18 0 rfl rfl hi hdg (fun H1 locs1 hP _ hS => kk H1 locs1 hP hS)
set_option maxRecDepth 100000 in
theorem lC_X2_tokenPort (F : CallFix p m c cc nL s args Ts own) (hK : va_K D vwCl [(cI, .int), (cJ, .long)] s) (hP : va_P D vwCl ((wdC ad cI cJ) σ) H) {i : Int32} (hi : vp_in i 40) (hdg : decode cc pc = .ok (.iaload, 1)) (kk : W p l e R s m args below meth c H locs cells slots Q (F0 m (pc + 1) ls (.int (gA σ 10 i.toNatClampNeg) :: rest))) : W p l e R s m args below meth c H locs cells slots Q (F0 m pc ls (.int i :: .ref (ad 19) :: rest)) :=
  va_iald F.1 F.2.1 hK hP 19 0 rfl rfl hi hdg kk
set_option maxRecDepth 100000 in
set_option maxHeartbeats 4000000 in
theorem sC_X2_tokenPort (F : CallFix p m c cc nL s args Ts own) (hK : va_K D vwCl [(cI, .int), (cJ, .long)] s) (hP : va_P D vwCl ((wdC ad cI cJ) σ) H) (hDs : ∀ σ, va_D A ((wdC ad cI cJ) σ)) (hS : va_S A s.heap H locs) {i : Int32} {x : Int32} (hi : vp_in i 40) (hdg : decode cc pc = .ok (.iastore, 1)) (kk : ∀ (H1 : Heap) (locs1 : List Loc), va_P D vwCl ((wdC ad cI cJ) (sA σ 10 i.toNatClampNeg x)) H1 → va_S A s.heap H1 locs1 → W p l e R s m args below meth c H1 locs1 cells slots Q (F0 m (pc + 1) ls rest)) : W p l e R s m args below meth c H locs cells slots Q (F0 m pc ls (.int x :: .int i :: .ref (ad 19) :: rest)) :=
  va_iast F.1 F.2.1 hK hP (hDs σ) hS 19 0 rfl rfl hi hdg (fun H1 locs1 hP _ hS => kk H1 locs1 hP hS)
set_option maxRecDepth 100000 in
theorem lC_X2_tokenValue (F : CallFix p m c cc nL s args Ts own) (hK : va_K D vwCl [(cI, .int), (cJ, .long)] s) (hP : va_P D vwCl ((wdC ad cI cJ) σ) H) {i : Int32} (hi : vp_in i 40) (hdg : decode cc pc = .ok (.iaload, 1)) (kk : W p l e R s m args below meth c H locs cells slots Q (F0 m (pc + 1) ls (.int (gA σ 11 i.toNatClampNeg) :: rest))) : W p l e R s m args below meth c H locs cells slots Q (F0 m pc ls (.int i :: .ref (ad 20) :: rest)) :=
  va_iald F.1 F.2.1 hK hP 20 0 rfl rfl hi hdg kk
set_option maxRecDepth 100000 in
set_option maxHeartbeats 4000000 in
theorem sC_X2_tokenValue (F : CallFix p m c cc nL s args Ts own) (hK : va_K D vwCl [(cI, .int), (cJ, .long)] s) (hP : va_P D vwCl ((wdC ad cI cJ) σ) H) (hDs : ∀ σ, va_D A ((wdC ad cI cJ) σ)) (hS : va_S A s.heap H locs) {i : Int32} {x : Int32} (hi : vp_in i 40) (hdg : decode cc pc = .ok (.iastore, 1)) (kk : ∀ (H1 : Heap) (locs1 : List Loc), va_P D vwCl ((wdC ad cI cJ) (sA σ 11 i.toNatClampNeg x)) H1 → va_S A s.heap H1 locs1 → W p l e R s m args below meth c H1 locs1 cells slots Q (F0 m (pc + 1) ls rest)) : W p l e R s m args below meth c H locs cells slots Q (F0 m pc ls (.int x :: .int i :: .ref (ad 20) :: rest)) :=
  va_iast F.1 F.2.1 hK hP (hDs σ) hS 20 0 rfl rfl hi hdg (fun H1 locs1 hP _ hS => kk H1 locs1 hP hS)
set_option maxRecDepth 100000 in
theorem lC_X4_firings (F : CallFix p m c cc nL s args Ts own) (hK : va_K D vwCl [(cI, .int), (cJ, .long)] s) (hP : va_P D vwCl ((wdC ad cI cJ) σ) H) {i : Int32} (hi : vp_in i 80) (hdg : decode cc pc = .ok (.iaload, 1)) (kk : W p l e R s m args below meth c H locs cells slots Q (F0 m (pc + 1) ls (.int (gA σ 12 i.toNatClampNeg) :: rest))) : W p l e R s m args below meth c H locs cells slots Q (F0 m pc ls (.int i :: .ref (ad 21) :: rest)) :=
  va_iald F.1 F.2.1 hK hP 21 0 rfl rfl hi hdg kk
set_option maxRecDepth 100000 in
set_option maxHeartbeats 4000000 in
theorem sC_X4_firings (F : CallFix p m c cc nL s args Ts own) (hK : va_K D vwCl [(cI, .int), (cJ, .long)] s) (hP : va_P D vwCl ((wdC ad cI cJ) σ) H) (hDs : ∀ σ, va_D A ((wdC ad cI cJ) σ)) (hS : va_S A s.heap H locs) {i : Int32} {x : Int32} (hi : vp_in i 80) (hdg : decode cc pc = .ok (.iastore, 1)) (kk : ∀ (H1 : Heap) (locs1 : List Loc), va_P D vwCl ((wdC ad cI cJ) (sA σ 12 i.toNatClampNeg x)) H1 → va_S A s.heap H1 locs1 → W p l e R s m args below meth c H1 locs1 cells slots Q (F0 m (pc + 1) ls rest)) : W p l e R s m args below meth c H locs cells slots Q (F0 m pc ls (.int x :: .int i :: .ref (ad 21) :: rest)) :=
  va_iast F.1 F.2.1 hK hP (hDs σ) hS 21 0 rfl rfl hi hdg (fun H1 locs1 hP _ hS => kk H1 locs1 hP hS)
set_option maxRecDepth 100000 in
theorem lC_X4_ends (F : CallFix p m c cc nL s args Ts own) (hK : va_K D vwCl [(cI, .int), (cJ, .long)] s) (hP : va_P D vwCl ((wdC ad cI cJ) σ) H) {i : Int32} (hi : vp_in i 10) (hdg : decode cc pc = .ok (.laload, 1)) (kk : W p l e R s m args below meth c H locs cells slots Q (F0 m (pc + 1) ls (.long (gL σ 2 i.toNatClampNeg) :: rest))) : W p l e R s m args below meth c H locs cells slots Q (F0 m pc ls (.int i :: .ref (ad 22) :: rest)) :=
  va_lald F.1 F.2.1 hK hP 22 1 rfl rfl hi hdg kk
set_option maxRecDepth 100000 in
set_option maxHeartbeats 4000000 in
theorem sC_X4_ends (F : CallFix p m c cc nL s args Ts own) (hK : va_K D vwCl [(cI, .int), (cJ, .long)] s) (hP : va_P D vwCl ((wdC ad cI cJ) σ) H) (hDs : ∀ σ, va_D A ((wdC ad cI cJ) σ)) (hS : va_S A s.heap H locs) {i : Int32} {x : Int64} (hi : vp_in i 10) (hdg : decode cc pc = .ok (.lastore, 1)) (kk : ∀ (H1 : Heap) (locs1 : List Loc), va_P D vwCl ((wdC ad cI cJ) (sL σ 2 i.toNatClampNeg x)) H1 → va_S A s.heap H1 locs1 → W p l e R s m args below meth c H1 locs1 cells slots Q (F0 m (pc + 1) ls rest)) : W p l e R s m args below meth c H locs cells slots Q (F0 m pc ls (.long x :: .int i :: .ref (ad 22) :: rest)) :=
  va_last F.1 F.2.1 hK hP (hDs σ) hS 22 1 rfl rfl hi hdg (fun H1 locs1 hP _ hS => kk H1 locs1 hP hS)
set_option maxRecDepth 100000 in
theorem lC_X6_rowOfAct (F : CallFix p m c cc nL s args Ts own) (hK : va_K D vwCl [(cI, .int), (cJ, .long)] s) (hP : va_P D vwCl ((wdC ad cI cJ) σ) H) {i : Int32} (hi : vp_in i 80) (hdg : decode cc pc = .ok (.iaload, 1)) (kk : W p l e R s m args below meth c H locs cells slots Q (F0 m (pc + 1) ls (.int (gA σ 13 i.toNatClampNeg) :: rest))) : W p l e R s m args below meth c H locs cells slots Q (F0 m pc ls (.int i :: .ref (ad 23) :: rest)) :=
  va_iald F.1 F.2.1 hK hP 23 0 rfl rfl hi hdg kk
set_option maxRecDepth 100000 in
set_option maxHeartbeats 4000000 in
theorem sC_X6_rowOfAct (F : CallFix p m c cc nL s args Ts own) (hK : va_K D vwCl [(cI, .int), (cJ, .long)] s) (hP : va_P D vwCl ((wdC ad cI cJ) σ) H) (hDs : ∀ σ, va_D A ((wdC ad cI cJ) σ)) (hS : va_S A s.heap H locs) {i : Int32} {x : Int32} (hi : vp_in i 80) (hdg : decode cc pc = .ok (.iastore, 1)) (kk : ∀ (H1 : Heap) (locs1 : List Loc), va_P D vwCl ((wdC ad cI cJ) (sA σ 13 i.toNatClampNeg x)) H1 → va_S A s.heap H1 locs1 → W p l e R s m args below meth c H1 locs1 cells slots Q (F0 m (pc + 1) ls rest)) : W p l e R s m args below meth c H locs cells slots Q (F0 m pc ls (.int x :: .int i :: .ref (ad 23) :: rest)) :=
  va_iast F.1 F.2.1 hK hP (hDs σ) hS 23 0 rfl rfl hi hdg (fun H1 locs1 hP _ hS => kk H1 locs1 hP hS)
set_option maxRecDepth 100000 in
theorem lC_X6_written (F : CallFix p m c cc nL s args Ts own) (hK : va_K D vwCl [(cI, .int), (cJ, .long)] s) (hP : va_P D vwCl ((wdC ad cI cJ) σ) H) {i : Int32} (hi : vp_in i 2000) (hdg : decode cc pc = .ok (.laload, 1)) (kk : W p l e R s m args below meth c H locs cells slots Q (F0 m (pc + 1) ls (.long (gL σ 3 i.toNatClampNeg) :: rest))) : W p l e R s m args below meth c H locs cells slots Q (F0 m pc ls (.int i :: .ref (ad 24) :: rest)) :=
  va_lald F.1 F.2.1 hK hP 24 1 rfl rfl hi hdg kk
set_option maxRecDepth 100000 in
set_option maxHeartbeats 4000000 in
theorem sC_X6_written (F : CallFix p m c cc nL s args Ts own) (hK : va_K D vwCl [(cI, .int), (cJ, .long)] s) (hP : va_P D vwCl ((wdC ad cI cJ) σ) H) (hDs : ∀ σ, va_D A ((wdC ad cI cJ) σ)) (hS : va_S A s.heap H locs) {i : Int32} {x : Int64} (hi : vp_in i 2000) (hdg : decode cc pc = .ok (.lastore, 1)) (kk : ∀ (H1 : Heap) (locs1 : List Loc), va_P D vwCl ((wdC ad cI cJ) (sL σ 3 i.toNatClampNeg x)) H1 → va_S A s.heap H1 locs1 → W p l e R s m args below meth c H1 locs1 cells slots Q (F0 m (pc + 1) ls rest)) : W p l e R s m args below meth c H locs cells slots Q (F0 m pc ls (.long x :: .int i :: .ref (ad 24) :: rest)) :=
  va_last F.1 F.2.1 hK hP (hDs σ) hS 24 1 rfl rfl hi hdg (fun H1 locs1 hP _ hS => kk H1 locs1 hP hS)
set_option maxRecDepth 100000 in
theorem lC_X6_start (F : CallFix p m c cc nL s args Ts own) (hK : va_K D vwCl [(cI, .int), (cJ, .long)] s) (hP : va_P D vwCl ((wdC ad cI cJ) σ) H) {i : Int32} (hi : vp_in i 300) (hdg : decode cc pc = .ok (.iaload, 1)) (kk : W p l e R s m args below meth c H locs cells slots Q (F0 m (pc + 1) ls (.int (gA σ 14 i.toNatClampNeg) :: rest))) : W p l e R s m args below meth c H locs cells slots Q (F0 m pc ls (.int i :: .ref (ad 25) :: rest)) :=
  va_iald F.1 F.2.1 hK hP 25 0 rfl rfl hi hdg kk
set_option maxRecDepth 100000 in
set_option maxHeartbeats 4000000 in
theorem sC_X6_start (F : CallFix p m c cc nL s args Ts own) (hK : va_K D vwCl [(cI, .int), (cJ, .long)] s) (hP : va_P D vwCl ((wdC ad cI cJ) σ) H) (hDs : ∀ σ, va_D A ((wdC ad cI cJ) σ)) (hS : va_S A s.heap H locs) {i : Int32} {x : Int32} (hi : vp_in i 300) (hdg : decode cc pc = .ok (.iastore, 1)) (kk : ∀ (H1 : Heap) (locs1 : List Loc), va_P D vwCl ((wdC ad cI cJ) (sA σ 14 i.toNatClampNeg x)) H1 → va_S A s.heap H1 locs1 → W p l e R s m args below meth c H1 locs1 cells slots Q (F0 m (pc + 1) ls rest)) : W p l e R s m args below meth c H locs cells slots Q (F0 m pc ls (.int x :: .int i :: .ref (ad 25) :: rest)) :=
  va_iast F.1 F.2.1 hK hP (hDs σ) hS 25 0 rfl rfl hi hdg (fun H1 locs1 hP _ hS => kk H1 locs1 hP hS)
set_option maxRecDepth 100000 in
theorem lC_X6_size (F : CallFix p m c cc nL s args Ts own) (hK : va_K D vwCl [(cI, .int), (cJ, .long)] s) (hP : va_P D vwCl ((wdC ad cI cJ) σ) H) {i : Int32} (hi : vp_in i 300) (hdg : decode cc pc = .ok (.iaload, 1)) (kk : W p l e R s m args below meth c H locs cells slots Q (F0 m (pc + 1) ls (.int (gA σ 15 i.toNatClampNeg) :: rest))) : W p l e R s m args below meth c H locs cells slots Q (F0 m pc ls (.int i :: .ref (ad 26) :: rest)) :=
  va_iald F.1 F.2.1 hK hP 26 0 rfl rfl hi hdg kk
set_option maxRecDepth 100000 in
set_option maxHeartbeats 4000000 in
theorem sC_X6_size (F : CallFix p m c cc nL s args Ts own) (hK : va_K D vwCl [(cI, .int), (cJ, .long)] s) (hP : va_P D vwCl ((wdC ad cI cJ) σ) H) (hDs : ∀ σ, va_D A ((wdC ad cI cJ) σ)) (hS : va_S A s.heap H locs) {i : Int32} {x : Int32} (hi : vp_in i 300) (hdg : decode cc pc = .ok (.iastore, 1)) (kk : ∀ (H1 : Heap) (locs1 : List Loc), va_P D vwCl ((wdC ad cI cJ) (sA σ 15 i.toNatClampNeg x)) H1 → va_S A s.heap H1 locs1 → W p l e R s m args below meth c H1 locs1 cells slots Q (F0 m (pc + 1) ls rest)) : W p l e R s m args below meth c H locs cells slots Q (F0 m pc ls (.int x :: .int i :: .ref (ad 26) :: rest)) :=
  va_iast F.1 F.2.1 hK hP (hDs σ) hS 26 0 rfl rfl hi hdg (fun H1 locs1 hP _ hS => kk H1 locs1 hP hS)
set_option maxRecDepth 100000 in
theorem lC_X6_firstReader (F : CallFix p m c cc nL s args Ts own) (hK : va_K D vwCl [(cI, .int), (cJ, .long)] s) (hP : va_P D vwCl ((wdC ad cI cJ) σ) H) {i : Int32} (hi : vp_in i 2000) (hdg : decode cc pc = .ok (.iaload, 1)) (kk : W p l e R s m args below meth c H locs cells slots Q (F0 m (pc + 1) ls (.int (gA σ 16 i.toNatClampNeg) :: rest))) : W p l e R s m args below meth c H locs cells slots Q (F0 m pc ls (.int i :: .ref (ad 27) :: rest)) :=
  va_iald F.1 F.2.1 hK hP 27 0 rfl rfl hi hdg kk
set_option maxRecDepth 100000 in
set_option maxHeartbeats 4000000 in
theorem sC_X6_firstReader (F : CallFix p m c cc nL s args Ts own) (hK : va_K D vwCl [(cI, .int), (cJ, .long)] s) (hP : va_P D vwCl ((wdC ad cI cJ) σ) H) (hDs : ∀ σ, va_D A ((wdC ad cI cJ) σ)) (hS : va_S A s.heap H locs) {i : Int32} {x : Int32} (hi : vp_in i 2000) (hdg : decode cc pc = .ok (.iastore, 1)) (kk : ∀ (H1 : Heap) (locs1 : List Loc), va_P D vwCl ((wdC ad cI cJ) (sA σ 16 i.toNatClampNeg x)) H1 → va_S A s.heap H1 locs1 → W p l e R s m args below meth c H1 locs1 cells slots Q (F0 m (pc + 1) ls rest)) : W p l e R s m args below meth c H locs cells slots Q (F0 m pc ls (.int x :: .int i :: .ref (ad 27) :: rest)) :=
  va_iast F.1 F.2.1 hK hP (hDs σ) hS 27 0 rfl rfl hi hdg (fun H1 locs1 hP _ hS => kk H1 locs1 hP hS)
set_option maxRecDepth 100000 in
theorem lC_X6_lastReader (F : CallFix p m c cc nL s args Ts own) (hK : va_K D vwCl [(cI, .int), (cJ, .long)] s) (hP : va_P D vwCl ((wdC ad cI cJ) σ) H) {i : Int32} (hi : vp_in i 2000) (hdg : decode cc pc = .ok (.iaload, 1)) (kk : W p l e R s m args below meth c H locs cells slots Q (F0 m (pc + 1) ls (.int (gA σ 17 i.toNatClampNeg) :: rest))) : W p l e R s m args below meth c H locs cells slots Q (F0 m pc ls (.int i :: .ref (ad 28) :: rest)) :=
  va_iald F.1 F.2.1 hK hP 28 0 rfl rfl hi hdg kk
set_option maxRecDepth 100000 in
set_option maxHeartbeats 4000000 in
theorem sC_X6_lastReader (F : CallFix p m c cc nL s args Ts own) (hK : va_K D vwCl [(cI, .int), (cJ, .long)] s) (hP : va_P D vwCl ((wdC ad cI cJ) σ) H) (hDs : ∀ σ, va_D A ((wdC ad cI cJ) σ)) (hS : va_S A s.heap H locs) {i : Int32} {x : Int32} (hi : vp_in i 2000) (hdg : decode cc pc = .ok (.iastore, 1)) (kk : ∀ (H1 : Heap) (locs1 : List Loc), va_P D vwCl ((wdC ad cI cJ) (sA σ 17 i.toNatClampNeg x)) H1 → va_S A s.heap H1 locs1 → W p l e R s m args below meth c H1 locs1 cells slots Q (F0 m (pc + 1) ls rest)) : W p l e R s m args below meth c H locs cells slots Q (F0 m pc ls (.int x :: .int i :: .ref (ad 28) :: rest)) :=
  va_iast F.1 F.2.1 hK hP (hDs σ) hS 28 0 rfl rfl hi hdg (fun H1 locs1 hP _ hS => kk H1 locs1 hP hS)
set_option maxRecDepth 100000 in
theorem lC_X6_nextReader (F : CallFix p m c cc nL s args Ts own) (hK : va_K D vwCl [(cI, .int), (cJ, .long)] s) (hP : va_P D vwCl ((wdC ad cI cJ) σ) H) {i : Int32} (hi : vp_in i 3000) (hdg : decode cc pc = .ok (.iaload, 1)) (kk : W p l e R s m args below meth c H locs cells slots Q (F0 m (pc + 1) ls (.int (gA σ 18 i.toNatClampNeg) :: rest))) : W p l e R s m args below meth c H locs cells slots Q (F0 m pc ls (.int i :: .ref (ad 29) :: rest)) :=
  va_iald F.1 F.2.1 hK hP 29 0 rfl rfl hi hdg kk
set_option maxRecDepth 100000 in
set_option maxHeartbeats 4000000 in
theorem sC_X6_nextReader (F : CallFix p m c cc nL s args Ts own) (hK : va_K D vwCl [(cI, .int), (cJ, .long)] s) (hP : va_P D vwCl ((wdC ad cI cJ) σ) H) (hDs : ∀ σ, va_D A ((wdC ad cI cJ) σ)) (hS : va_S A s.heap H locs) {i : Int32} {x : Int32} (hi : vp_in i 3000) (hdg : decode cc pc = .ok (.iastore, 1)) (kk : ∀ (H1 : Heap) (locs1 : List Loc), va_P D vwCl ((wdC ad cI cJ) (sA σ 18 i.toNatClampNeg x)) H1 → va_S A s.heap H1 locs1 → W p l e R s m args below meth c H1 locs1 cells slots Q (F0 m (pc + 1) ls rest)) : W p l e R s m args below meth c H locs cells slots Q (F0 m pc ls (.int x :: .int i :: .ref (ad 29) :: rest)) :=
  va_iast F.1 F.2.1 hK hP (hDs σ) hS 29 0 rfl rfl hi hdg (fun H1 locs1 hP _ hS => kk H1 locs1 hP hS)
set_option maxRecDepth 100000 in
theorem lC_X0_origin (F : CallFix p m c cc nL s args Ts own) (hK : va_K D vwCl [(cI, .int), (cJ, .long)] s) (hP : va_P D vwCl ((wdC ad cI cJ) σ) H) {i : Int32} (hi : vp_in i 600) (hdg : decode cc pc = .ok (.iaload, 1)) (kk : W p l e R s m args below meth c H locs cells slots Q (F0 m (pc + 1) ls (.int (gA σ 19 i.toNatClampNeg) :: rest))) : W p l e R s m args below meth c H locs cells slots Q (F0 m pc ls (.int i :: .ref (ad 30) :: rest)) :=
  va_iald F.1 F.2.1 hK hP 30 0 rfl rfl hi hdg kk
set_option maxRecDepth 100000 in
set_option maxHeartbeats 4000000 in
theorem sC_X0_origin (F : CallFix p m c cc nL s args Ts own) (hK : va_K D vwCl [(cI, .int), (cJ, .long)] s) (hP : va_P D vwCl ((wdC ad cI cJ) σ) H) (hDs : ∀ σ, va_D A ((wdC ad cI cJ) σ)) (hS : va_S A s.heap H locs) {i : Int32} {x : Int32} (hi : vp_in i 600) (hdg : decode cc pc = .ok (.iastore, 1)) (kk : ∀ (H1 : Heap) (locs1 : List Loc), va_P D vwCl ((wdC ad cI cJ) (sA σ 19 i.toNatClampNeg x)) H1 → va_S A s.heap H1 locs1 → W p l e R s m args below meth c H1 locs1 cells slots Q (F0 m (pc + 1) ls rest)) : W p l e R s m args below meth c H locs cells slots Q (F0 m pc ls (.int x :: .int i :: .ref (ad 30) :: rest)) :=
  va_iast F.1 F.2.1 hK hP (hDs σ) hS 30 0 rfl rfl hi hdg (fun H1 locs1 hP _ hS => kk H1 locs1 hP hS)
set_option maxRecDepth 100000 in
theorem lC_X0_outer (F : CallFix p m c cc nL s args Ts own) (hK : va_K D vwCl [(cI, .int), (cJ, .long)] s) (hP : va_P D vwCl ((wdC ad cI cJ) σ) H) {i : Int32} (hi : vp_in i 600) (hdg : decode cc pc = .ok (.iaload, 1)) (kk : W p l e R s m args below meth c H locs cells slots Q (F0 m (pc + 1) ls (.int (gA σ 20 i.toNatClampNeg) :: rest))) : W p l e R s m args below meth c H locs cells slots Q (F0 m pc ls (.int i :: .ref (ad 31) :: rest)) :=
  va_iald F.1 F.2.1 hK hP 31 0 rfl rfl hi hdg kk
set_option maxRecDepth 100000 in
set_option maxHeartbeats 4000000 in
theorem sC_X0_outer (F : CallFix p m c cc nL s args Ts own) (hK : va_K D vwCl [(cI, .int), (cJ, .long)] s) (hP : va_P D vwCl ((wdC ad cI cJ) σ) H) (hDs : ∀ σ, va_D A ((wdC ad cI cJ) σ)) (hS : va_S A s.heap H locs) {i : Int32} {x : Int32} (hi : vp_in i 600) (hdg : decode cc pc = .ok (.iastore, 1)) (kk : ∀ (H1 : Heap) (locs1 : List Loc), va_P D vwCl ((wdC ad cI cJ) (sA σ 20 i.toNatClampNeg x)) H1 → va_S A s.heap H1 locs1 → W p l e R s m args below meth c H1 locs1 cells slots Q (F0 m (pc + 1) ls rest)) : W p l e R s m args below meth c H locs cells slots Q (F0 m pc ls (.int x :: .int i :: .ref (ad 31) :: rest)) :=
  va_iast F.1 F.2.1 hK hP (hDs σ) hS 31 0 rfl rfl hi hdg (fun H1 locs1 hP _ hS => kk H1 locs1 hP hS)
set_option maxRecDepth 100000 in
theorem lC_X0_key (F : CallFix p m c cc nL s args Ts own) (hK : va_K D vwCl [(cI, .int), (cJ, .long)] s) (hP : va_P D vwCl ((wdC ad cI cJ) σ) H) {i : Int32} (hi : vp_in i 600) (hdg : decode cc pc = .ok (.iaload, 1)) (kk : W p l e R s m args below meth c H locs cells slots Q (F0 m (pc + 1) ls (.int (gA σ 21 i.toNatClampNeg) :: rest))) : W p l e R s m args below meth c H locs cells slots Q (F0 m pc ls (.int i :: .ref (ad 32) :: rest)) :=
  va_iald F.1 F.2.1 hK hP 32 0 rfl rfl hi hdg kk
set_option maxRecDepth 100000 in
set_option maxHeartbeats 4000000 in
theorem sC_X0_key (F : CallFix p m c cc nL s args Ts own) (hK : va_K D vwCl [(cI, .int), (cJ, .long)] s) (hP : va_P D vwCl ((wdC ad cI cJ) σ) H) (hDs : ∀ σ, va_D A ((wdC ad cI cJ) σ)) (hS : va_S A s.heap H locs) {i : Int32} {x : Int32} (hi : vp_in i 600) (hdg : decode cc pc = .ok (.iastore, 1)) (kk : ∀ (H1 : Heap) (locs1 : List Loc), va_P D vwCl ((wdC ad cI cJ) (sA σ 21 i.toNatClampNeg x)) H1 → va_S A s.heap H1 locs1 → W p l e R s m args below meth c H1 locs1 cells slots Q (F0 m (pc + 1) ls rest)) : W p l e R s m args below meth c H locs cells slots Q (F0 m pc ls (.int x :: .int i :: .ref (ad 32) :: rest)) :=
  va_iast F.1 F.2.1 hK hP (hDs σ) hS 32 0 rfl rfl hi hdg (fun H1 locs1 hP _ hS => kk H1 locs1 hP hS)
set_option maxRecDepth 100000 in
theorem lC_X0_firstReached (F : CallFix p m c cc nL s args Ts own) (hK : va_K D vwCl [(cI, .int), (cJ, .long)] s) (hP : va_P D vwCl ((wdC ad cI cJ) σ) H) {i : Int32} (hi : vp_in i 600) (hdg : decode cc pc = .ok (.iaload, 1)) (kk : W p l e R s m args below meth c H locs cells slots Q (F0 m (pc + 1) ls (.int (gA σ 22 i.toNatClampNeg) :: rest))) : W p l e R s m args below meth c H locs cells slots Q (F0 m pc ls (.int i :: .ref (ad 33) :: rest)) :=
  va_iald F.1 F.2.1 hK hP 33 0 rfl rfl hi hdg kk
set_option maxRecDepth 100000 in
set_option maxHeartbeats 4000000 in
theorem sC_X0_firstReached (F : CallFix p m c cc nL s args Ts own) (hK : va_K D vwCl [(cI, .int), (cJ, .long)] s) (hP : va_P D vwCl ((wdC ad cI cJ) σ) H) (hDs : ∀ σ, va_D A ((wdC ad cI cJ) σ)) (hS : va_S A s.heap H locs) {i : Int32} {x : Int32} (hi : vp_in i 600) (hdg : decode cc pc = .ok (.iastore, 1)) (kk : ∀ (H1 : Heap) (locs1 : List Loc), va_P D vwCl ((wdC ad cI cJ) (sA σ 22 i.toNatClampNeg x)) H1 → va_S A s.heap H1 locs1 → W p l e R s m args below meth c H1 locs1 cells slots Q (F0 m (pc + 1) ls rest)) : W p l e R s m args below meth c H locs cells slots Q (F0 m pc ls (.int x :: .int i :: .ref (ad 33) :: rest)) :=
  va_iast F.1 F.2.1 hK hP (hDs σ) hS 33 0 rfl rfl hi hdg (fun H1 locs1 hP _ hS => kk H1 locs1 hP hS)
set_option maxRecDepth 100000 in
theorem lC_X0_nextReached (F : CallFix p m c cc nL s args Ts own) (hK : va_K D vwCl [(cI, .int), (cJ, .long)] s) (hP : va_P D vwCl ((wdC ad cI cJ) σ) H) {i : Int32} (hi : vp_in i 600) (hdg : decode cc pc = .ok (.iaload, 1)) (kk : W p l e R s m args below meth c H locs cells slots Q (F0 m (pc + 1) ls (.int (gA σ 23 i.toNatClampNeg) :: rest))) : W p l e R s m args below meth c H locs cells slots Q (F0 m pc ls (.int i :: .ref (ad 34) :: rest)) :=
  va_iald F.1 F.2.1 hK hP 34 0 rfl rfl hi hdg kk
set_option maxRecDepth 100000 in
set_option maxHeartbeats 4000000 in
theorem sC_X0_nextReached (F : CallFix p m c cc nL s args Ts own) (hK : va_K D vwCl [(cI, .int), (cJ, .long)] s) (hP : va_P D vwCl ((wdC ad cI cJ) σ) H) (hDs : ∀ σ, va_D A ((wdC ad cI cJ) σ)) (hS : va_S A s.heap H locs) {i : Int32} {x : Int32} (hi : vp_in i 600) (hdg : decode cc pc = .ok (.iastore, 1)) (kk : ∀ (H1 : Heap) (locs1 : List Loc), va_P D vwCl ((wdC ad cI cJ) (sA σ 23 i.toNatClampNeg x)) H1 → va_S A s.heap H1 locs1 → W p l e R s m args below meth c H1 locs1 cells slots Q (F0 m (pc + 1) ls rest)) : W p l e R s m args below meth c H locs cells slots Q (F0 m pc ls (.int x :: .int i :: .ref (ad 34) :: rest)) :=
  va_iast F.1 F.2.1 hK hP (hDs σ) hS 34 0 rfl rfl hi hdg (fun H1 locs1 hP _ hS => kk H1 locs1 hP hS)
set_option maxRecDepth 100000 in
theorem lC_X1_actOf (F : CallFix p m c cc nL s args Ts own) (hK : va_K D vwCl [(cI, .int), (cJ, .long)] s) (hP : va_P D vwCl ((wdC ad cI cJ) σ) H) {i : Int32} (hi : vp_in i 3000) (hdg : decode cc pc = .ok (.iaload, 1)) (kk : W p l e R s m args below meth c H locs cells slots Q (F0 m (pc + 1) ls (.int (gA σ 24 i.toNatClampNeg) :: rest))) : W p l e R s m args below meth c H locs cells slots Q (F0 m pc ls (.int i :: .ref (ad 35) :: rest)) :=
  va_iald F.1 F.2.1 hK hP 35 0 rfl rfl hi hdg kk
set_option maxRecDepth 100000 in
set_option maxHeartbeats 4000000 in
theorem sC_X1_actOf (F : CallFix p m c cc nL s args Ts own) (hK : va_K D vwCl [(cI, .int), (cJ, .long)] s) (hP : va_P D vwCl ((wdC ad cI cJ) σ) H) (hDs : ∀ σ, va_D A ((wdC ad cI cJ) σ)) (hS : va_S A s.heap H locs) {i : Int32} {x : Int32} (hi : vp_in i 3000) (hdg : decode cc pc = .ok (.iastore, 1)) (kk : ∀ (H1 : Heap) (locs1 : List Loc), va_P D vwCl ((wdC ad cI cJ) (sA σ 24 i.toNatClampNeg x)) H1 → va_S A s.heap H1 locs1 → W p l e R s m args below meth c H1 locs1 cells slots Q (F0 m (pc + 1) ls rest)) : W p l e R s m args below meth c H locs cells slots Q (F0 m pc ls (.int x :: .int i :: .ref (ad 35) :: rest)) :=
  va_iast F.1 F.2.1 hK hP (hDs σ) hS 35 0 rfl rfl hi hdg (fun H1 locs1 hP _ hS => kk H1 locs1 hP hS)
set_option maxRecDepth 100000 in
theorem lC_X1_colourOf (F : CallFix p m c cc nL s args Ts own) (hK : va_K D vwCl [(cI, .int), (cJ, .long)] s) (hP : va_P D vwCl ((wdC ad cI cJ) σ) H) {i : Int32} (hi : vp_in i 3000) (hdg : decode cc pc = .ok (.iaload, 1)) (kk : W p l e R s m args below meth c H locs cells slots Q (F0 m (pc + 1) ls (.int (gA σ 25 i.toNatClampNeg) :: rest))) : W p l e R s m args below meth c H locs cells slots Q (F0 m pc ls (.int i :: .ref (ad 36) :: rest)) :=
  va_iald F.1 F.2.1 hK hP 36 0 rfl rfl hi hdg kk
set_option maxRecDepth 100000 in
set_option maxHeartbeats 4000000 in
theorem sC_X1_colourOf (F : CallFix p m c cc nL s args Ts own) (hK : va_K D vwCl [(cI, .int), (cJ, .long)] s) (hP : va_P D vwCl ((wdC ad cI cJ) σ) H) (hDs : ∀ σ, va_D A ((wdC ad cI cJ) σ)) (hS : va_S A s.heap H locs) {i : Int32} {x : Int32} (hi : vp_in i 3000) (hdg : decode cc pc = .ok (.iastore, 1)) (kk : ∀ (H1 : Heap) (locs1 : List Loc), va_P D vwCl ((wdC ad cI cJ) (sA σ 25 i.toNatClampNeg x)) H1 → va_S A s.heap H1 locs1 → W p l e R s m args below meth c H1 locs1 cells slots Q (F0 m (pc + 1) ls rest)) : W p l e R s m args below meth c H locs cells slots Q (F0 m pc ls (.int x :: .int i :: .ref (ad 36) :: rest)) :=
  va_iast F.1 F.2.1 hK hP (hDs σ) hS 36 0 rfl rfl hi hdg (fun H1 locs1 hP _ hS => kk H1 locs1 hP hS)
set_option maxRecDepth 100000 in
theorem lC_X1_had (F : CallFix p m c cc nL s args Ts own) (hK : va_K D vwCl [(cI, .int), (cJ, .long)] s) (hP : va_P D vwCl ((wdC ad cI cJ) σ) H) {i : Int32} (hi : vp_in i 3000) (hdg : decode cc pc = .ok (.iaload, 1)) (kk : W p l e R s m args below meth c H locs cells slots Q (F0 m (pc + 1) ls (.int (gA σ 26 i.toNatClampNeg) :: rest))) : W p l e R s m args below meth c H locs cells slots Q (F0 m pc ls (.int i :: .ref (ad 37) :: rest)) :=
  va_iald F.1 F.2.1 hK hP 37 0 rfl rfl hi hdg kk
set_option maxRecDepth 100000 in
set_option maxHeartbeats 4000000 in
theorem sC_X1_had (F : CallFix p m c cc nL s args Ts own) (hK : va_K D vwCl [(cI, .int), (cJ, .long)] s) (hP : va_P D vwCl ((wdC ad cI cJ) σ) H) (hDs : ∀ σ, va_D A ((wdC ad cI cJ) σ)) (hS : va_S A s.heap H locs) {i : Int32} {x : Int32} (hi : vp_in i 3000) (hdg : decode cc pc = .ok (.iastore, 1)) (kk : ∀ (H1 : Heap) (locs1 : List Loc), va_P D vwCl ((wdC ad cI cJ) (sA σ 26 i.toNatClampNeg x)) H1 → va_S A s.heap H1 locs1 → W p l e R s m args below meth c H1 locs1 cells slots Q (F0 m (pc + 1) ls rest)) : W p l e R s m args below meth c H locs cells slots Q (F0 m pc ls (.int x :: .int i :: .ref (ad 37) :: rest)) :=
  va_iast F.1 F.2.1 hK hP (hDs σ) hS 37 0 rfl rfl hi hdg (fun H1 locs1 hP _ hS => kk H1 locs1 hP hS)
set_option maxRecDepth 100000 in
theorem lC_X1_came (F : CallFix p m c cc nL s args Ts own) (hK : va_K D vwCl [(cI, .int), (cJ, .long)] s) (hP : va_P D vwCl ((wdC ad cI cJ) σ) H) {i : Int32} (hi : vp_in i 9000) (hdg : decode cc pc = .ok (.laload, 1)) (kk : W p l e R s m args below meth c H locs cells slots Q (F0 m (pc + 1) ls (.long (gL σ 4 i.toNatClampNeg) :: rest))) : W p l e R s m args below meth c H locs cells slots Q (F0 m pc ls (.int i :: .ref (ad 38) :: rest)) :=
  va_lald F.1 F.2.1 hK hP 38 1 rfl rfl hi hdg kk
set_option maxRecDepth 100000 in
set_option maxHeartbeats 4000000 in
theorem sC_X1_came (F : CallFix p m c cc nL s args Ts own) (hK : va_K D vwCl [(cI, .int), (cJ, .long)] s) (hP : va_P D vwCl ((wdC ad cI cJ) σ) H) (hDs : ∀ σ, va_D A ((wdC ad cI cJ) σ)) (hS : va_S A s.heap H locs) {i : Int32} {x : Int64} (hi : vp_in i 9000) (hdg : decode cc pc = .ok (.lastore, 1)) (kk : ∀ (H1 : Heap) (locs1 : List Loc), va_P D vwCl ((wdC ad cI cJ) (sL σ 4 i.toNatClampNeg x)) H1 → va_S A s.heap H1 locs1 → W p l e R s m args below meth c H1 locs1 cells slots Q (F0 m (pc + 1) ls rest)) : W p l e R s m args below meth c H locs cells slots Q (F0 m pc ls (.long x :: .int i :: .ref (ad 38) :: rest)) :=
  va_last F.1 F.2.1 hK hP (hDs σ) hS 38 1 rfl rfl hi hdg (fun H1 locs1 hP _ hS => kk H1 locs1 hP hS)
set_option maxRecDepth 100000 in
theorem lC_X1_firstPair (F : CallFix p m c cc nL s args Ts own) (hK : va_K D vwCl [(cI, .int), (cJ, .long)] s) (hP : va_P D vwCl ((wdC ad cI cJ) σ) H) {i : Int32} (hi : vp_in i 600) (hdg : decode cc pc = .ok (.iaload, 1)) (kk : W p l e R s m args below meth c H locs cells slots Q (F0 m (pc + 1) ls (.int (gA σ 27 i.toNatClampNeg) :: rest))) : W p l e R s m args below meth c H locs cells slots Q (F0 m pc ls (.int i :: .ref (ad 39) :: rest)) :=
  va_iald F.1 F.2.1 hK hP 39 0 rfl rfl hi hdg kk
set_option maxRecDepth 100000 in
set_option maxHeartbeats 4000000 in
theorem sC_X1_firstPair (F : CallFix p m c cc nL s args Ts own) (hK : va_K D vwCl [(cI, .int), (cJ, .long)] s) (hP : va_P D vwCl ((wdC ad cI cJ) σ) H) (hDs : ∀ σ, va_D A ((wdC ad cI cJ) σ)) (hS : va_S A s.heap H locs) {i : Int32} {x : Int32} (hi : vp_in i 600) (hdg : decode cc pc = .ok (.iastore, 1)) (kk : ∀ (H1 : Heap) (locs1 : List Loc), va_P D vwCl ((wdC ad cI cJ) (sA σ 27 i.toNatClampNeg x)) H1 → va_S A s.heap H1 locs1 → W p l e R s m args below meth c H1 locs1 cells slots Q (F0 m (pc + 1) ls rest)) : W p l e R s m args below meth c H locs cells slots Q (F0 m pc ls (.int x :: .int i :: .ref (ad 39) :: rest)) :=
  va_iast F.1 F.2.1 hK hP (hDs σ) hS 39 0 rfl rfl hi hdg (fun H1 locs1 hP _ hS => kk H1 locs1 hP hS)
set_option maxRecDepth 100000 in
theorem lC_X1_nextPair (F : CallFix p m c cc nL s args Ts own) (hK : va_K D vwCl [(cI, .int), (cJ, .long)] s) (hP : va_P D vwCl ((wdC ad cI cJ) σ) H) {i : Int32} (hi : vp_in i 3000) (hdg : decode cc pc = .ok (.iaload, 1)) (kk : W p l e R s m args below meth c H locs cells slots Q (F0 m (pc + 1) ls (.int (gA σ 28 i.toNatClampNeg) :: rest))) : W p l e R s m args below meth c H locs cells slots Q (F0 m pc ls (.int i :: .ref (ad 40) :: rest)) :=
  va_iald F.1 F.2.1 hK hP 40 0 rfl rfl hi hdg kk
set_option maxRecDepth 100000 in
set_option maxHeartbeats 4000000 in
theorem sC_X1_nextPair (F : CallFix p m c cc nL s args Ts own) (hK : va_K D vwCl [(cI, .int), (cJ, .long)] s) (hP : va_P D vwCl ((wdC ad cI cJ) σ) H) (hDs : ∀ σ, va_D A ((wdC ad cI cJ) σ)) (hS : va_S A s.heap H locs) {i : Int32} {x : Int32} (hi : vp_in i 3000) (hdg : decode cc pc = .ok (.iastore, 1)) (kk : ∀ (H1 : Heap) (locs1 : List Loc), va_P D vwCl ((wdC ad cI cJ) (sA σ 28 i.toNatClampNeg x)) H1 → va_S A s.heap H1 locs1 → W p l e R s m args below meth c H1 locs1 cells slots Q (F0 m (pc + 1) ls rest)) : W p l e R s m args below meth c H locs cells slots Q (F0 m pc ls (.int x :: .int i :: .ref (ad 40) :: rest)) :=
  va_iast F.1 F.2.1 hK hP (hDs σ) hS 40 0 rfl rfl hi hdg (fun H1 locs1 hP _ hS => kk H1 locs1 hP hS)
set_option maxRecDepth 100000 in
theorem lC_X5_row (F : CallFix p m c cc nL s args Ts own) (hK : va_K D vwCl [(cI, .int), (cJ, .long)] s) (hP : va_P D vwCl ((wdC ad cI cJ) σ) H) {i : Int32} (hi : vp_in i 3000) (hdg : decode cc pc = .ok (.iaload, 1)) (kk : W p l e R s m args below meth c H locs cells slots Q (F0 m (pc + 1) ls (.int (gA σ 29 i.toNatClampNeg) :: rest))) : W p l e R s m args below meth c H locs cells slots Q (F0 m pc ls (.int i :: .ref (ad 41) :: rest)) :=
  va_iald F.1 F.2.1 hK hP 41 0 rfl rfl hi hdg kk
set_option maxRecDepth 100000 in
set_option maxHeartbeats 4000000 in
theorem sC_X5_row (F : CallFix p m c cc nL s args Ts own) (hK : va_K D vwCl [(cI, .int), (cJ, .long)] s) (hP : va_P D vwCl ((wdC ad cI cJ) σ) H) (hDs : ∀ σ, va_D A ((wdC ad cI cJ) σ)) (hS : va_S A s.heap H locs) {i : Int32} {x : Int32} (hi : vp_in i 3000) (hdg : decode cc pc = .ok (.iastore, 1)) (kk : ∀ (H1 : Heap) (locs1 : List Loc), va_P D vwCl ((wdC ad cI cJ) (sA σ 29 i.toNatClampNeg x)) H1 → va_S A s.heap H1 locs1 → W p l e R s m args below meth c H1 locs1 cells slots Q (F0 m (pc + 1) ls rest)) : W p l e R s m args below meth c H locs cells slots Q (F0 m pc ls (.int x :: .int i :: .ref (ad 41) :: rest)) :=
  va_iast F.1 F.2.1 hK hP (hDs σ) hS 41 0 rfl rfl hi hdg (fun H1 locs1 hP _ hS => kk H1 locs1 hP hS)
end ROWSC
end
section
abbrev rm_X0_add : Room := { frames := 0, cells := 0, slots := 0, locals := 0 }
set_option maxHeartbeats 4000000 in
set_option maxRecDepth 100000 in
theorem c_X0_add (l : Launch) (D : va_G) (ad : Nat → Nat) (cI cJ : ClassId) (hap : apart ad 42) (sz : Nat) (σ : St) (a1 : Int32) (a2 : Int32) (a3 : Int32) (K : Int32 → St → Prop) (hw : w_X0_add σ a1 a2 a3 K) : Met l yX0_add wsX0_add rm_X0_add (va_Pc [.ref (ad 4), .int a1, .int a2, .int a3] (fun U => U.heap.size = sz ∧ inW D (wdC ad cI cJ) [(cI, .int), (cJ, .long)] σ U)) (va_Qi K (inW D (wdC ad cI cJ) [(cI, .int), (cJ, .long)]) (AW ad 42 sz)) 0 0 (AW ad 42 sz) := by
  refine Met.ofW (cc := cX0_add) (maxL := 5) (ret := (some .int)) (by decide) rfl ?_
  intro p e s m args below meth c s₁ B hml hv
  obtain ⟨rfl, hsz, ⟨hP, hK⟩⟩ := hv
  have F : CallFix p m c cX0_add 5 s ([.ref (ad 4), .int a1, .int a2, .int a3] : List Value).toArray wsX0_add RX0 := ⟨B.exec, B.bytes, hml, findClass_of_methodNamed B.named, atoms_spec (ws := wsX0_add) B.pre⟩
  have hx := F.1
  have hb := F.2.1
  have hown := F.2.2.2.1
  have hts := F.2.2.2.2
  have hr := B.returns
  have hlocks := B.notSynchronized
  subst hsz
  have hDs : ∀ σ, va_D (AW ad 42 s.heap.size) ((wdC ad cI cJ) σ) := fun σ => wdC_D hap σ
  have hS : va_S (AW ad 42 s.heap.size) s.heap s.heap [] := va_S.rf
  have iw_X0 : ∀ w ∈ u_ws RX0 TX0 6, w ∈ wsX0_add := by decide +kernel
  have f_f11 := hts (.fieldLink RX0 11 "TokenFloor$Colours" "origin" "[I") (by decide +kernel)
  have f_f15 := hts (.fieldLink RX0 15 "TokenFloor$Colours" "outer" "[I") (by decide +kernel)
  have f_f18 := hts (.fieldLink RX0 18 "TokenFloor$Colours" "key" "[I") (by decide +kernel)
  have f_f21 := hts (.fieldLink RX0 21 "TokenFloor$Colours" "firstReached" "[I") (by decide +kernel)
  have f_f24 := hts (.fieldLink RX0 24 "TokenFloor$Colours" "nextReached" "[I") (by decide +kernel)
  have f_f27 := hts (.fieldLink RX0 27 "TokenFloor$Colours" "count" "I") (by decide +kernel)
  have hl := lv_entry ([.ref (ad 4), .int a1, .int a2, .int a3]) (n := 5) (Nat.le_of_ble_eq_true rfl)
  rw [lg_entry_eq]
  generalize (lg_sl ([.ref (ad 4), .int a1, .int a2, .int a3]) ++ List.replicate (5 - (lg_sl ([.ref (ad 4), .int a1, .int a2, .int a3])).length) Slot.unset).toArray = ls at hl ⊢
  have hl : lv_has ls 5 [(0, .ref (ad 4)), (1, .int a1), (2, .int a2), (3, .int a3)] := hl
  have key : ∀ (H : Heap), va_P D vwCl ((wdC ad cI cJ) σ) H → va_S (AW ad 42 s.heap.size) s.heap H [] → W p l e (headSpec wsX0_add rm_X0_add).room s m ([.ref (ad 4), .int a1, .int a2, .int a3] : List Value).toArray below meth c H [] 0 0 (MQ below (va_Qi K (inW D (wdC ad cI cJ) [(cI, .int), (cJ, .long)]) (AW ad 42 s.heap.size)) ([.ref (ad 4), .int a1, .int a2, .int a3] : List Value).toArray s 0 0 (AW ad 42 s.heap.size)) (F0 m 0 ls []) := by
    intro H hP hS
    unfold w_X0_add at hw
    refine lv_aload_n hx hb dX0_add_0 rfl (lv_at hl 0 rfl) ?_
    refine gC_X0_count F hK iw_X0 hP f_f27 dX0_add_1 ?_
    refine W.eq (g2 := F0 m 4 ls [.int (gS σ 14)]) rfl ?_
    refine lv_istore (lv' := [(4, .int (gS σ 14)), (0, .ref (ad 4)), (1, .int a1), (2, .int a2), (3, .int a3)]) hx hb dX0_add_4 hl (by decide) rfl (fun ls hl => ?_)
    refine lv_aload_n hx hb dX0_add_6 rfl (lv_at hl 1 rfl) ?_
    refine lv_dup hx hb dX0_add_7 rfl ?_
    refine gC_X0_count F hK iw_X0 hP f_f27 dX0_add_8 ?_
    refine W.eq (g2 := F0 m 11 ls [.int (gS σ 14), .ref (ad 4)]) rfl ?_
    refine lv_iconst (v := 1) hx hb dX0_add_11 (by decide) ?_
    refine lv_iadd hx hb dX0_add_12 ?_
    refine pC_X0_count F hK iw_X0 hP hDs hS f_f27 dX0_add_13 (fun H locs hP hS => ?_)
    refine lv_aload_n hx hb dX0_add_16 rfl (lv_at hl 1 rfl) ?_
    refine gC_X0_key F hK iw_X0 hP f_f18 dX0_add_17 ?_
    refine lv_iload hx hb dX0_add_20 (lv_at hl 0 rfl) ?_
    refine lv_iload_n hx hb dX0_add_22 rfl (lv_at hl 2 rfl) ?_
    obtain ⟨i_5, hw⟩ := hw
    refine sC_X0_key F hK hP hDs hS i_5 dX0_add_23 (fun H locs hP hS => ?_)
    refine lv_aload_n hx hb dX0_add_24 rfl (lv_at hl 1 rfl) ?_
    refine gC_X0_origin F hK iw_X0 hP f_f11 dX0_add_25 ?_
    refine lv_iload hx hb dX0_add_28 (lv_at hl 0 rfl) ?_
    refine lv_iload_n hx hb dX0_add_30 rfl (lv_at hl 3 rfl) ?_
    obtain ⟨i_4, hw⟩ := hw
    refine sC_X0_origin F hK hP hDs hS i_4 dX0_add_31 (fun H locs hP hS => ?_)
    refine lv_aload_n hx hb dX0_add_32 rfl (lv_at hl 1 rfl) ?_
    refine gC_X0_outer F hK iw_X0 hP f_f15 dX0_add_33 ?_
    refine lv_iload hx hb dX0_add_36 (lv_at hl 0 rfl) ?_
    refine lv_iload_n hx hb dX0_add_38 rfl (lv_at hl 4 rfl) ?_
    obtain ⟨i_3, hw⟩ := hw
    refine sC_X0_outer F hK hP hDs hS i_3 dX0_add_39 (fun H locs hP hS => ?_)
    refine lv_aload_n hx hb dX0_add_40 rfl (lv_at hl 1 rfl) ?_
    refine gC_X0_firstReached F hK iw_X0 hP f_f21 dX0_add_41 ?_
    refine lv_iload hx hb dX0_add_44 (lv_at hl 0 rfl) ?_
    refine lv_iconst (v := (-1)) hx hb dX0_add_46 (by decide) ?_
    obtain ⟨i_2, hw⟩ := hw
    refine sC_X0_firstReached F hK hP hDs hS i_2 dX0_add_47 (fun H locs hP hS => ?_)
    refine lv_aload_n hx hb dX0_add_48 rfl (lv_at hl 1 rfl) ?_
    refine gC_X0_nextReached F hK iw_X0 hP f_f24 dX0_add_49 ?_
    refine lv_iload hx hb dX0_add_52 (lv_at hl 0 rfl) ?_
    refine lv_iconst (v := (-1)) hx hb dX0_add_54 (by decide) ?_
    obtain ⟨i_1, hw⟩ := hw
    refine sC_X0_nextReached F hK hP hDs hS i_1 dX0_add_55 (fun H locs hP hS => ?_)
    refine lv_iload hx hb dX0_add_56 (lv_at hl 0 rfl) ?_
    exact rtI F hr hlocks hK hw hP hS dX0_add_58
  exact key s.heap hP hS


abbrev rm_X0_reset : Room := { frames := 1, cells := 0, slots := 0, locals := 24 }
set_option maxHeartbeats 4000000 in
set_option maxRecDepth 100000 in
theorem c_X0_reset (l : Launch) (D : va_G) (ad : Nat → Nat) (cI cJ : ClassId) (hap : apart ad 42) (sz : Nat) (σ : St) (K : St → Prop) (hw : w_X0_reset σ K) : Met l yX0_reset wsX0_reset rm_X0_reset (va_Pc [.ref (ad 4)] (fun U => U.heap.size = sz ∧ inW D (wdC ad cI cJ) [(cI, .int), (cJ, .long)] σ U)) (va_Qv K (inW D (wdC ad cI cJ) [(cI, .int), (cJ, .long)]) (AW ad 42 sz)) 0 0 (AW ad 42 sz) := by
  refine Met.ofW (cc := cX0_reset) (maxL := 1) (ret := none) (by decide) rfl ?_
  intro p e s m args below meth c s₁ B hml hv
  obtain ⟨rfl, hsz, ⟨hP, hK⟩⟩ := hv
  have F : CallFix p m c cX0_reset 1 s ([.ref (ad 4)] : List Value).toArray wsX0_reset RX0 := ⟨B.exec, B.bytes, hml, findClass_of_methodNamed B.named, atoms_spec (ws := wsX0_reset) B.pre⟩
  have hx := F.1
  have hb := F.2.1
  have hown := F.2.2.2.1
  have hts := F.2.2.2.2
  have hr := B.returns
  have hlocks := B.notSynchronized
  subst hsz
  have hDs : ∀ σ, va_D (AW ad 42 s.heap.size) ((wdC ad cI cJ) σ) := fun σ => wdC_D hap σ
  have hS : va_S (AW ad 42 s.heap.size) s.heap s.heap [] := va_S.rf
  have iw_X0 : ∀ w ∈ u_ws RX0 TX0 6, w ∈ wsX0_reset := by decide +kernel
  have f_f27 := hts (.fieldLink RX0 27 "TokenFloor$Colours" "count" "I") (by decide +kernel)
  have hl := lv_entry ([.ref (ad 4)]) (n := 1) (Nat.le_of_ble_eq_true rfl)
  rw [lg_entry_eq]
  generalize (lg_sl ([.ref (ad 4)]) ++ List.replicate (1 - (lg_sl ([.ref (ad 4)])).length) Slot.unset).toArray = ls at hl ⊢
  have hl : lv_has ls 1 [(0, .ref (ad 4))] := hl
  have key : ∀ (H : Heap), va_P D vwCl ((wdC ad cI cJ) σ) H → va_S (AW ad 42 s.heap.size) s.heap H [] → W p l e (headSpec wsX0_reset rm_X0_reset).room s m ([.ref (ad 4)] : List Value).toArray below meth c H [] 0 0 (MQ below (va_Qv K (inW D (wdC ad cI cJ) [(cI, .int), (cJ, .long)]) (AW ad 42 s.heap.size)) ([.ref (ad 4)] : List Value).toArray s 0 0 (AW ad 42 s.heap.size)) (F0 m 0 ls []) := by
    intro H hP hS
    unfold w_X0_reset at hw
    refine lv_aload_n hx hb dX0_reset_0 rfl (lv_at hl 0 rfl) ?_
    refine lv_iconst (v := 0) hx hb dX0_reset_1 (by decide) ?_
    refine pC_X0_count F hK iw_X0 hP hDs hS f_f27 dX0_reset_2 (fun H locs hP hS => ?_)
    refine lv_aload_n hx hb dX0_reset_5 rfl (lv_at hl 0 rfl) ?_
    refine lv_iconst (v := (-1)) hx hb dX0_reset_6 (by decide) ?_
    refine lv_iconst (v := (-1)) hx hb dX0_reset_7 (by decide) ?_
    refine lv_iconst (v := (-1)) hx hb dX0_reset_8 (by decide) ?_
    refine cvI (As := [.int (-1), .int (-1), .int (-1)]) (rest := []) F hK hP hS (c_X0_add l D ad cI cJ hap H.size _ _ _ _ _ hw) (cwV 3 hts gX0_reset_X0_add rfl rfl rfl (by decide +kernel) ⟨Nat.le_of_ble_eq_true rfl, Nat.le_of_ble_eq_true rfl⟩) (va_recv hK hP (ci := 0) (q0 := 4) rfl rfl) rfl hl.1 rfl (Nat.le_of_ble_eq_true rfl) dX0_reset_9 ⟨Nat.zero_le _, Nat.zero_le _⟩ (fun r_2 u_1 H locs hw hP hS => ?_)
    refine lv_pop hx hb dX0_reset_12 rfl ?_
    exact rtV F hr hlocks hK hw hP hS dX0_reset_13
  exact key s.heap hP hS


abbrev rm_X0_reach : Room := { frames := 1, cells := 0, slots := 0, locals := 24 }
set_option maxHeartbeats 4000000 in
set_option maxRecDepth 100000 in
theorem c_X0_reach (l : Launch) (D : va_G) (ad : Nat → Nat) (cI cJ : ClassId) (hap : apart ad 42) (sz : Nat) (σ : St) (a1 : Int32) (a2 : Int32) (a3 : Int32) (a4 : Int32) (K : Int32 → St → Prop) (hw : w_X0_reach σ a1 a2 a3 a4 K) : Met l yX0_reach wsX0_reach rm_X0_reach (va_Pc [.ref (ad 4), .int a1, .int a2, .int a3, .int a4] (fun U => U.heap.size = sz ∧ inW D (wdC ad cI cJ) [(cI, .int), (cJ, .long)] σ U)) (va_Qi K (inW D (wdC ad cI cJ) [(cI, .int), (cJ, .long)]) (AW ad 42 sz)) 0 0 (AW ad 42 sz) := by
  refine Met.ofW (cc := cX0_reach) (maxL := 7) (ret := (some .int)) (by decide) rfl ?_
  intro p e s m args below meth c s₁ B hml hv
  obtain ⟨rfl, hsz, ⟨hP, hK⟩⟩ := hv
  have F : CallFix p m c cX0_reach 7 s ([.ref (ad 4), .int a1, .int a2, .int a3, .int a4] : List Value).toArray wsX0_reach RX0 := ⟨B.exec, B.bytes, hml, findClass_of_methodNamed B.named, atoms_spec (ws := wsX0_reach) B.pre⟩
  have hx := F.1
  have hb := F.2.1
  have hown := F.2.2.2.1
  have hts := F.2.2.2.2
  have hr := B.returns
  have hlocks := B.notSynchronized
  subst hsz
  have hDs : ∀ σ, va_D (AW ad 42 s.heap.size) ((wdC ad cI cJ) σ) := fun σ => wdC_D hap σ
  have hS : va_S (AW ad 42 s.heap.size) s.heap s.heap [] := va_S.rf
  have iw_X0 : ∀ w ∈ u_ws RX0 TX0 6, w ∈ wsX0_reach := by decide +kernel
  have f_f18 := hts (.fieldLink RX0 18 "TokenFloor$Colours" "key" "[I") (by decide +kernel)
  have f_f21 := hts (.fieldLink RX0 21 "TokenFloor$Colours" "firstReached" "[I") (by decide +kernel)
  have f_f24 := hts (.fieldLink RX0 24 "TokenFloor$Colours" "nextReached" "[I") (by decide +kernel)
  have f_f27 := hts (.fieldLink RX0 27 "TokenFloor$Colours" "count" "I") (by decide +kernel)
  have lab_54 : ∀ (σ : St) (x1 : Int32) (x2 : Int32) (x3 : Int32) (x4 : Int32) (H : Heap) (locs : List Loc) (ls : Array Slot), b_X0_reach_54 K σ x1 x2 x3 x4 → va_P D vwCl ((wdC ad cI cJ) σ) H → va_S (AW ad 42 s.heap.size) s.heap H locs → lv_has ls 7 [(0, .ref (ad 4)), (1, .int x1), (2, .int x2), (3, .int x3), (4, .int x4)] → W p l e (headSpec wsX0_reach rm_X0_reach).room s m ([.ref (ad 4), .int a1, .int a2, .int a3, .int a4] : List Value).toArray below meth c H locs 0 0 (MQ below (va_Qi K (inW D (wdC ad cI cJ) [(cI, .int), (cJ, .long)]) (AW ad 42 s.heap.size)) ([.ref (ad 4), .int a1, .int a2, .int a3, .int a4] : List Value).toArray s 0 0 (AW ad 42 s.heap.size)) (F0 m 54 ls []) := by
    intro σ x1 x2 x3 x4 H locs ls hw hP hS hl
    unfold b_X0_reach_54 at hw
    refine lv_aload_n hx hb dX0_reach_54 rfl (lv_at hl 0 rfl) ?_
    refine gC_X0_count F hK iw_X0 hP f_f27 dX0_reach_55 ?_
    refine W.eq (g2 := F0 m 58 ls [.int (gS σ 14)]) rfl ?_
    refine lv_sipush (v := 600) hx hb dX0_reach_58 (by decide) ?_
    refine lv_icmp_lt (tgt := 66) hx hb dX0_reach_61 (by decide) (fun c_6 => ?_) (fun c_6 => ?_)
    · have hw := hw.1 c_6
      refine lv_aload_n hx hb dX0_reach_66 rfl (lv_at hl 0 rfl) ?_
      refine lv_iload_n hx hb dX0_reach_67 rfl (lv_at hl 2 rfl) ?_
      refine lv_iload_n hx hb dX0_reach_68 rfl (lv_at hl 3 rfl) ?_
      refine lv_iload hx hb dX0_reach_69 (lv_at hl 4 rfl) ?_
      refine cvI (As := [.int x2, .int x3, .int x4]) (rest := []) F hK hP hS (c_X0_add l D ad cI cJ hap H.size _ _ _ _ _ hw) (cwV 3 hts gX0_reach_X0_add rfl rfl rfl (by decide +kernel) ⟨Nat.le_of_ble_eq_true rfl, Nat.le_of_ble_eq_true rfl⟩) (va_recv hK hP (ci := 0) (q0 := 4) rfl rfl) rfl hl.1 rfl (Nat.le_of_ble_eq_true rfl) dX0_reach_71 ⟨Nat.zero_le _, Nat.zero_le _⟩ (fun r_2 u_1 H locs hw hP hS => ?_)
      refine lv_istore (lv' := [(6, .int r_2), (0, .ref (ad 4)), (1, .int x1), (2, .int x2), (3, .int x3), (4, .int x4)]) hx hb dX0_reach_74 hl (by decide) rfl (fun ls hl => ?_)
      refine lv_aload_n hx hb dX0_reach_76 rfl (lv_at hl 1 rfl) ?_
      refine gC_X0_nextReached F hK iw_X0 hP f_f24 dX0_reach_77 ?_
      refine lv_iload hx hb dX0_reach_80 (lv_at hl 0 rfl) ?_
      refine lv_aload_n hx hb dX0_reach_82 rfl (lv_at hl 1 rfl) ?_
      refine gC_X0_firstReached F hK iw_X0 hP f_f21 dX0_reach_83 ?_
      refine lv_iload_n hx hb dX0_reach_86 rfl (lv_at hl 2 rfl) ?_
      obtain ⟨i_5, hw⟩ := hw
      refine lC_X0_firstReached F hK hP i_5 dX0_reach_87 ?_
      obtain ⟨i_4, hw⟩ := hw
      refine sC_X0_nextReached F hK hP hDs hS i_4 dX0_reach_88 (fun H locs hP hS => ?_)
      refine lv_aload_n hx hb dX0_reach_89 rfl (lv_at hl 1 rfl) ?_
      refine gC_X0_firstReached F hK iw_X0 hP f_f21 dX0_reach_90 ?_
      refine lv_iload_n hx hb dX0_reach_93 rfl (lv_at hl 2 rfl) ?_
      refine lv_iload hx hb dX0_reach_94 (lv_at hl 0 rfl) ?_
      obtain ⟨i_3, hw⟩ := hw
      refine sC_X0_firstReached F hK hP hDs hS i_3 dX0_reach_96 (fun H locs hP hS => ?_)
      refine lv_iload hx hb dX0_reach_97 (lv_at hl 0 rfl) ?_
      exact rtI F hr hlocks hK hw hP hS dX0_reach_99
    · have hw := hw.2 c_6
      refine lv_iconst (v := (-1)) hx hb dX0_reach_64 (by decide) ?_
      exact rtI F hr hlocks hK hw hP hS dX0_reach_65
  have lab_11 : ∀ (n : Nat), ∀ (σ : St) (x1 : Int32) (x2 : Int32) (x3 : Int32) (x4 : Int32) (x5 : Int32) (x6 : Int32) (H : Heap) (locs : List Loc) (ls : Array Slot), w_X0_reach_11 K n σ x1 x2 x3 x4 x5 x6 → va_P D vwCl ((wdC ad cI cJ) σ) H → va_S (AW ad 42 s.heap.size) s.heap H locs → lv_has ls 7 [(0, .ref (ad 4)), (1, .int x1), (2, .int x2), (3, .int x3), (4, .int x4), (5, .int x5), (6, .int x6)] → W p l e (headSpec wsX0_reach rm_X0_reach).room s m ([.ref (ad 4), .int a1, .int a2, .int a3, .int a4] : List Value).toArray below meth c H locs 0 0 (MQ below (va_Qi K (inW D (wdC ad cI cJ) [(cI, .int), (cJ, .long)]) (AW ad 42 s.heap.size)) ([.ref (ad 4), .int a1, .int a2, .int a3, .int a4] : List Value).toArray s 0 0 (AW ad 42 s.heap.size)) (F0 m 11 ls []) := by
    intro n
    induction n with
    | zero =>
      intro σ x1 x2 x3 x4 x5 x6 H locs ls hw
      exact hw.elim
    | succ n hL11 =>
      intro σ x1 x2 x3 x4 x5 x6 H locs ls hw hP hS hl
      have hw : b_X0_reach_11 (w_X0_reach_11 K n) K σ x1 x2 x3 x4 x5 x6 := hw
      unfold b_X0_reach_11 at hw
      generalize w_X0_reach_11 K n = L11 at hw hL11
      refine lv_iload hx hb dX0_reach_11 (lv_at hl 6 rfl) ?_
      refine lv_sipush (v := 600) hx hb dX0_reach_13 (by decide) ?_
      refine lv_icmp_ge (tgt := 54) hx hb dX0_reach_16 (by decide) (fun c_11 => ?_) (fun c_11 => ?_)
      · have hw := hw.1 c_11
        exact lab_54 _ _ _ _ _ _ _ _ hw hP hS (lv_sub hl [0, 1, 2, 3, 4] rfl)
      · have hw := hw.2 c_11
        refine lv_iload hx hb dX0_reach_19 (lv_at hl 5 rfl) ?_
        refine lv_iconst (v := (-1)) hx hb dX0_reach_21 (by decide) ?_
        refine lv_icmp_eq (tgt := 54) hx hb dX0_reach_22 (by decide) (fun c_10 => ?_) (fun c_10 => ?_)
        · have hw := hw.1 c_10
          exact lab_54 _ _ _ _ _ _ _ _ hw hP hS (lv_sub hl [0, 1, 2, 3, 4] rfl)
        · have hw := hw.2 c_10
          refine lv_aload_n hx hb dX0_reach_25 rfl (lv_at hl 0 rfl) ?_
          refine gC_X0_key F hK iw_X0 hP f_f18 dX0_reach_26 ?_
          refine lv_iload hx hb dX0_reach_29 (lv_at hl 5 rfl) ?_
          obtain ⟨i_9, hw⟩ := hw
          refine lC_X0_key F hK hP i_9 dX0_reach_31 ?_
          refine lv_iload_n hx hb dX0_reach_32 rfl (lv_at hl 2 rfl) ?_
          refine lv_icmp_ne (tgt := 39) hx hb dX0_reach_33 (by decide) (fun c_8 => ?_) (fun c_8 => ?_)
          · have hw := hw.1 c_8
            refine lv_aload_n hx hb dX0_reach_39 rfl (lv_at hl 0 rfl) ?_
            refine gC_X0_nextReached F hK iw_X0 hP f_f24 dX0_reach_40 ?_
            refine lv_iload hx hb dX0_reach_43 (lv_at hl 5 rfl) ?_
            obtain ⟨i_7, hw⟩ := hw
            refine lC_X0_nextReached F hK hP i_7 dX0_reach_45 ?_
            refine lv_istore (lv' := [(5, .int (gA σ 23 (x5).toNatClampNeg)), (0, .ref (ad 4)), (1, .int x1), (2, .int x2), (3, .int x3), (4, .int x4), (6, .int x6)]) hx hb dX0_reach_46 hl (by decide) rfl (fun ls hl => ?_)
            refine lv_iinc (v := (x6 + 1)) (lv' := [(6, .int (x6 + 1)), (5, .int (gA σ 23 (x5).toNatClampNeg)), (0, .ref (ad 4)), (1, .int x1), (2, .int x2), (3, .int x3), (4, .int x4)]) hx hb dX0_reach_48 hl (k := 6) rfl rfl (by decide) rfl (fun ls hl => ?_)
            refine lv_goto (tgt := 11) hx hb dX0_reach_51 (by decide) ?_
            exact hL11 _ _ _ _ _ _ _ _ _ _ hw hP hS (lv_sub hl [2, 3, 4, 5, 6, 1, 0] rfl)
          · have hw := hw.2 c_8
            refine lv_iload hx hb dX0_reach_36 (lv_at hl 5 rfl) ?_
            exact rtI F hr hlocks hK hw hP hS dX0_reach_38
  have hl := lv_entry ([.ref (ad 4), .int a1, .int a2, .int a3, .int a4]) (n := 7) (Nat.le_of_ble_eq_true rfl)
  rw [lg_entry_eq]
  generalize (lg_sl ([.ref (ad 4), .int a1, .int a2, .int a3, .int a4]) ++ List.replicate (7 - (lg_sl ([.ref (ad 4), .int a1, .int a2, .int a3, .int a4])).length) Slot.unset).toArray = ls at hl ⊢
  have hl : lv_has ls 7 [(0, .ref (ad 4)), (1, .int a1), (2, .int a2), (3, .int a3), (4, .int a4)] := hl
  have key : ∀ (H : Heap), va_P D vwCl ((wdC ad cI cJ) σ) H → va_S (AW ad 42 s.heap.size) s.heap H [] → W p l e (headSpec wsX0_reach rm_X0_reach).room s m ([.ref (ad 4), .int a1, .int a2, .int a3, .int a4] : List Value).toArray below meth c H [] 0 0 (MQ below (va_Qi K (inW D (wdC ad cI cJ) [(cI, .int), (cJ, .long)]) (AW ad 42 s.heap.size)) ([.ref (ad 4), .int a1, .int a2, .int a3, .int a4] : List Value).toArray s 0 0 (AW ad 42 s.heap.size)) (F0 m 0 ls []) := by
    intro H hP hS
    unfold w_X0_reach at hw
    refine lv_aload_n hx hb dX0_reach_0 rfl (lv_at hl 0 rfl) ?_
    refine gC_X0_firstReached F hK iw_X0 hP f_f21 dX0_reach_1 ?_
    refine lv_iload_n hx hb dX0_reach_4 rfl (lv_at hl 1 rfl) ?_
    obtain ⟨i_13, hw⟩ := hw
    refine lC_X0_firstReached F hK hP i_13 dX0_reach_5 ?_
    refine lv_istore (lv' := [(5, .int (gA σ 22 (a1).toNatClampNeg)), (0, .ref (ad 4)), (1, .int a1), (2, .int a2), (3, .int a3), (4, .int a4)]) hx hb dX0_reach_6 hl (by decide) rfl (fun ls hl => ?_)
    refine lv_iconst (v := 0) hx hb dX0_reach_8 (by decide) ?_
    refine lv_istore (lv' := [(6, .int 0), (5, .int (gA σ 22 (a1).toNatClampNeg)), (0, .ref (ad 4)), (1, .int a1), (2, .int a2), (3, .int a3), (4, .int a4)]) hx hb dX0_reach_9 hl (by decide) rfl (fun ls hl => ?_)
    obtain ⟨n_12, hw⟩ := hw
    exact lab_11 n_12 _ _ _ _ _ _ _ _ _ _ hw hP hS (lv_sub hl [2, 3, 4, 5, 6, 1, 0] rfl)
  exact key s.heap hP hS


abbrev rm_X0_enter : Room := { frames := 2, cells := 0, slots := 0, locals := 50 }
set_option maxHeartbeats 4000000 in
set_option maxRecDepth 100000 in
theorem c_X0_enter (l : Launch) (D : va_G) (ad : Nat → Nat) (cI cJ : ClassId) (hap : apart ad 42) (sz : Nat) (σ : St) (a1 : Int32) (a2 : Int32) (K : Int32 → St → Prop) (hw : w_X0_enter σ a1 a2 K) : Met l yX0_enter wsX0_enter rm_X0_enter (va_Pc [.ref (ad 4), .int a1, .int a2] (fun U => U.heap.size = sz ∧ inW D (wdC ad cI cJ) [(cI, .int), (cJ, .long)] σ U)) (va_Qi K (inW D (wdC ad cI cJ) [(cI, .int), (cJ, .long)]) (AW ad 42 sz)) 0 0 (AW ad 42 sz) := by
  refine Met.ofW (cc := cX0_enter) (maxL := 3) (ret := (some .int)) (by decide) rfl ?_
  intro p e s m args below meth c s₁ B hml hv
  obtain ⟨rfl, hsz, ⟨hP, hK⟩⟩ := hv
  have F : CallFix p m c cX0_enter 3 s ([.ref (ad 4), .int a1, .int a2] : List Value).toArray wsX0_enter RX0 := ⟨B.exec, B.bytes, hml, findClass_of_methodNamed B.named, atoms_spec (ws := wsX0_enter) B.pre⟩
  have hx := F.1
  have hb := F.2.1
  have hown := F.2.2.2.1
  have hts := F.2.2.2.2
  have hr := B.returns
  have hlocks := B.notSynchronized
  subst hsz
  have hDs : ∀ σ, va_D (AW ad 42 s.heap.size) ((wdC ad cI cJ) σ) := fun σ => wdC_D hap σ
  have hS : va_S (AW ad 42 s.heap.size) s.heap s.heap [] := va_S.rf
  have hl := lv_entry ([.ref (ad 4), .int a1, .int a2]) (n := 3) (Nat.le_of_ble_eq_true rfl)
  rw [lg_entry_eq]
  generalize (lg_sl ([.ref (ad 4), .int a1, .int a2]) ++ List.replicate (3 - (lg_sl ([.ref (ad 4), .int a1, .int a2])).length) Slot.unset).toArray = ls at hl ⊢
  have hl : lv_has ls 3 [(0, .ref (ad 4)), (1, .int a1), (2, .int a2)] := hl
  have key : ∀ (H : Heap), va_P D vwCl ((wdC ad cI cJ) σ) H → va_S (AW ad 42 s.heap.size) s.heap H [] → W p l e (headSpec wsX0_enter rm_X0_enter).room s m ([.ref (ad 4), .int a1, .int a2] : List Value).toArray below meth c H [] 0 0 (MQ below (va_Qi K (inW D (wdC ad cI cJ) [(cI, .int), (cJ, .long)]) (AW ad 42 s.heap.size)) ([.ref (ad 4), .int a1, .int a2] : List Value).toArray s 0 0 (AW ad 42 s.heap.size)) (F0 m 0 ls []) := by
    intro H hP hS
    unfold w_X0_enter at hw
    refine lv_aload_n hx hb dX0_enter_0 rfl (lv_at hl 0 rfl) ?_
    refine lv_iload_n hx hb dX0_enter_1 rfl (lv_at hl 1 rfl) ?_
    refine lv_iload_n hx hb dX0_enter_2 rfl (lv_at hl 2 rfl) ?_
    refine lv_iload_n hx hb dX0_enter_3 rfl (lv_at hl 2 rfl) ?_
    refine lv_iload_n hx hb dX0_enter_4 rfl (lv_at hl 1 rfl) ?_
    refine cvI (As := [.int a1, .int a2, .int a2, .int a1]) (rest := []) F hK hP hS (c_X0_reach l D ad cI cJ hap H.size _ _ _ _ _ _ hw) (cwV 4 hts gX0_enter_X0_reach rfl rfl rfl (by decide +kernel) ⟨Nat.le_of_ble_eq_true rfl, Nat.le_of_ble_eq_true rfl⟩) (va_recv hK hP (ci := 0) (q0 := 4) rfl rfl) rfl hl.1 rfl (Nat.le_of_ble_eq_true rfl) dX0_enter_5 ⟨Nat.zero_le _, Nat.zero_le _⟩ (fun r_2 u_1 H locs hw hP hS => ?_)
    exact rtI F hr hlocks hK hw hP hS dX0_enter_8
  exact key s.heap hP hS


abbrev rm_X0_isTurnOf : Room := { frames := 0, cells := 0, slots := 0, locals := 0 }
set_option maxHeartbeats 4000000 in
set_option maxRecDepth 100000 in
theorem c_X0_isTurnOf (l : Launch) (D : va_G) (ad : Nat → Nat) (cI cJ : ClassId) (hap : apart ad 42) (sz : Nat) (σ : St) (a1 : Int32) (a2 : Int32) (K : Int32 → St → Prop) (hw : w_X0_isTurnOf σ a1 a2 K) : Met l yX0_isTurnOf wsX0_isTurnOf rm_X0_isTurnOf (va_Pc [.ref (ad 4), .int a1, .int a2] (fun U => U.heap.size = sz ∧ inW D (wdC ad cI cJ) [(cI, .int), (cJ, .long)] σ U)) (va_Qi (fun r u => zb r ∧ K r u) (inW D (wdC ad cI cJ) [(cI, .int), (cJ, .long)]) (AW ad 42 sz)) 0 0 (AW ad 42 sz) := by
  refine Met.ofW (cc := cX0_isTurnOf) (maxL := 3) (ret := (some .boolean)) (by decide) rfl ?_
  intro p e s m args below meth c s₁ B hml hv
  obtain ⟨rfl, hsz, ⟨hP, hK⟩⟩ := hv
  have F : CallFix p m c cX0_isTurnOf 3 s ([.ref (ad 4), .int a1, .int a2] : List Value).toArray wsX0_isTurnOf RX0 := ⟨B.exec, B.bytes, hml, findClass_of_methodNamed B.named, atoms_spec (ws := wsX0_isTurnOf) B.pre⟩
  have hx := F.1
  have hb := F.2.1
  have hown := F.2.2.2.1
  have hts := F.2.2.2.2
  have hr := B.returns
  have hlocks := B.notSynchronized
  subst hsz
  have hDs : ∀ σ, va_D (AW ad 42 s.heap.size) ((wdC ad cI cJ) σ) := fun σ => wdC_D hap σ
  have hS : va_S (AW ad 42 s.heap.size) s.heap s.heap [] := va_S.rf
  have iw_X0 : ∀ w ∈ u_ws RX0 TX0 6, w ∈ wsX0_isTurnOf := by decide +kernel
  have f_f11 := hts (.fieldLink RX0 11 "TokenFloor$Colours" "origin" "[I") (by decide +kernel)
  have hl := lv_entry ([.ref (ad 4), .int a1, .int a2]) (n := 3) (Nat.le_of_ble_eq_true rfl)
  rw [lg_entry_eq]
  generalize (lg_sl ([.ref (ad 4), .int a1, .int a2]) ++ List.replicate (3 - (lg_sl ([.ref (ad 4), .int a1, .int a2])).length) Slot.unset).toArray = ls at hl ⊢
  have hl : lv_has ls 3 [(0, .ref (ad 4)), (1, .int a1), (2, .int a2)] := hl
  have key : ∀ (H : Heap), va_P D vwCl ((wdC ad cI cJ) σ) H → va_S (AW ad 42 s.heap.size) s.heap H [] → W p l e (headSpec wsX0_isTurnOf rm_X0_isTurnOf).room s m ([.ref (ad 4), .int a1, .int a2] : List Value).toArray below meth c H [] 0 0 (MQ below (va_Qi (fun r u => zb r ∧ K r u) (inW D (wdC ad cI cJ) [(cI, .int), (cJ, .long)]) (AW ad 42 s.heap.size)) ([.ref (ad 4), .int a1, .int a2] : List Value).toArray s 0 0 (AW ad 42 s.heap.size)) (F0 m 0 ls []) := by
    intro H hP hS
    unfold w_X0_isTurnOf at hw
    refine lv_aload_n hx hb dX0_isTurnOf_0 rfl (lv_at hl 0 rfl) ?_
    refine gC_X0_origin F hK iw_X0 hP f_f11 dX0_isTurnOf_1 ?_
    refine lv_iload_n hx hb dX0_isTurnOf_4 rfl (lv_at hl 1 rfl) ?_
    obtain ⟨i_2, hw⟩ := hw
    refine lC_X0_origin F hK hP i_2 dX0_isTurnOf_5 ?_
    refine lv_iload_n hx hb dX0_isTurnOf_6 rfl (lv_at hl 2 rfl) ?_
    refine lv_icmp_ne (tgt := 14) hx hb dX0_isTurnOf_7 (by decide) (fun c_1 => ?_) (fun c_1 => ?_)
    · have hw := hw.1 c_1
      refine lv_iconst (v := 0) hx hb dX0_isTurnOf_14 (by decide) ?_
      exact rtZ F hr hlocks hK hw (Or.inl rfl) hP hS dX0_isTurnOf_15
    · have hw := hw.2 c_1
      refine lv_iconst (v := 1) hx hb dX0_isTurnOf_10 (by decide) ?_
      refine lv_goto (tgt := 15) hx hb dX0_isTurnOf_11 (by decide) ?_
      exact rtZ F hr hlocks hK hw (Or.inr rfl) hP hS dX0_isTurnOf_15
  exact key s.heap hP hS


abbrev rm_X1_find : Room := { frames := 0, cells := 0, slots := 0, locals := 0 }
set_option maxHeartbeats 4000000 in
set_option maxRecDepth 100000 in
theorem c_X1_find (l : Launch) (D : va_G) (ad : Nat → Nat) (cI cJ : ClassId) (hap : apart ad 42) (sz : Nat) (σ : St) (a1 : Int32) (a2 : Int32) (K : Int32 → St → Prop) (hw : w_X1_find σ a1 a2 K) : Met l yX1_find wsX1_find rm_X1_find (va_Pc [.ref (ad 5), .int a1, .int a2] (fun U => U.heap.size = sz ∧ inW D (wdC ad cI cJ) [(cI, .int), (cJ, .long)] σ U)) (va_Qi K (inW D (wdC ad cI cJ) [(cI, .int), (cJ, .long)]) (AW ad 42 sz)) 0 0 (AW ad 42 sz) := by
  refine Met.ofW (cc := cX1_find) (maxL := 5) (ret := (some .int)) (by decide) rfl ?_
  intro p e s m args below meth c s₁ B hml hv
  obtain ⟨rfl, hsz, ⟨hP, hK⟩⟩ := hv
  have F : CallFix p m c cX1_find 5 s ([.ref (ad 5), .int a1, .int a2] : List Value).toArray wsX1_find RX1 := ⟨B.exec, B.bytes, hml, findClass_of_methodNamed B.named, atoms_spec (ws := wsX1_find) B.pre⟩
  have hx := F.1
  have hb := F.2.1
  have hown := F.2.2.2.1
  have hts := F.2.2.2.2
  have hr := B.returns
  have hlocks := B.notSynchronized
  subst hsz
  have hDs : ∀ σ, va_D (AW ad 42 s.heap.size) ((wdC ad cI cJ) σ) := fun σ => wdC_D hap σ
  have hS : va_S (AW ad 42 s.heap.size) s.heap s.heap [] := va_S.rf
  have iw_X1 : ∀ w ∈ u_ws RX1 TX1 8, w ∈ wsX1_find := by decide +kernel
  have f_f25 := hts (.fieldLink RX1 25 "TokenFloor$Floor" "firstPair" "[I") (by decide +kernel)
  have f_f28 := hts (.fieldLink RX1 28 "TokenFloor$Floor" "nextPair" "[I") (by decide +kernel)
  have f_f9 := hts (.fieldLink RX1 9 "TokenFloor$Floor" "actOf" "[I") (by decide +kernel)
  have lab_10 : ∀ (n : Nat), ∀ (σ : St) (x1 : Int32) (x3 : Int32) (x4 : Int32) (H : Heap) (locs : List Loc) (ls : Array Slot), w_X1_find_10 K n σ x1 x3 x4 → va_P D vwCl ((wdC ad cI cJ) σ) H → va_S (AW ad 42 s.heap.size) s.heap H locs → lv_has ls 5 [(0, .ref (ad 5)), (1, .int x1), (3, .int x3), (4, .int x4)] → W p l e (headSpec wsX1_find rm_X1_find).room s m ([.ref (ad 5), .int a1, .int a2] : List Value).toArray below meth c H locs 0 0 (MQ below (va_Qi K (inW D (wdC ad cI cJ) [(cI, .int), (cJ, .long)]) (AW ad 42 s.heap.size)) ([.ref (ad 5), .int a1, .int a2] : List Value).toArray s 0 0 (AW ad 42 s.heap.size)) (F0 m 10 ls []) := by
    intro n
    induction n with
    | zero =>
      intro σ x1 x3 x4 H locs ls hw
      exact hw.elim
    | succ n hL10 =>
      intro σ x1 x3 x4 H locs ls hw hP hS hl
      have hw : b_X1_find_10 (w_X1_find_10 K n) K σ x1 x3 x4 := hw
      unfold b_X1_find_10 at hw
      generalize w_X1_find_10 K n = L10 at hw hL10
      refine lv_iload hx hb dX1_find_10 (lv_at hl 3 rfl) ?_
      refine lv_bipush (v := 80) hx hb dX1_find_12 (by decide) ?_
      refine lv_icmp_ge (tgt := 47) hx hb dX1_find_14 (by decide) (fun c_5 => ?_) (fun c_5 => ?_)
      · have hw := hw.1 c_5
        refine lv_iconst (v := (-1)) hx hb dX1_find_47 (by decide) ?_
        exact rtI F hr hlocks hK hw hP hS dX1_find_48
      · have hw := hw.2 c_5
        refine lv_iload_n hx hb dX1_find_17 rfl (lv_at hl 2 rfl) ?_
        refine lv_iconst (v := (-1)) hx hb dX1_find_18 (by decide) ?_
        refine lv_icmp_eq (tgt := 47) hx hb dX1_find_19 (by decide) (fun c_4 => ?_) (fun c_4 => ?_)
        · have hw := hw.1 c_4
          refine lv_iconst (v := (-1)) hx hb dX1_find_47 (by decide) ?_
          exact rtI F hr hlocks hK hw hP hS dX1_find_48
        · have hw := hw.2 c_4
          refine lv_aload_n hx hb dX1_find_22 rfl (lv_at hl 0 rfl) ?_
          refine gC_X1_actOf F hK iw_X1 hP f_f9 dX1_find_23 ?_
          refine lv_iload_n hx hb dX1_find_26 rfl (lv_at hl 2 rfl) ?_
          obtain ⟨i_3, hw⟩ := hw
          refine lC_X1_actOf F hK hP i_3 dX1_find_27 ?_
          refine lv_iload_n hx hb dX1_find_28 rfl (lv_at hl 1 rfl) ?_
          refine lv_icmp_ne (tgt := 34) hx hb dX1_find_29 (by decide) (fun c_2 => ?_) (fun c_2 => ?_)
          · have hw := hw.1 c_2
            refine lv_aload_n hx hb dX1_find_34 rfl (lv_at hl 0 rfl) ?_
            refine gC_X1_nextPair F hK iw_X1 hP f_f28 dX1_find_35 ?_
            refine lv_iload_n hx hb dX1_find_38 rfl (lv_at hl 2 rfl) ?_
            obtain ⟨i_1, hw⟩ := hw
            refine lC_X1_nextPair F hK hP i_1 dX1_find_39 ?_
            refine lv_istore_n (lv' := [(3, .int (gA σ 28 (x3).toNatClampNeg)), (0, .ref (ad 5)), (1, .int x1), (4, .int x4)]) hx hb dX1_find_40 rfl hl (by decide) rfl (fun ls hl => ?_)
            refine lv_iinc (v := (x4 + 1)) (lv' := [(4, .int (x4 + 1)), (3, .int (gA σ 28 (x3).toNatClampNeg)), (0, .ref (ad 5)), (1, .int x1)]) hx hb dX1_find_41 hl (k := 3) rfl rfl (by decide) rfl (fun ls hl => ?_)
            refine lv_goto (tgt := 10) hx hb dX1_find_44 (by decide) ?_
            exact hL10 _ _ _ _ _ _ _ hw hP hS (lv_sub hl [2, 3, 1, 0] rfl)
          · have hw := hw.2 c_2
            refine lv_iload_n hx hb dX1_find_32 rfl (lv_at hl 2 rfl) ?_
            exact rtI F hr hlocks hK hw hP hS dX1_find_33
  have hl := lv_entry ([.ref (ad 5), .int a1, .int a2]) (n := 5) (Nat.le_of_ble_eq_true rfl)
  rw [lg_entry_eq]
  generalize (lg_sl ([.ref (ad 5), .int a1, .int a2]) ++ List.replicate (5 - (lg_sl ([.ref (ad 5), .int a1, .int a2])).length) Slot.unset).toArray = ls at hl ⊢
  have hl : lv_has ls 5 [(0, .ref (ad 5)), (1, .int a1), (2, .int a2)] := hl
  have key : ∀ (H : Heap), va_P D vwCl ((wdC ad cI cJ) σ) H → va_S (AW ad 42 s.heap.size) s.heap H [] → W p l e (headSpec wsX1_find rm_X1_find).room s m ([.ref (ad 5), .int a1, .int a2] : List Value).toArray below meth c H [] 0 0 (MQ below (va_Qi K (inW D (wdC ad cI cJ) [(cI, .int), (cJ, .long)]) (AW ad 42 s.heap.size)) ([.ref (ad 5), .int a1, .int a2] : List Value).toArray s 0 0 (AW ad 42 s.heap.size)) (F0 m 0 ls []) := by
    intro H hP hS
    unfold w_X1_find at hw
    refine lv_aload_n hx hb dX1_find_0 rfl (lv_at hl 0 rfl) ?_
    refine gC_X1_firstPair F hK iw_X1 hP f_f25 dX1_find_1 ?_
    refine lv_iload_n hx hb dX1_find_4 rfl (lv_at hl 2 rfl) ?_
    obtain ⟨i_7, hw⟩ := hw
    refine lC_X1_firstPair F hK hP i_7 dX1_find_5 ?_
    refine lv_istore_n (lv' := [(3, .int (gA σ 27 (a2).toNatClampNeg)), (0, .ref (ad 5)), (1, .int a1), (2, .int a2)]) hx hb dX1_find_6 rfl hl (by decide) rfl (fun ls hl => ?_)
    refine lv_iconst (v := 0) hx hb dX1_find_7 (by decide) ?_
    refine lv_istore (lv' := [(4, .int 0), (3, .int (gA σ 27 (a2).toNatClampNeg)), (0, .ref (ad 5)), (1, .int a1), (2, .int a2)]) hx hb dX1_find_8 hl (by decide) rfl (fun ls hl => ?_)
    obtain ⟨n_6, hw⟩ := hw
    exact lab_10 n_6 _ _ _ _ _ _ _ hw hP hS (lv_sub hl [2, 3, 1, 0] rfl)
  exact key s.heap hP hS


abbrev rm_X1_put : Room := { frames := 0, cells := 0, slots := 0, locals := 0 }
set_option maxHeartbeats 4000000 in
set_option maxRecDepth 100000 in
theorem c_X1_put (l : Launch) (D : va_G) (ad : Nat → Nat) (cI cJ : ClassId) (hap : apart ad 42) (sz : Nat) (σ : St) (a1 : Int32) (a2 : Int32) (a3 : Int64) (a4 : Int32) (K : Int32 → St → Prop) (hw : w_X1_put σ a1 a2 a3 a4 K) : Met l yX1_put wsX1_put rm_X1_put (va_Pc [.ref (ad 5), .int a1, .int a2, .long a3, .int a4] (fun U => U.heap.size = sz ∧ inW D (wdC ad cI cJ) [(cI, .int), (cJ, .long)] σ U)) (va_Qi (fun r u => zb r ∧ K r u) (inW D (wdC ad cI cJ) [(cI, .int), (cJ, .long)]) (AW ad 42 sz)) 0 0 (AW ad 42 sz) := by
  refine Met.ofW (cc := cX1_put) (maxL := 7) (ret := (some .boolean)) (by decide) rfl ?_
  intro p e s m args below meth c s₁ B hml hv
  obtain ⟨rfl, hsz, ⟨hP, hK⟩⟩ := hv
  have F : CallFix p m c cX1_put 7 s ([.ref (ad 5), .int a1, .int a2, .long a3, .int a4] : List Value).toArray wsX1_put RX1 := ⟨B.exec, B.bytes, hml, findClass_of_methodNamed B.named, atoms_spec (ws := wsX1_put) B.pre⟩
  have hx := F.1
  have hb := F.2.1
  have hown := F.2.2.2.1
  have hts := F.2.2.2.2
  have hr := B.returns
  have hlocks := B.notSynchronized
  subst hsz
  have hDs : ∀ σ, va_D (AW ad 42 s.heap.size) ((wdC ad cI cJ) σ) := fun σ => wdC_D hap σ
  have hS : va_S (AW ad 42 s.heap.size) s.heap s.heap [] := va_S.rf
  have iw_X1 : ∀ w ∈ u_ws RX1 TX1 8, w ∈ wsX1_put := by decide +kernel
  have f_f18 := hts (.fieldLink RX1 18 "TokenFloor$Floor" "had" "[I") (by decide +kernel)
  have f_f21 := hts (.fieldLink RX1 21 "TokenFloor$Floor" "came" "[J") (by decide +kernel)
  have f_f31 := hts (.fieldLink RX1 31 "TokenFloor$Floor" "left" "I") (by decide +kernel)
  have lab_53 : ∀ (σ : St) (x5 : Int32) (t0 : Int32) (H : Heap) (locs : List Loc) (ls : Array Slot), b_X1_put_53 K σ x5 t0 → va_P D vwCl ((wdC ad cI cJ) σ) H → va_S (AW ad 42 s.heap.size) s.heap H locs → lv_has ls 7 [(0, .ref (ad 5)), (5, .int x5)] → W p l e (headSpec wsX1_put rm_X1_put).room s m ([.ref (ad 5), .int a1, .int a2, .long a3, .int a4] : List Value).toArray below meth c H locs 0 0 (MQ below (va_Qi (fun r u => zb r ∧ K r u) (inW D (wdC ad cI cJ) [(cI, .int), (cJ, .long)]) (AW ad 42 s.heap.size)) ([.ref (ad 5), .int a1, .int a2, .long a3, .int a4] : List Value).toArray s 0 0 (AW ad 42 s.heap.size)) (F0 m 53 ls [.int t0]) := by
    intro σ x5 t0 H locs ls hw hP hS hl
    unfold b_X1_put_53 at hw
    refine lv_istore (lv' := [(6, .int t0), (0, .ref (ad 5)), (5, .int x5)]) hx hb dX1_put_53 hl (by decide) rfl (fun ls hl => ?_)
    refine lv_iload hx hb dX1_put_55 (lv_at hl 0 rfl) ?_
    refine lv_if_eq (tgt := 71) hx hb dX1_put_57 (by decide) (fun c_1 => ?_) (fun c_1 => ?_)
    · have hw := hw.1 c_1
      refine lv_iload hx hb dX1_put_71 (lv_at hl 0 rfl) ?_
      exact rtZ F hr hlocks hK hw.2 hw.1 hP hS dX1_put_73
    · have hw := hw.2 c_1
      refine lv_aload_n hx hb dX1_put_60 rfl (lv_at hl 1 rfl) ?_
      refine lv_dup hx hb dX1_put_61 rfl ?_
      refine gC_X1_left F hK iw_X1 hP f_f31 dX1_put_62 ?_
      refine W.eq (g2 := F0 m 65 ls [.int (gS σ 15), .ref (ad 5)]) rfl ?_
      refine lv_iload hx hb dX1_put_65 (lv_at hl 2 rfl) ?_
      refine lv_isub hx hb dX1_put_67 ?_
      refine pC_X1_left F hK iw_X1 hP hDs hS f_f31 dX1_put_68 (fun H locs hP hS => ?_)
      refine lv_iload hx hb dX1_put_71 (lv_at hl 0 rfl) ?_
      exact rtZ F hr hlocks hK hw.2 hw.1 hP hS dX1_put_73
  have hl := lv_entry ([.ref (ad 5), .int a1, .int a2, .long a3, .int a4]) (n := 7) (Nat.le_of_ble_eq_true rfl)
  rw [lg_entry_eq]
  generalize (lg_sl ([.ref (ad 5), .int a1, .int a2, .long a3, .int a4]) ++ List.replicate (7 - (lg_sl ([.ref (ad 5), .int a1, .int a2, .long a3, .int a4])).length) Slot.unset).toArray = ls at hl ⊢
  have hl : lv_has ls 7 [(0, .ref (ad 5)), (1, .int a1), (2, .int a2), (3, .long a3), (5, .int a4)] := hl
  have key : ∀ (H : Heap), va_P D vwCl ((wdC ad cI cJ) σ) H → va_S (AW ad 42 s.heap.size) s.heap H [] → W p l e (headSpec wsX1_put rm_X1_put).room s m ([.ref (ad 5), .int a1, .int a2, .long a3, .int a4] : List Value).toArray below meth c H [] 0 0 (MQ below (va_Qi (fun r u => zb r ∧ K r u) (inW D (wdC ad cI cJ) [(cI, .int), (cJ, .long)]) (AW ad 42 s.heap.size)) ([.ref (ad 5), .int a1, .int a2, .long a3, .int a4] : List Value).toArray s 0 0 (AW ad 42 s.heap.size)) (F0 m 0 ls []) := by
    intro H hP hS
    unfold w_X1_put at hw
    refine lv_aload_n hx hb dX1_put_0 rfl (lv_at hl 0 rfl) ?_
    refine gC_X1_had F hK iw_X1 hP f_f18 dX1_put_1 ?_
    refine lv_iload_n hx hb dX1_put_4 rfl (lv_at hl 1 rfl) ?_
    refine lv_dup2_11 hx hb dX1_put_5 rfl rfl ?_
    obtain ⟨i_6, hw⟩ := hw
    refine lC_X1_had F hK hP i_6 dX1_put_6 ?_
    refine lv_iconst (v := 1) hx hb dX1_put_7 (by decide) ?_
    refine lv_iload_n hx hb dX1_put_8 rfl (lv_at hl 2 rfl) ?_
    refine lv_ishl hx hb dX1_put_9 ?_
    refine lv_ior hx hb dX1_put_10 ?_
    obtain ⟨i_5, hw⟩ := hw
    refine sC_X1_had F hK hP hDs hS i_5 dX1_put_11 (fun H locs hP hS => ?_)
    refine lv_aload_n hx hb dX1_put_12 rfl (lv_at hl 0 rfl) ?_
    refine gC_X1_came F hK iw_X1 hP f_f21 dX1_put_13 ?_
    refine lv_iconst (v := 3) hx hb dX1_put_16 (by decide) ?_
    refine lv_iload_n hx hb dX1_put_17 rfl (lv_at hl 1 rfl) ?_
    refine lv_imul hx hb dX1_put_18 ?_
    refine lv_iload_n hx hb dX1_put_19 rfl (lv_at hl 2 rfl) ?_
    refine lv_iadd hx hb dX1_put_20 ?_
    refine lv_lload_n hx hb dX1_put_21 rfl (lv_at hl 3 rfl) ?_
    obtain ⟨i_4, hw⟩ := hw
    refine sC_X1_came F hK hP hDs hS i_4 dX1_put_22 (fun H locs hP hS => ?_)
    refine lv_aload_n hx hb dX1_put_23 rfl (lv_at hl 0 rfl) ?_
    refine lv_dup hx hb dX1_put_24 rfl ?_
    refine gC_X1_left F hK iw_X1 hP f_f31 dX1_put_25 ?_
    refine W.eq (g2 := F0 m 28 ls [.int (gS σ 15), .ref (ad 5)]) rfl ?_
    refine lv_iconst (v := 1) hx hb dX1_put_28 (by decide) ?_
    refine lv_iadd hx hb dX1_put_29 ?_
    refine pC_X1_left F hK iw_X1 hP hDs hS f_f31 dX1_put_30 (fun H locs hP hS => ?_)
    refine lv_aload_n hx hb dX1_put_33 rfl (lv_at hl 0 rfl) ?_
    refine gC_X1_had F hK iw_X1 hP f_f18 dX1_put_34 ?_
    refine lv_iload_n hx hb dX1_put_37 rfl (lv_at hl 1 rfl) ?_
    obtain ⟨i_3, hw⟩ := hw
    refine lC_X1_had F hK hP i_3 dX1_put_38 ?_
    refine W.eq (g2 := F0 m 39 ls [.int (gA (sA σ 26 (a1).toNatClampNeg ((gA σ 26 (a1).toNatClampNeg) ||| (1 <<< (a2 &&& 31)))) 26 (a1).toNatClampNeg)]) rfl ?_
    refine lv_iconst (v := 1) hx hb dX1_put_39 (by decide) ?_
    refine lv_iload hx hb dX1_put_40 (lv_at hl 4 rfl) ?_
    refine lv_ishl hx hb dX1_put_42 ?_
    refine lv_iconst (v := 1) hx hb dX1_put_43 (by decide) ?_
    refine lv_isub hx hb dX1_put_44 ?_
    refine lv_icmp_ne (tgt := 52) hx hb dX1_put_45 (by decide) (fun c_2 => ?_) (fun c_2 => ?_)
    · have hw := hw.1 c_2
      refine lv_iconst (v := 0) hx hb dX1_put_52 (by decide) ?_
      exact lab_53 _ _ _ _ _ _ hw hP hS (lv_sub hl [0, 4] rfl)
    · have hw := hw.2 c_2
      refine lv_iconst (v := 1) hx hb dX1_put_48 (by decide) ?_
      refine lv_goto (tgt := 53) hx hb dX1_put_49 (by decide) ?_
      exact lab_53 _ _ _ _ _ _ hw hP hS (lv_sub hl [0, 4] rfl)
  exact key s.heap hP hS


abbrev rm_X2_hasAct : Room := { frames := 0, cells := 0, slots := 0, locals := 0 }
set_option maxHeartbeats 4000000 in
set_option maxRecDepth 100000 in
theorem c_X2_hasAct (l : Launch) (D : va_G) (ad : Nat → Nat) (cI cJ : ClassId) (hap : apart ad 42) (sz : Nat) (σ : St) (a1 : Int32) (K : Int32 → St → Prop) (hw : w_X2_hasAct σ a1 K) : Met l yX2_hasAct wsX2_hasAct rm_X2_hasAct (va_Pc [.ref (ad 1), .int a1] (fun U => U.heap.size = sz ∧ inW D (wdC ad cI cJ) [(cI, .int), (cJ, .long)] σ U)) (va_Qi (fun r u => zb r ∧ K r u) (inW D (wdC ad cI cJ) [(cI, .int), (cJ, .long)]) (AW ad 42 sz)) 0 0 (AW ad 42 sz) := by
  refine Met.ofW (cc := cX2_hasAct) (maxL := 2) (ret := (some .boolean)) (by decide) rfl ?_
  intro p e s m args below meth c s₁ B hml hv
  obtain ⟨rfl, hsz, ⟨hP, hK⟩⟩ := hv
  have F : CallFix p m c cX2_hasAct 2 s ([.ref (ad 1), .int a1] : List Value).toArray wsX2_hasAct RX2 := ⟨B.exec, B.bytes, hml, findClass_of_methodNamed B.named, atoms_spec (ws := wsX2_hasAct) B.pre⟩
  have hx := F.1
  have hb := F.2.1
  have hown := F.2.2.2.1
  have hts := F.2.2.2.2
  have hr := B.returns
  have hlocks := B.notSynchronized
  subst hsz
  have hDs : ∀ σ, va_D (AW ad 42 s.heap.size) ((wdC ad cI cJ) σ) := fun σ => wdC_D hap σ
  have hS : va_S (AW ad 42 s.heap.size) s.heap s.heap [] := va_S.rf
  have iw_X2 : ∀ w ∈ u_ws RX2 TX2 15, w ∈ wsX2_hasAct := by decide +kernel
  have f_f54 := hts (.fieldLink RX2 54 "TokenFloor$Graph" "acts" "I") (by decide +kernel)
  have hl := lv_entry ([.ref (ad 1), .int a1]) (n := 2) (Nat.le_of_ble_eq_true rfl)
  rw [lg_entry_eq]
  generalize (lg_sl ([.ref (ad 1), .int a1]) ++ List.replicate (2 - (lg_sl ([.ref (ad 1), .int a1])).length) Slot.unset).toArray = ls at hl ⊢
  have hl : lv_has ls 2 [(0, .ref (ad 1)), (1, .int a1)] := hl
  have key : ∀ (H : Heap), va_P D vwCl ((wdC ad cI cJ) σ) H → va_S (AW ad 42 s.heap.size) s.heap H [] → W p l e (headSpec wsX2_hasAct rm_X2_hasAct).room s m ([.ref (ad 1), .int a1] : List Value).toArray below meth c H [] 0 0 (MQ below (va_Qi (fun r u => zb r ∧ K r u) (inW D (wdC ad cI cJ) [(cI, .int), (cJ, .long)]) (AW ad 42 s.heap.size)) ([.ref (ad 1), .int a1] : List Value).toArray s 0 0 (AW ad 42 s.heap.size)) (F0 m 0 ls []) := by
    intro H hP hS
    unfold w_X2_hasAct at hw
    refine lv_iload_n hx hb dX2_hasAct_0 rfl (lv_at hl 1 rfl) ?_
    refine lv_if_lt (tgt := 16) hx hb dX2_hasAct_1 (by decide) (fun c_2 => ?_) (fun c_2 => ?_)
    · have hw := hw.1 c_2
      refine lv_iconst (v := 0) hx hb dX2_hasAct_16 (by decide) ?_
      exact rtZ F hr hlocks hK hw (Or.inl rfl) hP hS dX2_hasAct_17
    · have hw := hw.2 c_2
      refine lv_iload_n hx hb dX2_hasAct_4 rfl (lv_at hl 1 rfl) ?_
      refine lv_aload_n hx hb dX2_hasAct_5 rfl (lv_at hl 0 rfl) ?_
      refine gC_X2_acts F hK iw_X2 hP f_f54 dX2_hasAct_6 ?_
      refine W.eq (g2 := F0 m 9 ls [.int (gS σ 1), .int a1]) rfl ?_
      refine lv_icmp_ge (tgt := 16) hx hb dX2_hasAct_9 (by decide) (fun c_1 => ?_) (fun c_1 => ?_)
      · have hw := hw.1 c_1
        refine lv_iconst (v := 0) hx hb dX2_hasAct_16 (by decide) ?_
        exact rtZ F hr hlocks hK hw (Or.inl rfl) hP hS dX2_hasAct_17
      · have hw := hw.2 c_1
        refine lv_iconst (v := 1) hx hb dX2_hasAct_12 (by decide) ?_
        refine lv_goto (tgt := 17) hx hb dX2_hasAct_13 (by decide) ?_
        exact rtZ F hr hlocks hK hw (Or.inr rfl) hP hS dX2_hasAct_17
  exact key s.heap hP hS
end
