-- ===== PART A: goes FIRST, ahead of the names: the tables' words, and 'selects' of the private methods out of them =====
/-- a private method of a class that the tables say can be made, by its rows of tables_1 -/
def lw_okq (q : MethodName × Nat) : Prop := (q.1.cls ≠ "java/lang/invoke/MethodHandle" ∧ q.1.cls ≠ "java/lang/invoke/VarHandle") ∧ Cond.instantiable q.1.cls q.2 ∈ tables_1 ∧ Cond.privateMethod q.1 ∈ tables_1 ∧ Cond.instanceMethod q.1 ∈ tables_1
theorem lw_p0 : lw_okq (⟨"PorchHours", "changePorch", "(III)Z"⟩, 15) := ⟨⟨by decide +kernel, by decide +kernel⟩, List.mem_of_getElem? (i := 23) (by decide +kernel), List.mem_of_getElem? (i := 543) (by decide +kernel), List.mem_of_getElem? (i := 544) (by decide +kernel)⟩
theorem lw_p1 : lw_okq (⟨"PorchHours", "changePerson", "(III)Z"⟩, 15) := ⟨⟨by decide +kernel, by decide +kernel⟩, List.mem_of_getElem? (i := 23) (by decide +kernel), List.mem_of_getElem? (i := 555) (by decide +kernel), List.mem_of_getElem? (i := 556) (by decide +kernel)⟩
theorem lw_p2 : lw_okq (⟨"PorchHours", "sitByHand", "(II)Z"⟩, 15) := ⟨⟨by decide +kernel, by decide +kernel⟩, List.mem_of_getElem? (i := 23) (by decide +kernel), List.mem_of_getElem? (i := 563) (by decide +kernel), List.mem_of_getElem? (i := 564) (by decide +kernel)⟩
theorem lw_p3 : lw_okq (⟨"PorchHours$Hours", "write", "(III)V"⟩, 5) := ⟨⟨by decide +kernel, by decide +kernel⟩, List.mem_of_getElem? (i := 372) (by decide +kernel), List.mem_of_getElem? (i := 596) (by decide +kernel), List.mem_of_getElem? (i := 597) (by decide +kernel)⟩
theorem lw_p4 : lw_okq (⟨"PorchHours", "riseByHand", "(I)Z"⟩, 15) := ⟨⟨by decide +kernel, by decide +kernel⟩, List.mem_of_getElem? (i := 23) (by decide +kernel), List.mem_of_getElem? (i := 601) (by decide +kernel), List.mem_of_getElem? (i := 602) (by decide +kernel)⟩
theorem lw_p5 : lw_okq (⟨"PorchHours", "sweepByHand", "(I)Z"⟩, 15) := ⟨⟨by decide +kernel, by decide +kernel⟩, List.mem_of_getElem? (i := 23) (by decide +kernel), List.mem_of_getElem? (i := 609) (by decide +kernel), List.mem_of_getElem? (i := 610) (by decide +kernel)⟩
theorem lw_p6 : lw_okq (⟨"PorchHours", "fillByHand", "(II)Z"⟩, 15) := ⟨⟨by decide +kernel, by decide +kernel⟩, List.mem_of_getElem? (i := 23) (by decide +kernel), List.mem_of_getElem? (i := 618) (by decide +kernel), List.mem_of_getElem? (i := 619) (by decide +kernel)⟩
theorem lw_p7 : lw_okq (⟨"PorchHours$Hours", "beginEvening", "()V"⟩, 5) := ⟨⟨by decide +kernel, by decide +kernel⟩, List.mem_of_getElem? (i := 372) (by decide +kernel), List.mem_of_getElem? (i := 630) (by decide +kernel), List.mem_of_getElem? (i := 631) (by decide +kernel)⟩
theorem lw_p8 : lw_okq (⟨"PorchHours$Hours", "followCalls", "()V"⟩, 5) := ⟨⟨by decide +kernel, by decide +kernel⟩, List.mem_of_getElem? (i := 372) (by decide +kernel), List.mem_of_getElem? (i := 640) (by decide +kernel), List.mem_of_getElem? (i := 641) (by decide +kernel)⟩
theorem lw_p9 : lw_okq (⟨"PorchHours$Hours", "letItRain", "()V"⟩, 5) := ⟨⟨by decide +kernel, by decide +kernel⟩, List.mem_of_getElem? (i := 372) (by decide +kernel), List.mem_of_getElem? (i := 647) (by decide +kernel), List.mem_of_getElem? (i := 648) (by decide +kernel)⟩
theorem lw_p10 : lw_okq (⟨"PorchHours$Hours", "speaksNow", "(I)Z"⟩, 5) := ⟨⟨by decide +kernel, by decide +kernel⟩, List.mem_of_getElem? (i := 372) (by decide +kernel), List.mem_of_getElem? (i := 652) (by decide +kernel), List.mem_of_getElem? (i := 653) (by decide +kernel)⟩
theorem lw_p11 : lw_okq (⟨"PorchHours$Law", "lookAt", "(II)V"⟩, 5) := ⟨⟨by decide +kernel, by decide +kernel⟩, List.mem_of_getElem? (i := 350) (by decide +kernel), List.mem_of_getElem? (i := 660) (by decide +kernel), List.mem_of_getElem? (i := 661) (by decide +kernel)⟩
theorem lw_p12 : lw_okq (⟨"PorchHours$Law", "value", "(II)I"⟩, 5) := ⟨⟨by decide +kernel, by decide +kernel⟩, List.mem_of_getElem? (i := 350) (by decide +kernel), List.mem_of_getElem? (i := 671) (by decide +kernel), List.mem_of_getElem? (i := 672) (by decide +kernel)⟩
theorem lw_p13 : lw_okq (⟨"PorchHours$Hours", "happens", "(I)Z"⟩, 5) := ⟨⟨by decide +kernel, by decide +kernel⟩, List.mem_of_getElem? (i := 372) (by decide +kernel), List.mem_of_getElem? (i := 685) (by decide +kernel), List.mem_of_getElem? (i := 686) (by decide +kernel)⟩
theorem lw_p14 : lw_okq (⟨"PorchHours$Hours", "hearsNow", "(III)Z"⟩, 5) := ⟨⟨by decide +kernel, by decide +kernel⟩, List.mem_of_getElem? (i := 372) (by decide +kernel), List.mem_of_getElem? (i := 695) (by decide +kernel), List.mem_of_getElem? (i := 696) (by decide +kernel)⟩
theorem lw_p15 : lw_okq (⟨"PorchHours$Hours", "stayOrRise", "()V"⟩, 5) := ⟨⟨by decide +kernel, by decide +kernel⟩, List.mem_of_getElem? (i := 372) (by decide +kernel), List.mem_of_getElem? (i := 705) (by decide +kernel), List.mem_of_getElem? (i := 706) (by decide +kernel)⟩
def lw_privs_1 : List (MethodName × Nat) := [(⟨"PorchHours", "changePorch", "(III)Z"⟩, 15), (⟨"PorchHours", "changePerson", "(III)Z"⟩, 15), (⟨"PorchHours", "sitByHand", "(II)Z"⟩, 15), (⟨"PorchHours$Hours", "write", "(III)V"⟩, 5), (⟨"PorchHours", "riseByHand", "(I)Z"⟩, 15), (⟨"PorchHours", "sweepByHand", "(I)Z"⟩, 15), (⟨"PorchHours", "fillByHand", "(II)Z"⟩, 15), (⟨"PorchHours$Hours", "beginEvening", "()V"⟩, 5), (⟨"PorchHours$Hours", "followCalls", "()V"⟩, 5), (⟨"PorchHours$Hours", "letItRain", "()V"⟩, 5), (⟨"PorchHours$Hours", "speaksNow", "(I)Z"⟩, 5), (⟨"PorchHours$Law", "lookAt", "(II)V"⟩, 5), (⟨"PorchHours$Law", "value", "(II)I"⟩, 5), (⟨"PorchHours$Hours", "happens", "(I)Z"⟩, 5), (⟨"PorchHours$Hours", "hearsNow", "(III)Z"⟩, 5), (⟨"PorchHours$Hours", "stayOrRise", "()V"⟩, 5)]
theorem lw_r1 : ∀ q ∈ lw_privs_1, lw_okq q := List.forall_mem_cons.mpr ⟨lw_p0, List.forall_mem_cons.mpr ⟨lw_p1, List.forall_mem_cons.mpr ⟨lw_p2, List.forall_mem_cons.mpr ⟨lw_p3, List.forall_mem_cons.mpr ⟨lw_p4, List.forall_mem_cons.mpr ⟨lw_p5, List.forall_mem_cons.mpr ⟨lw_p6, List.forall_mem_cons.mpr ⟨lw_p7, List.forall_mem_cons.mpr ⟨lw_p8, List.forall_mem_cons.mpr ⟨lw_p9, List.forall_mem_cons.mpr ⟨lw_p10, List.forall_mem_cons.mpr ⟨lw_p11, List.forall_mem_cons.mpr ⟨lw_p12, List.forall_mem_cons.mpr ⟨lw_p13, List.forall_mem_cons.mpr ⟨lw_p14, List.forall_mem_cons.mpr ⟨lw_p15, fun _ h => absurd h List.not_mem_nil⟩⟩⟩⟩⟩⟩⟩⟩⟩⟩⟩⟩⟩⟩⟩⟩
theorem lw_p16 : lw_okq (⟨"PorchHours$Hours", "burnLamps", "()V"⟩, 5) := ⟨⟨by decide +kernel, by decide +kernel⟩, List.mem_of_getElem? (i := 372) (by decide +kernel), List.mem_of_getElem? (i := 709) (by decide +kernel), List.mem_of_getElem? (i := 710) (by decide +kernel)⟩
theorem lw_p17 : lw_okq (⟨"PorchHours$Hours", "acceptAt", "(I)V"⟩, 5) := ⟨⟨by decide +kernel, by decide +kernel⟩, List.mem_of_getElem? (i := 372) (by decide +kernel), List.mem_of_getElem? (i := 713) (by decide +kernel), List.mem_of_getElem? (i := 714) (by decide +kernel)⟩
theorem lw_p18 : lw_okq (⟨"PorchHours$Hours", "spinCobwebs", "()V"⟩, 5) := ⟨⟨by decide +kernel, by decide +kernel⟩, List.mem_of_getElem? (i := 372) (by decide +kernel), List.mem_of_getElem? (i := 717) (by decide +kernel), List.mem_of_getElem? (i := 718) (by decide +kernel)⟩
theorem lw_p19 : lw_okq (⟨"PorchHours$Hours", "turnClock", "()V"⟩, 5) := ⟨⟨by decide +kernel, by decide +kernel⟩, List.mem_of_getElem? (i := 372) (by decide +kernel), List.mem_of_getElem? (i := 722) (by decide +kernel), List.mem_of_getElem? (i := 723) (by decide +kernel)⟩
theorem lw_p20 : lw_okq (⟨"PorchHours$Tokens", "behind", "(I)I"⟩, 6) := ⟨⟨by decide +kernel, by decide +kernel⟩, List.mem_of_getElem? (i := 297) (by decide +kernel), List.mem_of_getElem? (i := 769) (by decide +kernel), List.mem_of_getElem? (i := 770) (by decide +kernel)⟩
theorem lw_p21 : lw_okq (⟨"PorchHours$Tokens", "note", "(II)V"⟩, 6) := ⟨⟨by decide +kernel, by decide +kernel⟩, List.mem_of_getElem? (i := 297) (by decide +kernel), List.mem_of_getElem? (i := 786) (by decide +kernel), List.mem_of_getElem? (i := 787) (by decide +kernel)⟩
theorem lw_p22 : lw_okq (⟨"PorchHours$Tokens", "wordOf", "(II)I"⟩, 6) := ⟨⟨by decide +kernel, by decide +kernel⟩, List.mem_of_getElem? (i := 297) (by decide +kernel), List.mem_of_getElem? (i := 790) (by decide +kernel), List.mem_of_getElem? (i := 791) (by decide +kernel)⟩
theorem lw_p23 : lw_okq (⟨"PorchHours$Tokens", "spells", "(IILjava/lang/String;)Z"⟩, 6) := ⟨⟨by decide +kernel, by decide +kernel⟩, List.mem_of_getElem? (i := 297) (by decide +kernel), List.mem_of_getElem? (i := 795) (by decide +kernel), List.mem_of_getElem? (i := 796) (by decide +kernel)⟩
theorem lw_p24 : lw_okq (⟨"PorchHours$Tokens", "nounOf", "(II)I"⟩, 6) := ⟨⟨by decide +kernel, by decide +kernel⟩, List.mem_of_getElem? (i := 297) (by decide +kernel), List.mem_of_getElem? (i := 864) (by decide +kernel), List.mem_of_getElem? (i := 865) (by decide +kernel)⟩
theorem lw_p25 : lw_okq (⟨"PorchHours$Reader", "readLawLine", "()Z"⟩, 9) := ⟨⟨by decide +kernel, by decide +kernel⟩, List.mem_of_getElem? (i := 289) (by decide +kernel), List.mem_of_getElem? (i := 882) (by decide +kernel), List.mem_of_getElem? (i := 883) (by decide +kernel)⟩
theorem lw_p26 : lw_okq (⟨"PorchHours$Reader", "refuse", "(I)Z"⟩, 9) := ⟨⟨by decide +kernel, by decide +kernel⟩, List.mem_of_getElem? (i := 289) (by decide +kernel), List.mem_of_getElem? (i := 886) (by decide +kernel), List.mem_of_getElem? (i := 887) (by decide +kernel)⟩
theorem lw_p27 : lw_okq (⟨"PorchHours$Reader", "beginLine", "(I)Z"⟩, 9) := ⟨⟨by decide +kernel, by decide +kernel⟩, List.mem_of_getElem? (i := 289) (by decide +kernel), List.mem_of_getElem? (i := 890) (by decide +kernel), List.mem_of_getElem? (i := 891) (by decide +kernel)⟩
theorem lw_p28 : lw_okq (⟨"PorchHours$Reader", "readSum", "()Z"⟩, 9) := ⟨⟨by decide +kernel, by decide +kernel⟩, List.mem_of_getElem? (i := 289) (by decide +kernel), List.mem_of_getElem? (i := 900) (by decide +kernel), List.mem_of_getElem? (i := 901) (by decide +kernel)⟩
theorem lw_p29 : lw_okq (⟨"PorchHours$Reader", "readOperand", "(Z)Z"⟩, 9) := ⟨⟨by decide +kernel, by decide +kernel⟩, List.mem_of_getElem? (i := 289) (by decide +kernel), List.mem_of_getElem? (i := 904) (by decide +kernel), List.mem_of_getElem? (i := 905) (by decide +kernel)⟩
theorem lw_p30 : lw_okq (⟨"PorchHours$Reader", "readConditions", "()Z"⟩, 9) := ⟨⟨by decide +kernel, by decide +kernel⟩, List.mem_of_getElem? (i := 289) (by decide +kernel), List.mem_of_getElem? (i := 916) (by decide +kernel), List.mem_of_getElem? (i := 917) (by decide +kernel)⟩
theorem lw_p31 : lw_okq (⟨"PorchHours$Reader", "readOpenings", "()Z"⟩, 9) := ⟨⟨by decide +kernel, by decide +kernel⟩, List.mem_of_getElem? (i := 289) (by decide +kernel), List.mem_of_getElem? (i := 920) (by decide +kernel), List.mem_of_getElem? (i := 921) (by decide +kernel)⟩
def lw_privs_2 : List (MethodName × Nat) := [(⟨"PorchHours$Hours", "burnLamps", "()V"⟩, 5), (⟨"PorchHours$Hours", "acceptAt", "(I)V"⟩, 5), (⟨"PorchHours$Hours", "spinCobwebs", "()V"⟩, 5), (⟨"PorchHours$Hours", "turnClock", "()V"⟩, 5), (⟨"PorchHours$Tokens", "behind", "(I)I"⟩, 6), (⟨"PorchHours$Tokens", "note", "(II)V"⟩, 6), (⟨"PorchHours$Tokens", "wordOf", "(II)I"⟩, 6), (⟨"PorchHours$Tokens", "spells", "(IILjava/lang/String;)Z"⟩, 6), (⟨"PorchHours$Tokens", "nounOf", "(II)I"⟩, 6), (⟨"PorchHours$Reader", "readLawLine", "()Z"⟩, 9), (⟨"PorchHours$Reader", "refuse", "(I)Z"⟩, 9), (⟨"PorchHours$Reader", "beginLine", "(I)Z"⟩, 9), (⟨"PorchHours$Reader", "readSum", "()Z"⟩, 9), (⟨"PorchHours$Reader", "readOperand", "(Z)Z"⟩, 9), (⟨"PorchHours$Reader", "readConditions", "()Z"⟩, 9), (⟨"PorchHours$Reader", "readOpenings", "()Z"⟩, 9)]
theorem lw_r2 : ∀ q ∈ lw_privs_2, lw_okq q := List.forall_mem_cons.mpr ⟨lw_p16, List.forall_mem_cons.mpr ⟨lw_p17, List.forall_mem_cons.mpr ⟨lw_p18, List.forall_mem_cons.mpr ⟨lw_p19, List.forall_mem_cons.mpr ⟨lw_p20, List.forall_mem_cons.mpr ⟨lw_p21, List.forall_mem_cons.mpr ⟨lw_p22, List.forall_mem_cons.mpr ⟨lw_p23, List.forall_mem_cons.mpr ⟨lw_p24, List.forall_mem_cons.mpr ⟨lw_p25, List.forall_mem_cons.mpr ⟨lw_p26, List.forall_mem_cons.mpr ⟨lw_p27, List.forall_mem_cons.mpr ⟨lw_p28, List.forall_mem_cons.mpr ⟨lw_p29, List.forall_mem_cons.mpr ⟨lw_p30, List.forall_mem_cons.mpr ⟨lw_p31, fun _ h => absurd h List.not_mem_nil⟩⟩⟩⟩⟩⟩⟩⟩⟩⟩⟩⟩⟩⟩⟩⟩
theorem lw_p32 : lw_okq (⟨"PorchHours$Reader", "putOff", "(I)V"⟩, 9) := ⟨⟨by decide +kernel, by decide +kernel⟩, List.mem_of_getElem? (i := 289) (by decide +kernel), List.mem_of_getElem? (i := 924) (by decide +kernel), List.mem_of_getElem? (i := 925) (by decide +kernel)⟩
theorem lw_p33 : lw_okq (⟨"PorchHours$Reader", "readComparison", "()Z"⟩, 9) := ⟨⟨by decide +kernel, by decide +kernel⟩, List.mem_of_getElem? (i := 289) (by decide +kernel), List.mem_of_getElem? (i := 928) (by decide +kernel), List.mem_of_getElem? (i := 929) (by decide +kernel)⟩
theorem lw_p34 : lw_okq (⟨"PorchHours$Reader", "readClosings", "()Z"⟩, 9) := ⟨⟨by decide +kernel, by decide +kernel⟩, List.mem_of_getElem? (i := 289) (by decide +kernel), List.mem_of_getElem? (i := 932) (by decide +kernel), List.mem_of_getElem? (i := 933) (by decide +kernel)⟩
theorem lw_p35 : lw_okq (⟨"PorchHours$Reader", "noteDown", "(I)V"⟩, 9) := ⟨⟨by decide +kernel, by decide +kernel⟩, List.mem_of_getElem? (i := 289) (by decide +kernel), List.mem_of_getElem? (i := 936) (by decide +kernel), List.mem_of_getElem? (i := 937) (by decide +kernel)⟩
theorem lw_p36 : lw_okq (⟨"PorchHours$Reader", "take", "(I)Z"⟩, 9) := ⟨⟨by decide +kernel, by decide +kernel⟩, List.mem_of_getElem? (i := 289) (by decide +kernel), List.mem_of_getElem? (i := 940) (by decide +kernel), List.mem_of_getElem? (i := 941) (by decide +kernel)⟩
theorem lw_p37 : lw_okq (⟨"PorchHours$Reader", "readCall", "()Z"⟩, 9) := ⟨⟨by decide +kernel, by decide +kernel⟩, List.mem_of_getElem? (i := 289) (by decide +kernel), List.mem_of_getElem? (i := 945) (by decide +kernel), List.mem_of_getElem? (i := 946) (by decide +kernel)⟩
theorem lw_p38 : lw_okq (⟨"PorchHours$Reader", "takePerson", "()I"⟩, 9) := ⟨⟨by decide +kernel, by decide +kernel⟩, List.mem_of_getElem? (i := 289) (by decide +kernel), List.mem_of_getElem? (i := 949) (by decide +kernel), List.mem_of_getElem? (i := 950) (by decide +kernel)⟩
theorem lw_p39 : lw_okq (⟨"PorchHours$Reader", "takeNumber", "(III)I"⟩, 9) := ⟨⟨by decide +kernel, by decide +kernel⟩, List.mem_of_getElem? (i := 289) (by decide +kernel), List.mem_of_getElem? (i := 953) (by decide +kernel), List.mem_of_getElem? (i := 954) (by decide +kernel)⟩
theorem lw_p40 : lw_okq (⟨"PorchHours$Reader", "takeMinute", "()I"⟩, 9) := ⟨⟨by decide +kernel, by decide +kernel⟩, List.mem_of_getElem? (i := 289) (by decide +kernel), List.mem_of_getElem? (i := 957) (by decide +kernel), List.mem_of_getElem? (i := 958) (by decide +kernel)⟩
theorem lw_p41 : lw_okq (⟨"PorchHours$Reader", "takePorch", "()I"⟩, 9) := ⟨⟨by decide +kernel, by decide +kernel⟩, List.mem_of_getElem? (i := 289) (by decide +kernel), List.mem_of_getElem? (i := 961) (by decide +kernel), List.mem_of_getElem? (i := 962) (by decide +kernel)⟩
theorem lw_p42 : lw_okq (⟨"PorchHours$Reader", "readEvening", "()Z"⟩, 9) := ⟨⟨by decide +kernel, by decide +kernel⟩, List.mem_of_getElem? (i := 289) (by decide +kernel), List.mem_of_getElem? (i := 965) (by decide +kernel), List.mem_of_getElem? (i := 966) (by decide +kernel)⟩
theorem lw_p43 : lw_okq (⟨"PorchHours$Reader", "readStreetLine", "()Z"⟩, 9) := ⟨⟨by decide +kernel, by decide +kernel⟩, List.mem_of_getElem? (i := 289) (by decide +kernel), List.mem_of_getElem? (i := 969) (by decide +kernel), List.mem_of_getElem? (i := 970) (by decide +kernel)⟩
theorem lw_p44 : lw_okq (⟨"PorchHours$Couples", "pairUp", "(I)V"⟩, 4) := ⟨⟨by decide +kernel, by decide +kernel⟩, List.mem_of_getElem? (i := 394) (by decide +kernel), List.mem_of_getElem? (i := 1060) (by decide +kernel), List.mem_of_getElem? (i := 1061) (by decide +kernel)⟩
theorem lw_p45 : lw_okq (⟨"PorchHours$Couples", "isSettled", "()Z"⟩, 4) := ⟨⟨by decide +kernel, by decide +kernel⟩, List.mem_of_getElem? (i := 394) (by decide +kernel), List.mem_of_getElem? (i := 1067) (by decide +kernel), List.mem_of_getElem? (i := 1068) (by decide +kernel)⟩
theorem lw_p46 : lw_okq (⟨"PorchHours$Couples", "prefers", "(IIII)Z"⟩, 4) := ⟨⟨by decide +kernel, by decide +kernel⟩, List.mem_of_getElem? (i := 394) (by decide +kernel), List.mem_of_getElem? (i := 1071) (by decide +kernel), List.mem_of_getElem? (i := 1072) (by decide +kernel)⟩
theorem lw_p47 : lw_okq (⟨"PorchHours$Couples", "rank", "(III)I"⟩, 4) := ⟨⟨by decide +kernel, by decide +kernel⟩, List.mem_of_getElem? (i := 394) (by decide +kernel), List.mem_of_getElem? (i := 1075) (by decide +kernel), List.mem_of_getElem? (i := 1076) (by decide +kernel)⟩
def lw_privs_3 : List (MethodName × Nat) := [(⟨"PorchHours$Reader", "putOff", "(I)V"⟩, 9), (⟨"PorchHours$Reader", "readComparison", "()Z"⟩, 9), (⟨"PorchHours$Reader", "readClosings", "()Z"⟩, 9), (⟨"PorchHours$Reader", "noteDown", "(I)V"⟩, 9), (⟨"PorchHours$Reader", "take", "(I)Z"⟩, 9), (⟨"PorchHours$Reader", "readCall", "()Z"⟩, 9), (⟨"PorchHours$Reader", "takePerson", "()I"⟩, 9), (⟨"PorchHours$Reader", "takeNumber", "(III)I"⟩, 9), (⟨"PorchHours$Reader", "takeMinute", "()I"⟩, 9), (⟨"PorchHours$Reader", "takePorch", "()I"⟩, 9), (⟨"PorchHours$Reader", "readEvening", "()Z"⟩, 9), (⟨"PorchHours$Reader", "readStreetLine", "()Z"⟩, 9), (⟨"PorchHours$Couples", "pairUp", "(I)V"⟩, 4), (⟨"PorchHours$Couples", "isSettled", "()Z"⟩, 4), (⟨"PorchHours$Couples", "prefers", "(IIII)Z"⟩, 4), (⟨"PorchHours$Couples", "rank", "(III)I"⟩, 4)]
theorem lw_r3 : ∀ q ∈ lw_privs_3, lw_okq q := List.forall_mem_cons.mpr ⟨lw_p32, List.forall_mem_cons.mpr ⟨lw_p33, List.forall_mem_cons.mpr ⟨lw_p34, List.forall_mem_cons.mpr ⟨lw_p35, List.forall_mem_cons.mpr ⟨lw_p36, List.forall_mem_cons.mpr ⟨lw_p37, List.forall_mem_cons.mpr ⟨lw_p38, List.forall_mem_cons.mpr ⟨lw_p39, List.forall_mem_cons.mpr ⟨lw_p40, List.forall_mem_cons.mpr ⟨lw_p41, List.forall_mem_cons.mpr ⟨lw_p42, List.forall_mem_cons.mpr ⟨lw_p43, List.forall_mem_cons.mpr ⟨lw_p44, List.forall_mem_cons.mpr ⟨lw_p45, List.forall_mem_cons.mpr ⟨lw_p46, List.forall_mem_cons.mpr ⟨lw_p47, fun _ h => absurd h List.not_mem_nil⟩⟩⟩⟩⟩⟩⟩⟩⟩⟩⟩⟩⟩⟩⟩⟩
theorem lw_p48 : lw_okq (⟨"PorchHours$Couples", "engage", "(I)V"⟩, 4) := ⟨⟨by decide +kernel, by decide +kernel⟩, List.mem_of_getElem? (i := 394) (by decide +kernel), List.mem_of_getElem? (i := 1084) (by decide +kernel), List.mem_of_getElem? (i := 1085) (by decide +kernel)⟩
theorem lw_p49 : lw_okq (⟨"PorchHours$Couples", "ask", "(II)I"⟩, 4) := ⟨⟨by decide +kernel, by decide +kernel⟩, List.mem_of_getElem? (i := 394) (by decide +kernel), List.mem_of_getElem? (i := 1089) (by decide +kernel), List.mem_of_getElem? (i := 1090) (by decide +kernel)⟩
theorem lw_p50 : lw_okq (⟨"PorchHours$Puzzles", "carryOn", "(I)V"⟩, 15) := ⟨⟨by decide +kernel, by decide +kernel⟩, List.mem_of_getElem? (i := 413) (by decide +kernel), List.mem_of_getElem? (i := 1132) (by decide +kernel), List.mem_of_getElem? (i := 1133) (by decide +kernel)⟩
theorem lw_p51 : lw_okq (⟨"PorchHours$Puzzles", "countFamilies", "()I"⟩, 15) := ⟨⟨by decide +kernel, by decide +kernel⟩, List.mem_of_getElem? (i := 413) (by decide +kernel), List.mem_of_getElem? (i := 1149) (by decide +kernel), List.mem_of_getElem? (i := 1150) (by decide +kernel)⟩
theorem lw_p52 : lw_okq (⟨"PorchHours$Puzzles", "shelterOneMore", "(II)I"⟩, 15) := ⟨⟨by decide +kernel, by decide +kernel⟩, List.mem_of_getElem? (i := 413) (by decide +kernel), List.mem_of_getElem? (i := 1158) (by decide +kernel), List.mem_of_getElem? (i := 1159) (by decide +kernel)⟩
theorem lw_p53 : lw_okq (⟨"PorchHours$Puzzles", "findEnemies", "(I)V"⟩, 15) := ⟨⟨by decide +kernel, by decide +kernel⟩, List.mem_of_getElem? (i := 413) (by decide +kernel), List.mem_of_getElem? (i := 1254) (by decide +kernel), List.mem_of_getElem? (i := 1255) (by decide +kernel)⟩
theorem lw_p54 : lw_okq (⟨"PorchHours$Puzzles", "seatBehind", "(IIIZ)I"⟩, 15) := ⟨⟨by decide +kernel, by decide +kernel⟩, List.mem_of_getElem? (i := 413) (by decide +kernel), List.mem_of_getElem? (i := 1258) (by decide +kernel), List.mem_of_getElem? (i := 1259) (by decide +kernel)⟩
theorem lw_p55 : lw_okq (⟨"PorchHours$Puzzles", "walk", "(III)V"⟩, 15) := ⟨⟨by decide +kernel, by decide +kernel⟩, List.mem_of_getElem? (i := 413) (by decide +kernel), List.mem_of_getElem? (i := 1270) (by decide +kernel), List.mem_of_getElem? (i := 1271) (by decide +kernel)⟩
theorem lw_p56 : lw_okq (⟨"PorchHours$Puzzles", "enqueue", "(II)V"⟩, 15) := ⟨⟨by decide +kernel, by decide +kernel⟩, List.mem_of_getElem? (i := 413) (by decide +kernel), List.mem_of_getElem? (i := 1298) (by decide +kernel), List.mem_of_getElem? (i := 1299) (by decide +kernel)⟩
theorem lw_p57 : lw_okq (⟨"PorchHours$Puzzles", "seeCans", "(I)V"⟩, 15) := ⟨⟨by decide +kernel, by decide +kernel⟩, List.mem_of_getElem? (i := 413) (by decide +kernel), List.mem_of_getElem? (i := 1302) (by decide +kernel), List.mem_of_getElem? (i := 1303) (by decide +kernel)⟩
theorem lw_p58 : lw_okq (⟨"PorchHours$Puzzles", "pour", "(III)V"⟩, 15) := ⟨⟨by decide +kernel, by decide +kernel⟩, List.mem_of_getElem? (i := 413) (by decide +kernel), List.mem_of_getElem? (i := 1306) (by decide +kernel), List.mem_of_getElem? (i := 1307) (by decide +kernel)⟩
theorem lw_p59 : lw_okq (⟨"PorchHours$Puzzles", "lesserBehind", "(II)I"⟩, 15) := ⟨⟨by decide +kernel, by decide +kernel⟩, List.mem_of_getElem? (i := 413) (by decide +kernel), List.mem_of_getElem? (i := 1326) (by decide +kernel), List.mem_of_getElem? (i := 1327) (by decide +kernel)⟩
theorem lw_p60 : lw_okq (⟨"PorchHoursModel", "isIn", "(III)Z"⟩, 87) := ⟨⟨by decide +kernel, by decide +kernel⟩, List.mem_of_getElem? (i := 1384) (by decide +kernel), List.mem_of_getElem? (i := 1665) (by decide +kernel), List.mem_of_getElem? (i := 1666) (by decide +kernel)⟩
theorem lw_p61 : lw_okq (⟨"PorchHoursModel", "canSet", "(III)Z"⟩, 87) := ⟨⟨by decide +kernel, by decide +kernel⟩, List.mem_of_getElem? (i := 1384) (by decide +kernel), List.mem_of_getElem? (i := 1677) (by decide +kernel), List.mem_of_getElem? (i := 1678) (by decide +kernel)⟩
theorem lw_p62 : lw_okq (⟨"PorchHoursModel", "isPorch", "(I)Z"⟩, 87) := ⟨⟨by decide +kernel, by decide +kernel⟩, List.mem_of_getElem? (i := 1384) (by decide +kernel), List.mem_of_getElem? (i := 1681) (by decide +kernel), List.mem_of_getElem? (i := 1682) (by decide +kernel)⟩
theorem lw_p63 : lw_okq (⟨"PorchHoursModel", "isPerson", "(I)Z"⟩, 87) := ⟨⟨by decide +kernel, by decide +kernel⟩, List.mem_of_getElem? (i := 1384) (by decide +kernel), List.mem_of_getElem? (i := 1685) (by decide +kernel), List.mem_of_getElem? (i := 1686) (by decide +kernel)⟩
def lw_privs_4 : List (MethodName × Nat) := [(⟨"PorchHours$Couples", "engage", "(I)V"⟩, 4), (⟨"PorchHours$Couples", "ask", "(II)I"⟩, 4), (⟨"PorchHours$Puzzles", "carryOn", "(I)V"⟩, 15), (⟨"PorchHours$Puzzles", "countFamilies", "()I"⟩, 15), (⟨"PorchHours$Puzzles", "shelterOneMore", "(II)I"⟩, 15), (⟨"PorchHours$Puzzles", "findEnemies", "(I)V"⟩, 15), (⟨"PorchHours$Puzzles", "seatBehind", "(IIIZ)I"⟩, 15), (⟨"PorchHours$Puzzles", "walk", "(III)V"⟩, 15), (⟨"PorchHours$Puzzles", "enqueue", "(II)V"⟩, 15), (⟨"PorchHours$Puzzles", "seeCans", "(I)V"⟩, 15), (⟨"PorchHours$Puzzles", "pour", "(III)V"⟩, 15), (⟨"PorchHours$Puzzles", "lesserBehind", "(II)I"⟩, 15), (⟨"PorchHoursModel", "isIn", "(III)Z"⟩, 87), (⟨"PorchHoursModel", "canSet", "(III)Z"⟩, 87), (⟨"PorchHoursModel", "isPorch", "(I)Z"⟩, 87), (⟨"PorchHoursModel", "isPerson", "(I)Z"⟩, 87)]
theorem lw_r4 : ∀ q ∈ lw_privs_4, lw_okq q := List.forall_mem_cons.mpr ⟨lw_p48, List.forall_mem_cons.mpr ⟨lw_p49, List.forall_mem_cons.mpr ⟨lw_p50, List.forall_mem_cons.mpr ⟨lw_p51, List.forall_mem_cons.mpr ⟨lw_p52, List.forall_mem_cons.mpr ⟨lw_p53, List.forall_mem_cons.mpr ⟨lw_p54, List.forall_mem_cons.mpr ⟨lw_p55, List.forall_mem_cons.mpr ⟨lw_p56, List.forall_mem_cons.mpr ⟨lw_p57, List.forall_mem_cons.mpr ⟨lw_p58, List.forall_mem_cons.mpr ⟨lw_p59, List.forall_mem_cons.mpr ⟨lw_p60, List.forall_mem_cons.mpr ⟨lw_p61, List.forall_mem_cons.mpr ⟨lw_p62, List.forall_mem_cons.mpr ⟨lw_p63, fun _ h => absurd h List.not_mem_nil⟩⟩⟩⟩⟩⟩⟩⟩⟩⟩⟩⟩⟩⟩⟩⟩
theorem lw_p64 : lw_okq (⟨"PorchHoursModel", "types", "(I)V"⟩, 87) := ⟨⟨by decide +kernel, by decide +kernel⟩, List.mem_of_getElem? (i := 1384) (by decide +kernel), List.mem_of_getElem? (i := 1693) (by decide +kernel), List.mem_of_getElem? (i := 1694) (by decide +kernel)⟩
theorem lw_p65 : lw_okq (⟨"PorchHoursModel", "readsText", "(I)I"⟩, 87) := ⟨⟨by decide +kernel, by decide +kernel⟩, List.mem_of_getElem? (i := 1384) (by decide +kernel), List.mem_of_getElem? (i := 1705) (by decide +kernel), List.mem_of_getElem? (i := 1706) (by decide +kernel)⟩
theorem lw_p66 : lw_okq (⟨"PorchHoursModel", "reads", "()V"⟩, 87) := ⟨⟨by decide +kernel, by decide +kernel⟩, List.mem_of_getElem? (i := 1384) (by decide +kernel), List.mem_of_getElem? (i := 1709) (by decide +kernel), List.mem_of_getElem? (i := 1710) (by decide +kernel)⟩
theorem lw_p67 : lw_okq (⟨"PorchHoursModel", "raw", "(I)I"⟩, 87) := ⟨⟨by decide +kernel, by decide +kernel⟩, List.mem_of_getElem? (i := 1384) (by decide +kernel), List.mem_of_getElem? (i := 1713) (by decide +kernel), List.mem_of_getElem? (i := 1714) (by decide +kernel)⟩
theorem lw_p68 : lw_okq (⟨"PorchHoursModel", "isLetter", "(I)Z"⟩, 87) := ⟨⟨by decide +kernel, by decide +kernel⟩, List.mem_of_getElem? (i := 1384) (by decide +kernel), List.mem_of_getElem? (i := 1717) (by decide +kernel), List.mem_of_getElem? (i := 1718) (by decide +kernel)⟩
theorem lw_p69 : lw_okq (⟨"PorchHoursModel", "wordAt", "(II)I"⟩, 87) := ⟨⟨by decide +kernel, by decide +kernel⟩, List.mem_of_getElem? (i := 1384) (by decide +kernel), List.mem_of_getElem? (i := 1721) (by decide +kernel), List.mem_of_getElem? (i := 1722) (by decide +kernel)⟩
theorem lw_p70 : lw_okq (⟨"PorchHoursModel", "isDigit", "(I)Z"⟩, 87) := ⟨⟨by decide +kernel, by decide +kernel⟩, List.mem_of_getElem? (i := 1384) (by decide +kernel), List.mem_of_getElem? (i := 1725) (by decide +kernel), List.mem_of_getElem? (i := 1726) (by decide +kernel)⟩
theorem lw_p71 : lw_okq (⟨"PorchHoursModel", "isMarkSign", "(I)Z"⟩, 87) := ⟨⟨by decide +kernel, by decide +kernel⟩, List.mem_of_getElem? (i := 1384) (by decide +kernel), List.mem_of_getElem? (i := 1729) (by decide +kernel), List.mem_of_getElem? (i := 1730) (by decide +kernel)⟩
theorem lw_p72 : lw_okq (⟨"PorchHoursModel", "readCalls", "()I"⟩, 87) := ⟨⟨by decide +kernel, by decide +kernel⟩, List.mem_of_getElem? (i := 1384) (by decide +kernel), List.mem_of_getElem? (i := 1733) (by decide +kernel), List.mem_of_getElem? (i := 1734) (by decide +kernel)⟩
theorem lw_p73 : lw_okq (⟨"PorchHoursModel", "isWord", "(I)Z"⟩, 87) := ⟨⟨by decide +kernel, by decide +kernel⟩, List.mem_of_getElem? (i := 1384) (by decide +kernel), List.mem_of_getElem? (i := 1737) (by decide +kernel), List.mem_of_getElem? (i := 1738) (by decide +kernel)⟩
theorem lw_p74 : lw_okq (⟨"PorchHoursModel", "errs", "(I)I"⟩, 87) := ⟨⟨by decide +kernel, by decide +kernel⟩, List.mem_of_getElem? (i := 1384) (by decide +kernel), List.mem_of_getElem? (i := 1741) (by decide +kernel), List.mem_of_getElem? (i := 1742) (by decide +kernel)⟩
theorem lw_p75 : lw_okq (⟨"PorchHoursModel", "readCall", "(I)I"⟩, 87) := ⟨⟨by decide +kernel, by decide +kernel⟩, List.mem_of_getElem? (i := 1384) (by decide +kernel), List.mem_of_getElem? (i := 1745) (by decide +kernel), List.mem_of_getElem? (i := 1746) (by decide +kernel)⟩
theorem lw_p76 : lw_okq (⟨"PorchHoursModel", "readTold", "(III)I"⟩, 87) := ⟨⟨by decide +kernel, by decide +kernel⟩, List.mem_of_getElem? (i := 1384) (by decide +kernel), List.mem_of_getElem? (i := 1749) (by decide +kernel), List.mem_of_getElem? (i := 1750) (by decide +kernel)⟩
theorem lw_p77 : lw_okq (⟨"PorchHoursModel", "readNumber", "(II)I"⟩, 87) := ⟨⟨by decide +kernel, by decide +kernel⟩, List.mem_of_getElem? (i := 1384) (by decide +kernel), List.mem_of_getElem? (i := 1753) (by decide +kernel), List.mem_of_getElem? (i := 1754) (by decide +kernel)⟩
theorem lw_p78 : lw_okq (⟨"PorchHoursModel", "readMark", "(I)I"⟩, 87) := ⟨⟨by decide +kernel, by decide +kernel⟩, List.mem_of_getElem? (i := 1384) (by decide +kernel), List.mem_of_getElem? (i := 1757) (by decide +kernel), List.mem_of_getElem? (i := 1758) (by decide +kernel)⟩
theorem lw_p79 : lw_okq (⟨"PorchHoursModel", "isSign", "(I)Z"⟩, 87) := ⟨⟨by decide +kernel, by decide +kernel⟩, List.mem_of_getElem? (i := 1384) (by decide +kernel), List.mem_of_getElem? (i := 1761) (by decide +kernel), List.mem_of_getElem? (i := 1762) (by decide +kernel)⟩
def lw_privs_5 : List (MethodName × Nat) := [(⟨"PorchHoursModel", "types", "(I)V"⟩, 87), (⟨"PorchHoursModel", "readsText", "(I)I"⟩, 87), (⟨"PorchHoursModel", "reads", "()V"⟩, 87), (⟨"PorchHoursModel", "raw", "(I)I"⟩, 87), (⟨"PorchHoursModel", "isLetter", "(I)Z"⟩, 87), (⟨"PorchHoursModel", "wordAt", "(II)I"⟩, 87), (⟨"PorchHoursModel", "isDigit", "(I)Z"⟩, 87), (⟨"PorchHoursModel", "isMarkSign", "(I)Z"⟩, 87), (⟨"PorchHoursModel", "readCalls", "()I"⟩, 87), (⟨"PorchHoursModel", "isWord", "(I)Z"⟩, 87), (⟨"PorchHoursModel", "errs", "(I)I"⟩, 87), (⟨"PorchHoursModel", "readCall", "(I)I"⟩, 87), (⟨"PorchHoursModel", "readTold", "(III)I"⟩, 87), (⟨"PorchHoursModel", "readNumber", "(II)I"⟩, 87), (⟨"PorchHoursModel", "readMark", "(I)I"⟩, 87), (⟨"PorchHoursModel", "isSign", "(I)Z"⟩, 87)]
theorem lw_r5 : ∀ q ∈ lw_privs_5, lw_okq q := List.forall_mem_cons.mpr ⟨lw_p64, List.forall_mem_cons.mpr ⟨lw_p65, List.forall_mem_cons.mpr ⟨lw_p66, List.forall_mem_cons.mpr ⟨lw_p67, List.forall_mem_cons.mpr ⟨lw_p68, List.forall_mem_cons.mpr ⟨lw_p69, List.forall_mem_cons.mpr ⟨lw_p70, List.forall_mem_cons.mpr ⟨lw_p71, List.forall_mem_cons.mpr ⟨lw_p72, List.forall_mem_cons.mpr ⟨lw_p73, List.forall_mem_cons.mpr ⟨lw_p74, List.forall_mem_cons.mpr ⟨lw_p75, List.forall_mem_cons.mpr ⟨lw_p76, List.forall_mem_cons.mpr ⟨lw_p77, List.forall_mem_cons.mpr ⟨lw_p78, List.forall_mem_cons.mpr ⟨lw_p79, fun _ h => absurd h List.not_mem_nil⟩⟩⟩⟩⟩⟩⟩⟩⟩⟩⟩⟩⟩⟩⟩⟩
theorem lw_p80 : lw_okq (⟨"PorchHoursModel", "readEvenings", "()I"⟩, 87) := ⟨⟨by decide +kernel, by decide +kernel⟩, List.mem_of_getElem? (i := 1384) (by decide +kernel), List.mem_of_getElem? (i := 1765) (by decide +kernel), List.mem_of_getElem? (i := 1766) (by decide +kernel)⟩
theorem lw_p81 : lw_okq (⟨"PorchHoursModel", "readDeed", "(I)I"⟩, 87) := ⟨⟨by decide +kernel, by decide +kernel⟩, List.mem_of_getElem? (i := 1384) (by decide +kernel), List.mem_of_getElem? (i := 1769) (by decide +kernel), List.mem_of_getElem? (i := 1770) (by decide +kernel)⟩
theorem lw_p82 : lw_okq (⟨"PorchHoursModel", "readStreet", "()I"⟩, 87) := ⟨⟨by decide +kernel, by decide +kernel⟩, List.mem_of_getElem? (i := 1384) (by decide +kernel), List.mem_of_getElem? (i := 1773) (by decide +kernel), List.mem_of_getElem? (i := 1774) (by decide +kernel)⟩
theorem lw_p83 : lw_okq (⟨"PorchHoursModel", "readRoad", "()I"⟩, 87) := ⟨⟨by decide +kernel, by decide +kernel⟩, List.mem_of_getElem? (i := 1384) (by decide +kernel), List.mem_of_getElem? (i := 1777) (by decide +kernel), List.mem_of_getElem? (i := 1778) (by decide +kernel)⟩
theorem lw_p84 : lw_okq (⟨"PorchHoursModel", "takesFeet", "(II)V"⟩, 87) := ⟨⟨by decide +kernel, by decide +kernel⟩, List.mem_of_getElem? (i := 1384) (by decide +kernel), List.mem_of_getElem? (i := 1781) (by decide +kernel), List.mem_of_getElem? (i := 1782) (by decide +kernel)⟩
theorem lw_p85 : lw_okq (⟨"PorchHoursModel", "readLaw", "()I"⟩, 87) := ⟨⟨by decide +kernel, by decide +kernel⟩, List.mem_of_getElem? (i := 1384) (by decide +kernel), List.mem_of_getElem? (i := 1785) (by decide +kernel), List.mem_of_getElem? (i := 1786) (by decide +kernel)⟩
theorem lw_p86 : lw_okq (⟨"PorchHoursModel", "isLineWord", "()Z"⟩, 87) := ⟨⟨by decide +kernel, by decide +kernel⟩, List.mem_of_getElem? (i := 1384) (by decide +kernel), List.mem_of_getElem? (i := 1789) (by decide +kernel), List.mem_of_getElem? (i := 1790) (by decide +kernel)⟩
theorem lw_p87 : lw_okq (⟨"PorchHoursModel", "readSum", "()I"⟩, 87) := ⟨⟨by decide +kernel, by decide +kernel⟩, List.mem_of_getElem? (i := 1384) (by decide +kernel), List.mem_of_getElem? (i := 1793) (by decide +kernel), List.mem_of_getElem? (i := 1794) (by decide +kernel)⟩
theorem lw_p88 : lw_okq (⟨"PorchHoursModel", "readProduct", "()I"⟩, 87) := ⟨⟨by decide +kernel, by decide +kernel⟩, List.mem_of_getElem? (i := 1384) (by decide +kernel), List.mem_of_getElem? (i := 1797) (by decide +kernel), List.mem_of_getElem? (i := 1798) (by decide +kernel)⟩
theorem lw_p89 : lw_okq (⟨"PorchHoursModel", "readUnit", "()I"⟩, 87) := ⟨⟨by decide +kernel, by decide +kernel⟩, List.mem_of_getElem? (i := 1384) (by decide +kernel), List.mem_of_getElem? (i := 1801) (by decide +kernel), List.mem_of_getElem? (i := 1802) (by decide +kernel)⟩
theorem lw_p90 : lw_okq (⟨"PorchHoursModel", "canAsk", "(I)Z"⟩, 87) := ⟨⟨by decide +kernel, by decide +kernel⟩, List.mem_of_getElem? (i := 1384) (by decide +kernel), List.mem_of_getElem? (i := 1805) (by decide +kernel), List.mem_of_getElem? (i := 1806) (by decide +kernel)⟩
theorem lw_p91 : lw_okq (⟨"PorchHoursModel", "emits", "(II)V"⟩, 87) := ⟨⟨by decide +kernel, by decide +kernel⟩, List.mem_of_getElem? (i := 1384) (by decide +kernel), List.mem_of_getElem? (i := 1809) (by decide +kernel), List.mem_of_getElem? (i := 1810) (by decide +kernel)⟩
theorem lw_p92 : lw_okq (⟨"PorchHoursModel", "readAny", "()I"⟩, 87) := ⟨⟨by decide +kernel, by decide +kernel⟩, List.mem_of_getElem? (i := 1384) (by decide +kernel), List.mem_of_getElem? (i := 1813) (by decide +kernel), List.mem_of_getElem? (i := 1814) (by decide +kernel)⟩
theorem lw_p93 : lw_okq (⟨"PorchHoursModel", "waits", "(I)V"⟩, 87) := ⟨⟨by decide +kernel, by decide +kernel⟩, List.mem_of_getElem? (i := 1384) (by decide +kernel), List.mem_of_getElem? (i := 1817) (by decide +kernel), List.mem_of_getElem? (i := 1818) (by decide +kernel)⟩
theorem lw_p94 : lw_okq (⟨"PorchHoursModel", "readCompared", "()I"⟩, 87) := ⟨⟨by decide +kernel, by decide +kernel⟩, List.mem_of_getElem? (i := 1384) (by decide +kernel), List.mem_of_getElem? (i := 1821) (by decide +kernel), List.mem_of_getElem? (i := 1822) (by decide +kernel)⟩
theorem lw_p95 : lw_okq (⟨"PorchHoursModel", "settles", "(I)V"⟩, 87) := ⟨⟨by decide +kernel, by decide +kernel⟩, List.mem_of_getElem? (i := 1384) (by decide +kernel), List.mem_of_getElem? (i := 1825) (by decide +kernel), List.mem_of_getElem? (i := 1826) (by decide +kernel)⟩
def lw_privs_6 : List (MethodName × Nat) := [(⟨"PorchHoursModel", "readEvenings", "()I"⟩, 87), (⟨"PorchHoursModel", "readDeed", "(I)I"⟩, 87), (⟨"PorchHoursModel", "readStreet", "()I"⟩, 87), (⟨"PorchHoursModel", "readRoad", "()I"⟩, 87), (⟨"PorchHoursModel", "takesFeet", "(II)V"⟩, 87), (⟨"PorchHoursModel", "readLaw", "()I"⟩, 87), (⟨"PorchHoursModel", "isLineWord", "()Z"⟩, 87), (⟨"PorchHoursModel", "readSum", "()I"⟩, 87), (⟨"PorchHoursModel", "readProduct", "()I"⟩, 87), (⟨"PorchHoursModel", "readUnit", "()I"⟩, 87), (⟨"PorchHoursModel", "canAsk", "(I)Z"⟩, 87), (⟨"PorchHoursModel", "emits", "(II)V"⟩, 87), (⟨"PorchHoursModel", "readAny", "()I"⟩, 87), (⟨"PorchHoursModel", "waits", "(I)V"⟩, 87), (⟨"PorchHoursModel", "readCompared", "()I"⟩, 87), (⟨"PorchHoursModel", "settles", "(I)V"⟩, 87)]
theorem lw_r6 : ∀ q ∈ lw_privs_6, lw_okq q := List.forall_mem_cons.mpr ⟨lw_p80, List.forall_mem_cons.mpr ⟨lw_p81, List.forall_mem_cons.mpr ⟨lw_p82, List.forall_mem_cons.mpr ⟨lw_p83, List.forall_mem_cons.mpr ⟨lw_p84, List.forall_mem_cons.mpr ⟨lw_p85, List.forall_mem_cons.mpr ⟨lw_p86, List.forall_mem_cons.mpr ⟨lw_p87, List.forall_mem_cons.mpr ⟨lw_p88, List.forall_mem_cons.mpr ⟨lw_p89, List.forall_mem_cons.mpr ⟨lw_p90, List.forall_mem_cons.mpr ⟨lw_p91, List.forall_mem_cons.mpr ⟨lw_p92, List.forall_mem_cons.mpr ⟨lw_p93, List.forall_mem_cons.mpr ⟨lw_p94, List.forall_mem_cons.mpr ⟨lw_p95, fun _ h => absurd h List.not_mem_nil⟩⟩⟩⟩⟩⟩⟩⟩⟩⟩⟩⟩⟩⟩⟩⟩
theorem lw_p96 : lw_okq (⟨"PorchHoursModel", "takesLaw", "(I)V"⟩, 87) := ⟨⟨by decide +kernel, by decide +kernel⟩, List.mem_of_getElem? (i := 1384) (by decide +kernel), List.mem_of_getElem? (i := 1829) (by decide +kernel), List.mem_of_getElem? (i := 1830) (by decide +kernel)⟩
theorem lw_p97 : lw_okq (⟨"PorchHoursModel", "takesOther", "(II)V"⟩, 87) := ⟨⟨by decide +kernel, by decide +kernel⟩, List.mem_of_getElem? (i := 1384) (by decide +kernel), List.mem_of_getElem? (i := 1833) (by decide +kernel), List.mem_of_getElem? (i := 1834) (by decide +kernel)⟩
theorem lw_p98 : lw_okq (⟨"PorchHoursModel", "canAct", "(III)Z"⟩, 87) := ⟨⟨by decide +kernel, by decide +kernel⟩, List.mem_of_getElem? (i := 1384) (by decide +kernel), List.mem_of_getElem? (i := 1845) (by decide +kernel), List.mem_of_getElem? (i := 1846) (by decide +kernel)⟩
theorem lw_p99 : lw_okq (⟨"PorchHoursModel", "canSit", "(II)Z"⟩, 87) := ⟨⟨by decide +kernel, by decide +kernel⟩, List.mem_of_getElem? (i := 1384) (by decide +kernel), List.mem_of_getElem? (i := 1849) (by decide +kernel), List.mem_of_getElem? (i := 1850) (by decide +kernel)⟩
theorem lw_p100 : lw_okq (⟨"PorchHoursModel", "doesSit", "(I)Z"⟩, 87) := ⟨⟨by decide +kernel, by decide +kernel⟩, List.mem_of_getElem? (i := 1384) (by decide +kernel), List.mem_of_getElem? (i := 1853) (by decide +kernel), List.mem_of_getElem? (i := 1854) (by decide +kernel)⟩
theorem lw_p101 : lw_okq (⟨"PorchHoursModel", "sittersOn", "(I)I"⟩, 87) := ⟨⟨by decide +kernel, by decide +kernel⟩, List.mem_of_getElem? (i := 1384) (by decide +kernel), List.mem_of_getElem? (i := 1857) (by decide +kernel), List.mem_of_getElem? (i := 1858) (by decide +kernel)⟩
theorem lw_p102 : lw_okq (⟨"PorchHoursModel", "sitsOn", "(I)I"⟩, 87) := ⟨⟨by decide +kernel, by decide +kernel⟩, List.mem_of_getElem? (i := 1384) (by decide +kernel), List.mem_of_getElem? (i := 1861) (by decide +kernel), List.mem_of_getElem? (i := 1862) (by decide +kernel)⟩
theorem lw_p103 : lw_okq (⟨"PorchHoursModel", "onesOf", "(I)I"⟩, 87) := ⟨⟨by decide +kernel, by decide +kernel⟩, List.mem_of_getElem? (i := 1384) (by decide +kernel), List.mem_of_getElem? (i := 1865) (by decide +kernel), List.mem_of_getElem? (i := 1866) (by decide +kernel)⟩
theorem lw_p104 : lw_okq (⟨"PorchHoursModel", "keepsAhead", "()V"⟩, 87) := ⟨⟨by decide +kernel, by decide +kernel⟩, List.mem_of_getElem? (i := 1384) (by decide +kernel), List.mem_of_getElem? (i := 1869) (by decide +kernel), List.mem_of_getElem? (i := 1870) (by decide +kernel)⟩
theorem lw_p105 : lw_okq (⟨"PorchHoursModel", "isSat", "(III)V"⟩, 87) := ⟨⟨by decide +kernel, by decide +kernel⟩, List.mem_of_getElem? (i := 1384) (by decide +kernel), List.mem_of_getElem? (i := 1873) (by decide +kernel), List.mem_of_getElem? (i := 1874) (by decide +kernel)⟩
theorem lw_p106 : lw_okq (⟨"PorchHoursModel", "notes", "(III)V"⟩, 87) := ⟨⟨by decide +kernel, by decide +kernel⟩, List.mem_of_getElem? (i := 1384) (by decide +kernel), List.mem_of_getElem? (i := 1877) (by decide +kernel), List.mem_of_getElem? (i := 1878) (by decide +kernel)⟩
theorem lw_p107 : lw_okq (⟨"PorchHoursModel", "getsUp", "(I)V"⟩, 87) := ⟨⟨by decide +kernel, by decide +kernel⟩, List.mem_of_getElem? (i := 1384) (by decide +kernel), List.mem_of_getElem? (i := 1881) (by decide +kernel), List.mem_of_getElem? (i := 1882) (by decide +kernel)⟩
theorem lw_p108 : lw_okq (⟨"PorchHoursModel", "isSwept", "(I)V"⟩, 87) := ⟨⟨by decide +kernel, by decide +kernel⟩, List.mem_of_getElem? (i := 1384) (by decide +kernel), List.mem_of_getElem? (i := 1885) (by decide +kernel), List.mem_of_getElem? (i := 1886) (by decide +kernel)⟩
theorem lw_p109 : lw_okq (⟨"PorchHoursModel", "goesBy", "()I"⟩, 87) := ⟨⟨by decide +kernel, by decide +kernel⟩, List.mem_of_getElem? (i := 1384) (by decide +kernel), List.mem_of_getElem? (i := 1893) (by decide +kernel), List.mem_of_getElem? (i := 1894) (by decide +kernel)⟩
theorem lw_p110 : lw_okq (⟨"PorchHoursModel", "begins", "()V"⟩, 87) := ⟨⟨by decide +kernel, by decide +kernel⟩, List.mem_of_getElem? (i := 1384) (by decide +kernel), List.mem_of_getElem? (i := 1897) (by decide +kernel), List.mem_of_getElem? (i := 1898) (by decide +kernel)⟩
theorem lw_p111 : lw_okq (⟨"PorchHoursModel", "callsAndRain", "()V"⟩, 87) := ⟨⟨by decide +kernel, by decide +kernel⟩, List.mem_of_getElem? (i := 1384) (by decide +kernel), List.mem_of_getElem? (i := 1901) (by decide +kernel), List.mem_of_getElem? (i := 1902) (by decide +kernel)⟩
def lw_privs_7 : List (MethodName × Nat) := [(⟨"PorchHoursModel", "takesLaw", "(I)V"⟩, 87), (⟨"PorchHoursModel", "takesOther", "(II)V"⟩, 87), (⟨"PorchHoursModel", "canAct", "(III)Z"⟩, 87), (⟨"PorchHoursModel", "canSit", "(II)Z"⟩, 87), (⟨"PorchHoursModel", "doesSit", "(I)Z"⟩, 87), (⟨"PorchHoursModel", "sittersOn", "(I)I"⟩, 87), (⟨"PorchHoursModel", "sitsOn", "(I)I"⟩, 87), (⟨"PorchHoursModel", "onesOf", "(I)I"⟩, 87), (⟨"PorchHoursModel", "keepsAhead", "()V"⟩, 87), (⟨"PorchHoursModel", "isSat", "(III)V"⟩, 87), (⟨"PorchHoursModel", "notes", "(III)V"⟩, 87), (⟨"PorchHoursModel", "getsUp", "(I)V"⟩, 87), (⟨"PorchHoursModel", "isSwept", "(I)V"⟩, 87), (⟨"PorchHoursModel", "goesBy", "()I"⟩, 87), (⟨"PorchHoursModel", "begins", "()V"⟩, 87), (⟨"PorchHoursModel", "callsAndRain", "()V"⟩, 87)]
theorem lw_r7 : ∀ q ∈ lw_privs_7, lw_okq q := List.forall_mem_cons.mpr ⟨lw_p96, List.forall_mem_cons.mpr ⟨lw_p97, List.forall_mem_cons.mpr ⟨lw_p98, List.forall_mem_cons.mpr ⟨lw_p99, List.forall_mem_cons.mpr ⟨lw_p100, List.forall_mem_cons.mpr ⟨lw_p101, List.forall_mem_cons.mpr ⟨lw_p102, List.forall_mem_cons.mpr ⟨lw_p103, List.forall_mem_cons.mpr ⟨lw_p104, List.forall_mem_cons.mpr ⟨lw_p105, List.forall_mem_cons.mpr ⟨lw_p106, List.forall_mem_cons.mpr ⟨lw_p107, List.forall_mem_cons.mpr ⟨lw_p108, List.forall_mem_cons.mpr ⟨lw_p109, List.forall_mem_cons.mpr ⟨lw_p110, List.forall_mem_cons.mpr ⟨lw_p111, fun _ h => absurd h List.not_mem_nil⟩⟩⟩⟩⟩⟩⟩⟩⟩⟩⟩⟩⟩⟩⟩⟩
theorem lw_p112 : lw_okq (⟨"PorchHoursModel", "speaksOf", "(I)I"⟩, 87) := ⟨⟨by decide +kernel, by decide +kernel⟩, List.mem_of_getElem? (i := 1384) (by decide +kernel), List.mem_of_getElem? (i := 1905) (by decide +kernel), List.mem_of_getElem? (i := 1906) (by decide +kernel)⟩
theorem lw_p113 : lw_okq (⟨"PorchHoursModel", "asks", "(II)V"⟩, 87) := ⟨⟨by decide +kernel, by decide +kernel⟩, List.mem_of_getElem? (i := 1384) (by decide +kernel), List.mem_of_getElem? (i := 1909) (by decide +kernel), List.mem_of_getElem? (i := 1910) (by decide +kernel)⟩
theorem lw_p114 : lw_okq (⟨"PorchHoursModel", "lawTells", "(III)I"⟩, 87) := ⟨⟨by decide +kernel, by decide +kernel⟩, List.mem_of_getElem? (i := 1384) (by decide +kernel), List.mem_of_getElem? (i := 1913) (by decide +kernel), List.mem_of_getElem? (i := 1914) (by decide +kernel)⟩
theorem lw_p115 : lw_okq (⟨"PorchHoursModel", "lineOf", "(I)I"⟩, 87) := ⟨⟨by decide +kernel, by decide +kernel⟩, List.mem_of_getElem? (i := 1384) (by decide +kernel), List.mem_of_getElem? (i := 1917) (by decide +kernel), List.mem_of_getElem? (i := 1918) (by decide +kernel)⟩
theorem lw_p116 : lw_okq (⟨"PorchHoursModel", "runs", "(III)I"⟩, 87) := ⟨⟨by decide +kernel, by decide +kernel⟩, List.mem_of_getElem? (i := 1384) (by decide +kernel), List.mem_of_getElem? (i := 1921) (by decide +kernel), List.mem_of_getElem? (i := 1922) (by decide +kernel)⟩
theorem lw_p117 : lw_okq (⟨"PorchHoursModel", "twoOf", "(III)I"⟩, 87) := ⟨⟨by decide +kernel, by decide +kernel⟩, List.mem_of_getElem? (i := 1384) (by decide +kernel), List.mem_of_getElem? (i := 1925) (by decide +kernel), List.mem_of_getElem? (i := 1926) (by decide +kernel)⟩
theorem lw_p118 : lw_okq (⟨"PorchHoursModel", "held", "(III)I"⟩, 87) := ⟨⟨by decide +kernel, by decide +kernel⟩, List.mem_of_getElem? (i := 1384) (by decide +kernel), List.mem_of_getElem? (i := 1929) (by decide +kernel), List.mem_of_getElem? (i := 1930) (by decide +kernel)⟩
theorem lw_p119 : lw_okq (⟨"PorchHoursModel", "happens", "(I)Z"⟩, 87) := ⟨⟨by decide +kernel, by decide +kernel⟩, List.mem_of_getElem? (i := 1384) (by decide +kernel), List.mem_of_getElem? (i := 1933) (by decide +kernel), List.mem_of_getElem? (i := 1934) (by decide +kernel)⟩
theorem lw_p120 : lw_okq (⟨"PorchHoursModel", "draw", "(I)I"⟩, 87) := ⟨⟨by decide +kernel, by decide +kernel⟩, List.mem_of_getElem? (i := 1384) (by decide +kernel), List.mem_of_getElem? (i := 1937) (by decide +kernel), List.mem_of_getElem? (i := 1938) (by decide +kernel)⟩
theorem lw_p121 : lw_okq (⟨"PorchHoursModel", "isSpoken", "(I)V"⟩, 87) := ⟨⟨by decide +kernel, by decide +kernel⟩, List.mem_of_getElem? (i := 1384) (by decide +kernel), List.mem_of_getElem? (i := 1943) (by decide +kernel), List.mem_of_getElem? (i := 1944) (by decide +kernel)⟩
theorem lw_p122 : lw_okq (⟨"PorchHoursModel", "isBeside", "(II)Z"⟩, 87) := ⟨⟨by decide +kernel, by decide +kernel⟩, List.mem_of_getElem? (i := 1384) (by decide +kernel), List.mem_of_getElem? (i := 1947) (by decide +kernel), List.mem_of_getElem? (i := 1948) (by decide +kernel)⟩
theorem lw_p123 : lw_okq (⟨"PorchHoursModel", "hearsOf", "(II)I"⟩, 87) := ⟨⟨by decide +kernel, by decide +kernel⟩, List.mem_of_getElem? (i := 1384) (by decide +kernel), List.mem_of_getElem? (i := 1951) (by decide +kernel), List.mem_of_getElem? (i := 1952) (by decide +kernel)⟩
theorem lw_p124 : lw_okq (⟨"PorchHoursModel", "lampBurns", "(I)V"⟩, 87) := ⟨⟨by decide +kernel, by decide +kernel⟩, List.mem_of_getElem? (i := 1384) (by decide +kernel), List.mem_of_getElem? (i := 1955) (by decide +kernel), List.mem_of_getElem? (i := 1956) (by decide +kernel)⟩
theorem lw_p125 : lw_okq (⟨"PorchHoursModel", "spinsOf", "(I)I"⟩, 87) := ⟨⟨by decide +kernel, by decide +kernel⟩, List.mem_of_getElem? (i := 1384) (by decide +kernel), List.mem_of_getElem? (i := 1959) (by decide +kernel), List.mem_of_getElem? (i := 1960) (by decide +kernel)⟩
theorem lw_p126 : lw_okq (⟨"PorchHoursModel", "lesser", "(II)I"⟩, 87) := ⟨⟨by decide +kernel, by decide +kernel⟩, List.mem_of_getElem? (i := 1384) (by decide +kernel), List.mem_of_getElem? (i := 1963) (by decide +kernel), List.mem_of_getElem? (i := 1964) (by decide +kernel)⟩
theorem lw_p127 : lw_okq (⟨"PorchHoursModel", "thinks", "()V"⟩, 87) := ⟨⟨by decide +kernel, by decide +kernel⟩, List.mem_of_getElem? (i := 1384) (by decide +kernel), List.mem_of_getElem? (i := 1987) (by decide +kernel), List.mem_of_getElem? (i := 1988) (by decide +kernel)⟩
def lw_privs_8 : List (MethodName × Nat) := [(⟨"PorchHoursModel", "speaksOf", "(I)I"⟩, 87), (⟨"PorchHoursModel", "asks", "(II)V"⟩, 87), (⟨"PorchHoursModel", "lawTells", "(III)I"⟩, 87), (⟨"PorchHoursModel", "lineOf", "(I)I"⟩, 87), (⟨"PorchHoursModel", "runs", "(III)I"⟩, 87), (⟨"PorchHoursModel", "twoOf", "(III)I"⟩, 87), (⟨"PorchHoursModel", "held", "(III)I"⟩, 87), (⟨"PorchHoursModel", "happens", "(I)Z"⟩, 87), (⟨"PorchHoursModel", "draw", "(I)I"⟩, 87), (⟨"PorchHoursModel", "isSpoken", "(I)V"⟩, 87), (⟨"PorchHoursModel", "isBeside", "(II)Z"⟩, 87), (⟨"PorchHoursModel", "hearsOf", "(II)I"⟩, 87), (⟨"PorchHoursModel", "lampBurns", "(I)V"⟩, 87), (⟨"PorchHoursModel", "spinsOf", "(I)I"⟩, 87), (⟨"PorchHoursModel", "lesser", "(II)I"⟩, 87), (⟨"PorchHoursModel", "thinks", "()V"⟩, 87)]
theorem lw_r8 : ∀ q ∈ lw_privs_8, lw_okq q := List.forall_mem_cons.mpr ⟨lw_p112, List.forall_mem_cons.mpr ⟨lw_p113, List.forall_mem_cons.mpr ⟨lw_p114, List.forall_mem_cons.mpr ⟨lw_p115, List.forall_mem_cons.mpr ⟨lw_p116, List.forall_mem_cons.mpr ⟨lw_p117, List.forall_mem_cons.mpr ⟨lw_p118, List.forall_mem_cons.mpr ⟨lw_p119, List.forall_mem_cons.mpr ⟨lw_p120, List.forall_mem_cons.mpr ⟨lw_p121, List.forall_mem_cons.mpr ⟨lw_p122, List.forall_mem_cons.mpr ⟨lw_p123, List.forall_mem_cons.mpr ⟨lw_p124, List.forall_mem_cons.mpr ⟨lw_p125, List.forall_mem_cons.mpr ⟨lw_p126, List.forall_mem_cons.mpr ⟨lw_p127, fun _ h => absurd h List.not_mem_nil⟩⟩⟩⟩⟩⟩⟩⟩⟩⟩⟩⟩⟩⟩⟩⟩
theorem lw_p128 : lw_okq (⟨"PorchHoursModel", "sumOf", "(II)I"⟩, 87) := ⟨⟨by decide +kernel, by decide +kernel⟩, List.mem_of_getElem? (i := 1384) (by decide +kernel), List.mem_of_getElem? (i := 1991) (by decide +kernel), List.mem_of_getElem? (i := 1992) (by decide +kernel)⟩
theorem lw_p129 : lw_okq (⟨"PorchHoursModel", "endsThought", "()V"⟩, 87) := ⟨⟨by decide +kernel, by decide +kernel⟩, List.mem_of_getElem? (i := 1384) (by decide +kernel), List.mem_of_getElem? (i := 1995) (by decide +kernel), List.mem_of_getElem? (i := 1996) (by decide +kernel)⟩
theorem lw_p130 : lw_okq (⟨"PorchHoursModel", "findsWishes", "()V"⟩, 87) := ⟨⟨by decide +kernel, by decide +kernel⟩, List.mem_of_getElem? (i := 1384) (by decide +kernel), List.mem_of_getElem? (i := 2012) (by decide +kernel), List.mem_of_getElem? (i := 2013) (by decide +kernel)⟩
theorem lw_p131 : lw_okq (⟨"PorchHoursModel", "settledWays", "()I"⟩, 87) := ⟨⟨by decide +kernel, by decide +kernel⟩, List.mem_of_getElem? (i := 1384) (by decide +kernel), List.mem_of_getElem? (i := 2016) (by decide +kernel), List.mem_of_getElem? (i := 2017) (by decide +kernel)⟩
theorem lw_p132 : lw_okq (⟨"PorchHoursModel", "isSettled", "()Z"⟩, 87) := ⟨⟨by decide +kernel, by decide +kernel⟩, List.mem_of_getElem? (i := 1384) (by decide +kernel), List.mem_of_getElem? (i := 2020) (by decide +kernel), List.mem_of_getElem? (i := 2021) (by decide +kernel)⟩
theorem lw_p133 : lw_okq (⟨"PorchHoursModel", "goesToNextOrder", "(I)Z"⟩, 87) := ⟨⟨by decide +kernel, by decide +kernel⟩, List.mem_of_getElem? (i := 1384) (by decide +kernel), List.mem_of_getElem? (i := 2024) (by decide +kernel), List.mem_of_getElem? (i := 2025) (by decide +kernel)⟩
theorem lw_p134 : lw_okq (⟨"PorchHoursModel", "engages", "(I)V"⟩, 87) := ⟨⟨by decide +kernel, by decide +kernel⟩, List.mem_of_getElem? (i := 1384) (by decide +kernel), List.mem_of_getElem? (i := 2028) (by decide +kernel), List.mem_of_getElem? (i := 2029) (by decide +kernel)⟩
theorem lw_p135 : lw_okq (⟨"PorchHoursModel", "has", "(II)Z"⟩, 87) := ⟨⟨by decide +kernel, by decide +kernel⟩, List.mem_of_getElem? (i := 1384) (by decide +kernel), List.mem_of_getElem? (i := 2032) (by decide +kernel), List.mem_of_getElem? (i := 2033) (by decide +kernel)⟩
theorem lw_p136 : lw_okq (⟨"PorchHoursModel", "forwardAt", "(I)I"⟩, 87) := ⟨⟨by decide +kernel, by decide +kernel⟩, List.mem_of_getElem? (i := 1384) (by decide +kernel), List.mem_of_getElem? (i := 2044) (by decide +kernel), List.mem_of_getElem? (i := 2045) (by decide +kernel)⟩
theorem lw_p137 : lw_okq (⟨"PorchHoursModel", "greater", "(II)I"⟩, 87) := ⟨⟨by decide +kernel, by decide +kernel⟩, List.mem_of_getElem? (i := 1384) (by decide +kernel), List.mem_of_getElem? (i := 2048) (by decide +kernel), List.mem_of_getElem? (i := 2049) (by decide +kernel)⟩
theorem lw_p138 : lw_okq (⟨"PorchHoursModel", "fewestPorches", "(I)I"⟩, 87) := ⟨⟨by decide +kernel, by decide +kernel⟩, List.mem_of_getElem? (i := 1384) (by decide +kernel), List.mem_of_getElem? (i := 2069) (by decide +kernel), List.mem_of_getElem? (i := 2070) (by decide +kernel)⟩
theorem lw_p139 : lw_okq (⟨"PorchHoursModel", "withFamily", "(III)I"⟩, 87) := ⟨⟨by decide +kernel, by decide +kernel⟩, List.mem_of_getElem? (i := 1384) (by decide +kernel), List.mem_of_getElem? (i := 2073) (by decide +kernel), List.mem_of_getElem? (i := 2074) (by decide +kernel)⟩
theorem lw_p140 : lw_okq (⟨"PorchHoursModel", "isDry", "(III)Z"⟩, 87) := ⟨⟨by decide +kernel, by decide +kernel⟩, List.mem_of_getElem? (i := 1384) (by decide +kernel), List.mem_of_getElem? (i := 2077) (by decide +kernel), List.mem_of_getElem? (i := 2078) (by decide +kernel)⟩
theorem lw_p141 : lw_okq (⟨"PorchHoursModel", "levelled", "()I"⟩, 87) := ⟨⟨by decide +kernel, by decide +kernel⟩, List.mem_of_getElem? (i := 1384) (by decide +kernel), List.mem_of_getElem? (i := 2089) (by decide +kernel), List.mem_of_getElem? (i := 2090) (by decide +kernel)⟩
theorem lw_p142 : lw_okq (⟨"PorchHoursModel", "apart", "(II)I"⟩, 87) := ⟨⟨by decide +kernel, by decide +kernel⟩, List.mem_of_getElem? (i := 1384) (by decide +kernel), List.mem_of_getElem? (i := 2093) (by decide +kernel), List.mem_of_getElem? (i := 2094) (by decide +kernel)⟩
theorem lw_p143 : lw_okq (⟨"PorchHoursModel", "ditch", "()I"⟩, 87) := ⟨⟨by decide +kernel, by decide +kernel⟩, List.mem_of_getElem? (i := 1384) (by decide +kernel), List.mem_of_getElem? (i := 2097) (by decide +kernel), List.mem_of_getElem? (i := 2098) (by decide +kernel)⟩
def lw_privs_9 : List (MethodName × Nat) := [(⟨"PorchHoursModel", "sumOf", "(II)I"⟩, 87), (⟨"PorchHoursModel", "endsThought", "()V"⟩, 87), (⟨"PorchHoursModel", "findsWishes", "()V"⟩, 87), (⟨"PorchHoursModel", "settledWays", "()I"⟩, 87), (⟨"PorchHoursModel", "isSettled", "()Z"⟩, 87), (⟨"PorchHoursModel", "goesToNextOrder", "(I)Z"⟩, 87), (⟨"PorchHoursModel", "engages", "(I)V"⟩, 87), (⟨"PorchHoursModel", "has", "(II)Z"⟩, 87), (⟨"PorchHoursModel", "forwardAt", "(I)I"⟩, 87), (⟨"PorchHoursModel", "greater", "(II)I"⟩, 87), (⟨"PorchHoursModel", "fewestPorches", "(I)I"⟩, 87), (⟨"PorchHoursModel", "withFamily", "(III)I"⟩, 87), (⟨"PorchHoursModel", "isDry", "(III)Z"⟩, 87), (⟨"PorchHoursModel", "levelled", "()I"⟩, 87), (⟨"PorchHoursModel", "apart", "(II)I"⟩, 87), (⟨"PorchHoursModel", "ditch", "()I"⟩, 87)]
theorem lw_r9 : ∀ q ∈ lw_privs_9, lw_okq q := List.forall_mem_cons.mpr ⟨lw_p128, List.forall_mem_cons.mpr ⟨lw_p129, List.forall_mem_cons.mpr ⟨lw_p130, List.forall_mem_cons.mpr ⟨lw_p131, List.forall_mem_cons.mpr ⟨lw_p132, List.forall_mem_cons.mpr ⟨lw_p133, List.forall_mem_cons.mpr ⟨lw_p134, List.forall_mem_cons.mpr ⟨lw_p135, List.forall_mem_cons.mpr ⟨lw_p136, List.forall_mem_cons.mpr ⟨lw_p137, List.forall_mem_cons.mpr ⟨lw_p138, List.forall_mem_cons.mpr ⟨lw_p139, List.forall_mem_cons.mpr ⟨lw_p140, List.forall_mem_cons.mpr ⟨lw_p141, List.forall_mem_cons.mpr ⟨lw_p142, List.forall_mem_cons.mpr ⟨lw_p143, fun _ h => absurd h List.not_mem_nil⟩⟩⟩⟩⟩⟩⟩⟩⟩⟩⟩⟩⟩⟩⟩⟩
theorem lw_p144 : lw_okq (⟨"PorchHoursModel", "talkGoes", "(Z)I"⟩, 87) := ⟨⟨by decide +kernel, by decide +kernel⟩, List.mem_of_getElem? (i := 1384) (by decide +kernel), List.mem_of_getElem? (i := 2109) (by decide +kernel), List.mem_of_getElem? (i := 2110) (by decide +kernel)⟩
theorem lw_p145 : lw_okq (⟨"PorchHoursModel", "waysOfHalf", "(II)I"⟩, 87) := ⟨⟨by decide +kernel, by decide +kernel⟩, List.mem_of_getElem? (i := 1384) (by decide +kernel), List.mem_of_getElem? (i := 2121) (by decide +kernel), List.mem_of_getElem? (i := 2122) (by decide +kernel)⟩
theorem lw_p146 : lw_okq (⟨"PorchHoursModel", "added", "(II)I"⟩, 87) := ⟨⟨by decide +kernel, by decide +kernel⟩, List.mem_of_getElem? (i := 1384) (by decide +kernel), List.mem_of_getElem? (i := 2125) (by decide +kernel), List.mem_of_getElem? (i := 2126) (by decide +kernel)⟩
theorem lw_p147 : lw_okq (⟨"PorchHoursModel", "heavierBy", "(I)I"⟩, 87) := ⟨⟨by decide +kernel, by decide +kernel⟩, List.mem_of_getElem? (i := 1384) (by decide +kernel), List.mem_of_getElem? (i := 2138) (by decide +kernel), List.mem_of_getElem? (i := 2139) (by decide +kernel)⟩
theorem lw_p148 : lw_okq (⟨"PorchHoursModel", "waysUp", "(II)I"⟩, 87) := ⟨⟨by decide +kernel, by decide +kernel⟩, List.mem_of_getElem? (i := 1384) (by decide +kernel), List.mem_of_getElem? (i := 2158) (by decide +kernel), List.mem_of_getElem? (i := 2159) (by decide +kernel)⟩
theorem lw_p149 : lw_okq (⟨"PorchHoursModel", "takesCans", "(I)V"⟩, 87) := ⟨⟨by decide +kernel, by decide +kernel⟩, List.mem_of_getElem? (i := 1384) (by decide +kernel), List.mem_of_getElem? (i := 2166) (by decide +kernel), List.mem_of_getElem? (i := 2167) (by decide +kernel)⟩
theorem lw_p150 : lw_okq (⟨"PorchHoursModel", "poured", "(III)I"⟩, 87) := ⟨⟨by decide +kernel, by decide +kernel⟩, List.mem_of_getElem? (i := 1384) (by decide +kernel), List.mem_of_getElem? (i := 2170) (by decide +kernel), List.mem_of_getElem? (i := 2171) (by decide +kernel)⟩
theorem lw_p151 : lw_okq (⟨"PorchHoursModel", "takesHats", "(I)I"⟩, 87) := ⟨⟨by decide +kernel, by decide +kernel⟩, List.mem_of_getElem? (i := 1384) (by decide +kernel), List.mem_of_getElem? (i := 2178) (by decide +kernel), List.mem_of_getElem? (i := 2179) (by decide +kernel)⟩
theorem lw_p152 : lw_okq (⟨"PorchHoursModel", "goodTaking", "(II)I"⟩, 87) := ⟨⟨by decide +kernel, by decide +kernel⟩, List.mem_of_getElem? (i := 1384) (by decide +kernel), List.mem_of_getElem? (i := 2186) (by decide +kernel), List.mem_of_getElem? (i := 2187) (by decide +kernel)⟩
theorem lw_p153 : lw_okq (⟨"PorchHoursModel", "keeps", "(I)I"⟩, 87) := ⟨⟨by decide +kernel, by decide +kernel⟩, List.mem_of_getElem? (i := 1384) (by decide +kernel), List.mem_of_getElem? (i := 2194) (by decide +kernel), List.mem_of_getElem? (i := 2195) (by decide +kernel)⟩
theorem lw_p154 : lw_okq (⟨"PorchHoursModel", "keepsMany", "()V"⟩, 87) := ⟨⟨by decide +kernel, by decide +kernel⟩, List.mem_of_getElem? (i := 1384) (by decide +kernel), List.mem_of_getElem? (i := 2198) (by decide +kernel), List.mem_of_getElem? (i := 2199) (by decide +kernel)⟩
theorem lw_p155 : lw_okq (⟨"PorchHoursModel", "keepsThought", "()V"⟩, 87) := ⟨⟨by decide +kernel, by decide +kernel⟩, List.mem_of_getElem? (i := 1384) (by decide +kernel), List.mem_of_getElem? (i := 2202) (by decide +kernel), List.mem_of_getElem? (i := 2203) (by decide +kernel)⟩
theorem lw_p156 : lw_okq (⟨"PorchHoursModel", "keepsTold", "()V"⟩, 87) := ⟨⟨by decide +kernel, by decide +kernel⟩, List.mem_of_getElem? (i := 1384) (by decide +kernel), List.mem_of_getElem? (i := 2206) (by decide +kernel), List.mem_of_getElem? (i := 2207) (by decide +kernel)⟩
theorem lw_p157 : lw_okq (⟨"PorchHoursModel", "keepsLaw", "()V"⟩, 87) := ⟨⟨by decide +kernel, by decide +kernel⟩, List.mem_of_getElem? (i := 1384) (by decide +kernel), List.mem_of_getElem? (i := 2210) (by decide +kernel), List.mem_of_getElem? (i := 2211) (by decide +kernel)⟩
def lw_privs_10 : List (MethodName × Nat) := [(⟨"PorchHoursModel", "talkGoes", "(Z)I"⟩, 87), (⟨"PorchHoursModel", "waysOfHalf", "(II)I"⟩, 87), (⟨"PorchHoursModel", "added", "(II)I"⟩, 87), (⟨"PorchHoursModel", "heavierBy", "(I)I"⟩, 87), (⟨"PorchHoursModel", "waysUp", "(II)I"⟩, 87), (⟨"PorchHoursModel", "takesCans", "(I)V"⟩, 87), (⟨"PorchHoursModel", "poured", "(III)I"⟩, 87), (⟨"PorchHoursModel", "takesHats", "(I)I"⟩, 87), (⟨"PorchHoursModel", "goodTaking", "(II)I"⟩, 87), (⟨"PorchHoursModel", "keeps", "(I)I"⟩, 87), (⟨"PorchHoursModel", "keepsMany", "()V"⟩, 87), (⟨"PorchHoursModel", "keepsThought", "()V"⟩, 87), (⟨"PorchHoursModel", "keepsTold", "()V"⟩, 87), (⟨"PorchHoursModel", "keepsLaw", "()V"⟩, 87)]
theorem lw_r10 : ∀ q ∈ lw_privs_10, lw_okq q := List.forall_mem_cons.mpr ⟨lw_p144, List.forall_mem_cons.mpr ⟨lw_p145, List.forall_mem_cons.mpr ⟨lw_p146, List.forall_mem_cons.mpr ⟨lw_p147, List.forall_mem_cons.mpr ⟨lw_p148, List.forall_mem_cons.mpr ⟨lw_p149, List.forall_mem_cons.mpr ⟨lw_p150, List.forall_mem_cons.mpr ⟨lw_p151, List.forall_mem_cons.mpr ⟨lw_p152, List.forall_mem_cons.mpr ⟨lw_p153, List.forall_mem_cons.mpr ⟨lw_p154, List.forall_mem_cons.mpr ⟨lw_p155, List.forall_mem_cons.mpr ⟨lw_p156, List.forall_mem_cons.mpr ⟨lw_p157, fun _ h => absurd h List.not_mem_nil⟩⟩⟩⟩⟩⟩⟩⟩⟩⟩⟩⟩⟩⟩
def lw_privs : List (MethodName × Nat) := lw_privs_1 ++ (lw_privs_2 ++ (lw_privs_3 ++ (lw_privs_4 ++ (lw_privs_5 ++ (lw_privs_6 ++ (lw_privs_7 ++ (lw_privs_8 ++ (lw_privs_9 ++ (lw_privs_10)))))))))
def lw_tbl : List Cond := k2_sels lw_privs ++ tables_1
theorem lw_privs_ok : ∀ q ∈ lw_privs, lw_okq q := by
  show ∀ q ∈ lw_privs_1 ++ (lw_privs_2 ++ (lw_privs_3 ++ (lw_privs_4 ++ (lw_privs_5 ++ (lw_privs_6 ++ (lw_privs_7 ++ (lw_privs_8 ++ (lw_privs_9 ++ (lw_privs_10))))))))), lw_okq q
  exact List.forall_mem_append.mpr ⟨lw_r1, List.forall_mem_append.mpr ⟨lw_r2, List.forall_mem_append.mpr ⟨lw_r3, List.forall_mem_append.mpr ⟨lw_r4, List.forall_mem_append.mpr ⟨lw_r5, List.forall_mem_append.mpr ⟨lw_r6, List.forall_mem_append.mpr ⟨lw_r7, List.forall_mem_append.mpr ⟨lw_r8, List.forall_mem_append.mpr ⟨lw_r9, lw_r10⟩⟩⟩⟩⟩⟩⟩⟩⟩
def RX0 : String := "PorchHours$Couples"
def TX0 : u_T := fun k => match k with
  | 0 => ("PorchHours$Couples", "wishes", "LPorchHours$Row;", true)
  | 1 => ("PorchHours$Couples", "asked", "[I", true)
  | 2 => ("PorchHours$Couples", "held", "[I", true)
  | _ => ("PorchHours$Couples", "pair", "[I", true)
def tyX0 : Nat → FieldType := fun k => match k with
  | 0 => .object "PorchHours$Row"
  | 1 => .array .int
  | 2 => .array .int
  | _ => .array .int
abbrev wsX00 : List Cond := u_ws RX0 TX0 4
theorem nmX0 : ∀ a, a < 4 → ∀ b, b < 4 → a ≠ b → (TX0 a).2.1 ≠ (TX0 b).2.1 := by decide +kernel
theorem tyX0_ok : ∀ k, k < 4 → parseFieldDescriptor (TX0 k).2.2.1 = some (tyX0 k) := by decide +kernel
abbrev cX0_init : ByteArray := prog_2_method_1_code
def yX0_init : MethodName := ⟨RX0, "<init>", "(LPorchHours$Row;)V"⟩
abbrev cX0_change : ByteArray := prog_2_method_2_code
def yX0_change : MethodName := ⟨RX0, "change", "(III)Z"⟩
abbrev cX0_rank : ByteArray := prog_2_method_3_code
def yX0_rank : MethodName := ⟨RX0, "rank", "(III)I"⟩
abbrev cX0_prefers : ByteArray := prog_2_method_4_code
def yX0_prefers : MethodName := ⟨RX0, "prefers", "(IIII)Z"⟩
abbrev cX0_partner : ByteArray := prog_2_method_5_code
def yX0_partner : MethodName := ⟨RX0, "partner", "(III)I"⟩
abbrev cX0_engage : ByteArray := prog_2_method_6_code
def yX0_engage : MethodName := ⟨RX0, "engage", "(I)V"⟩
abbrev cX0_ask : ByteArray := prog_2_method_7_code
def yX0_ask : MethodName := ⟨RX0, "ask", "(II)I"⟩
abbrev cX0_settled : ByteArray := prog_2_method_8_code
def yX0_settled : MethodName := ⟨RX0, "settled", "()I"⟩
abbrev cX0_pairUp : ByteArray := prog_2_method_9_code
def yX0_pairUp : MethodName := ⟨RX0, "pairUp", "(I)V"⟩
abbrev cX0_freeOne : ByteArray := prog_2_method_10_code
def yX0_freeOne : MethodName := ⟨RX0, "freeOne", "(II)I"⟩
abbrev cX0_isSettled : ByteArray := prog_2_method_11_code
def yX0_isSettled : MethodName := ⟨RX0, "isSettled", "()Z"⟩
def RX1 : String := "PorchHours$Hours"
def TX1 : u_T := fun k => match k with
  | 0 => ("PorchHours$Hours", "houses", "LPorchHours$Houses;", true)
  | 1 => ("PorchHours$Hours", "told", "LPorchHours$Told;", true)
  | 2 => ("PorchHours$Hours", "law", "LPorchHours$Law;", true)
  | 3 => ("PorchHours$Hours", "diary", "LPorchHours$Row;", true)
  | _ => ("PorchHours$Hours", "inThought", "Z", false)
def tyX1 : Nat → FieldType := fun k => match k with
  | 0 => .object "PorchHours$Houses"
  | 1 => .object "PorchHours$Told"
  | 2 => .object "PorchHours$Law"
  | 3 => .object "PorchHours$Row"
  | _ => .boolean
abbrev wsX10 : List Cond := u_ws RX1 TX1 5
theorem nmX1 : ∀ a, a < 5 → ∀ b, b < 5 → a ≠ b → (TX1 a).2.1 ≠ (TX1 b).2.1 := by decide +kernel
theorem tyX1_ok : ∀ k, k < 5 → parseFieldDescriptor (TX1 k).2.2.1 = some (tyX1 k) := by decide +kernel
abbrev cX1_init : ByteArray := prog_3_method_1_code
def yX1_init : MethodName := ⟨RX1, "<init>", "(LPorchHours$Houses;LPorchHours$Told;LPorchHours$Law;LPorchHours$Row;)V"⟩
abbrev cX1_pass : ByteArray := prog_3_method_2_code
def yX1_pass : MethodName := ⟨RX1, "pass", "(Z)I"⟩
abbrev cX1_takeSeat : ByteArray := prog_3_method_3_code
def yX1_takeSeat : MethodName := ⟨RX1, "takeSeat", "(III)V"⟩
abbrev cX1_sweepPorch : ByteArray := prog_3_method_4_code
def yX1_sweepPorch : MethodName := ⟨RX1, "sweepPorch", "(I)V"⟩
abbrev cX1_write : ByteArray := prog_3_method_5_code
def yX1_write : MethodName := ⟨RX1, "write", "(III)V"⟩
abbrev cX1_happens : ByteArray := prog_3_method_6_code
def yX1_happens : MethodName := ⟨RX1, "happens", "(I)Z"⟩
abbrev cX1_beginEvening : ByteArray := prog_3_method_7_code
def yX1_beginEvening : MethodName := ⟨RX1, "beginEvening", "()V"⟩
abbrev cX1_followCalls : ByteArray := prog_3_method_8_code
def yX1_followCalls : MethodName := ⟨RX1, "followCalls", "()V"⟩
abbrev cX1_letItRain : ByteArray := prog_3_method_9_code
def yX1_letItRain : MethodName := ⟨RX1, "letItRain", "()V"⟩
abbrev cX1_speaksNow : ByteArray := prog_3_method_10_code
def yX1_speaksNow : MethodName := ⟨RX1, "speaksNow", "(I)Z"⟩
abbrev cX1_hearsNow : ByteArray := prog_3_method_11_code
def yX1_hearsNow : MethodName := ⟨RX1, "hearsNow", "(III)Z"⟩
abbrev cX1_stayOrRise : ByteArray := prog_3_method_12_code
def yX1_stayOrRise : MethodName := ⟨RX1, "stayOrRise", "()V"⟩
abbrev cX1_burnLamps : ByteArray := prog_3_method_13_code
def yX1_burnLamps : MethodName := ⟨RX1, "burnLamps", "()V"⟩
abbrev cX1_acceptAt : ByteArray := prog_3_method_14_code
def yX1_acceptAt : MethodName := ⟨RX1, "acceptAt", "(I)V"⟩
abbrev cX1_spinCobwebs : ByteArray := prog_3_method_15_code
def yX1_spinCobwebs : MethodName := ⟨RX1, "spinCobwebs", "()V"⟩
abbrev cX1_turnClock : ByteArray := prog_3_method_16_code
def yX1_turnClock : MethodName := ⟨RX1, "turnClock", "()V"⟩
def RX2 : String := "PorchHours$Houses"
def TX2 : u_T := fun k => match k with
  | 0 => ("PorchHours$Houses", "draws", "I", false)
  | 1 => ("PorchHours$Houses", "minute", "I", false)
  | 2 => ("PorchHours$Houses", "evening", "I", false)
  | 3 => ("PorchHours$Houses", "swept", "I", false)
  | 4 => ("PorchHours$Houses", "porches", "I", false)
  | 5 => ("PorchHours$Houses", "persons", "I", false)
  | 6 => ("PorchHours$Houses", "chairs", "[I", true)
  | 7 => ("PorchHours$Houses", "lamp", "[I", true)
  | 8 => ("PorchHours$Houses", "cobweb", "[I", true)
  | 9 => ("PorchHours$Houses", "master", "[I", true)
  | 10 => ("PorchHours$Houses", "sitting", "[I", true)
  | 11 => ("PorchHours$Houses", "tongue", "[I", true)
  | 12 => ("PorchHours$Houses", "ears", "[I", true)
  | 13 => ("PorchHours$Houses", "sits", "[I", true)
  | 14 => ("PorchHours$Houses", "stayed", "[I", true)
  | 15 => ("PorchHours$Houses", "toStay", "[I", true)
  | 16 => ("PorchHours$Houses", "said", "[I", true)
  | 17 => ("PorchHours$Houses", "heard", "[I", true)
  | _ => ("PorchHours$Houses", "accepted", "[I", true)
def tyX2 : Nat → FieldType := fun k => match k with
  | 0 => .int
  | 1 => .int
  | 2 => .int
  | 3 => .int
  | 4 => .int
  | 5 => .int
  | 6 => .array .int
  | 7 => .array .int
  | 8 => .array .int
  | 9 => .array .int
  | 10 => .array .int
  | 11 => .array .int
  | 12 => .array .int
  | 13 => .array .int
  | 14 => .array .int
  | 15 => .array .int
  | 16 => .array .int
  | 17 => .array .int
  | _ => .array .int
abbrev wsX20 : List Cond := u_ws RX2 TX2 19
theorem nmX2 : ∀ a, a < 19 → ∀ b, b < 19 → a ≠ b → (TX2 a).2.1 ≠ (TX2 b).2.1 := by decide +kernel
theorem tyX2_ok : ∀ k, k < 19 → parseFieldDescriptor (TX2 k).2.2.1 = some (tyX2 k) := by decide +kernel
abbrev cX2_init : ByteArray := prog_4_method_1_code
def yX2_init : MethodName := ⟨RX2, "<init>", "()V"⟩
abbrev cX2_hasPorch : ByteArray := prog_4_method_2_code
def yX2_hasPorch : MethodName := ⟨RX2, "hasPorch", "(I)Z"⟩
abbrev cX2_hasPerson : ByteArray := prog_4_method_3_code
def yX2_hasPerson : MethodName := ⟨RX2, "hasPerson", "(I)Z"⟩
abbrev cX2_addPorch : ByteArray := prog_4_method_4_code
def yX2_addPorch : MethodName := ⟨RX2, "addPorch", "(II)I"⟩
abbrev cX2_addPerson : ByteArray := prog_4_method_5_code
def yX2_addPerson : MethodName := ⟨RX2, "addPerson", "(II)I"⟩
abbrev cX2_sittersOf : ByteArray := prog_4_method_6_code
def yX2_sittersOf : MethodName := ⟨RX2, "sittersOf", "(I)I"⟩
abbrev cX2_allSitters : ByteArray := prog_4_method_7_code
def yX2_allSitters : MethodName := ⟨RX2, "allSitters", "()I"⟩
abbrev cX2_allAccepted : ByteArray := prog_4_method_8_code
def yX2_allAccepted : MethodName := ⟨RX2, "allAccepted", "()I"⟩
abbrev cX2_hasFreeChair : ByteArray := prog_4_method_9_code
def yX2_hasFreeChair : MethodName := ⟨RX2, "hasFreeChair", "(I)Z"⟩
abbrev cX2_sitDown : ByteArray := prog_4_method_10_code
def yX2_sitDown : MethodName := ⟨RX2, "sitDown", "(III)V"⟩
abbrev cX2_rise : ByteArray := prog_4_method_11_code
def yX2_rise : MethodName := ⟨RX2, "rise", "(I)V"⟩
abbrev cX2_draw : ByteArray := prog_4_method_12_code
def yX2_draw : MethodName := ⟨RX2, "draw", "(I)I"⟩
abbrev cX2_sumOf : ByteArray := prog_4_method_13_code
def yX2_sumOf : MethodName := ⟨RX2, "sumOf", "(I)I"⟩
abbrev cX2_copyFrom : ByteArray := prog_4_method_14_code
def yX2_copyFrom : MethodName := ⟨RX2, "copyFrom", "(LPorchHours$Houses;)V"⟩
def RX3 : String := "PorchHours$Law"
def TX3 : u_T := fun k => match k with
  | 0 => ("PorchHours$Law", "houses", "LPorchHours$Houses;", true)
  | 1 => ("PorchHours$Law", "lines", "LPorchHours$Row;", true)
  | 2 => ("PorchHours$Law", "code", "LPorchHours$Row;", true)
  | 3 => ("PorchHours$Law", "nouns", "[I", true)
  | _ => ("PorchHours$Law", "stack", "[I", true)
def tyX3 : Nat → FieldType := fun k => match k with
  | 0 => .object "PorchHours$Houses"
  | 1 => .object "PorchHours$Row"
  | 2 => .object "PorchHours$Row"
  | 3 => .array .int
  | _ => .array .int
abbrev wsX30 : List Cond := u_ws RX3 TX3 5
theorem nmX3 : ∀ a, a < 5 → ∀ b, b < 5 → a ≠ b → (TX3 a).2.1 ≠ (TX3 b).2.1 := by decide +kernel
theorem tyX3_ok : ∀ k, k < 5 → parseFieldDescriptor (TX3 k).2.2.1 = some (tyX3 k) := by decide +kernel
abbrev cX3_init : ByteArray := prog_5_method_1_code
def yX3_init : MethodName := ⟨RX3, "<init>", "(LPorchHours$Houses;LPorchHours$Told;)V"⟩
abbrev cX3_tells : ByteArray := prog_5_method_2_code
def yX3_tells : MethodName := ⟨RX3, "tells", "(III)I"⟩
abbrev cX3_lookAt : ByteArray := prog_5_method_3_code
def yX3_lookAt : MethodName := ⟨RX3, "lookAt", "(II)V"⟩
abbrev cX3_value : ByteArray := prog_5_method_4_code
def yX3_value : MethodName := ⟨RX3, "value", "(II)I"⟩
abbrev cX3_joined : ByteArray := prog_5_method_5_code
def yX3_joined : MethodName := ⟨RX3, "joined", "(III)I"⟩
def RX4 : String := "PorchHours$Puzzles"
def TX4 : u_T := fun k => match k with
  | 0 => ("PorchHours$Puzzles", "told", "LPorchHours$Told;", true)
  | 1 => ("PorchHours$Puzzles", "sums", "[I", true)
  | 2 => ("PorchHours$Puzzles", "ofSets", "[I", true)
  | 3 => ("PorchHours$Puzzles", "seatings", "[I", true)
  | 4 => ("PorchHours$Puzzles", "arrives", "[I", true)
  | 5 => ("PorchHours$Puzzles", "enemies", "[I", true)
  | 6 => ("PorchHours$Puzzles", "climbs", "[J", true)
  | 7 => ("PorchHours$Puzzles", "paths", "[J", true)
  | 8 => ("PorchHours$Puzzles", "pourings", "[I", true)
  | 9 => ("PorchHours$Puzzles", "queue", "[I", true)
  | 10 => ("PorchHours$Puzzles", "cans", "[I", true)
  | 11 => ("PorchHours$Puzzles", "sizes", "[I", true)
  | 12 => ("PorchHours$Puzzles", "hats", "[I", true)
  | 13 => ("PorchHours$Puzzles", "rising", "[I", true)
  | _ => ("PorchHours$Puzzles", "queued", "I", false)
def tyX4 : Nat → FieldType := fun k => match k with
  | 0 => .object "PorchHours$Told"
  | 1 => .array .int
  | 2 => .array .int
  | 3 => .array .int
  | 4 => .array .int
  | 5 => .array .int
  | 6 => .array .long
  | 7 => .array .long
  | 8 => .array .int
  | 9 => .array .int
  | 10 => .array .int
  | 11 => .array .int
  | 12 => .array .int
  | 13 => .array .int
  | _ => .int
abbrev wsX40 : List Cond := u_ws RX4 TX4 15
theorem nmX4 : ∀ a, a < 15 → ∀ b, b < 15 → a ≠ b → (TX4 a).2.1 ≠ (TX4 b).2.1 := by decide +kernel
theorem tyX4_ok : ∀ k, k < 15 → parseFieldDescriptor (TX4 k).2.2.1 = some (tyX4 k) := by decide +kernel
abbrev cX4_init : ByteArray := prog_6_method_1_code
def yX4_init : MethodName := ⟨RX4, "<init>", "(LPorchHours$Told;)V"⟩
abbrev cX4_allForward : ByteArray := prog_6_method_2_code
def yX4_allForward : MethodName := ⟨RX4, "allForward", "()I"⟩
abbrev cX4_commonStride : ByteArray := prog_6_method_3_code
def yX4_commonStride : MethodName := ⟨RX4, "commonStride", "(II)I"⟩
abbrev cX4_mostForward : ByteArray := prog_6_method_4_code
def yX4_mostForward : MethodName := ⟨RX4, "mostForward", "()I"⟩
abbrev cX4_carried : ByteArray := prog_6_method_5_code
def yX4_carried : MethodName := ⟨RX4, "carried", "(III)I"⟩
abbrev cX4_carryOn : ByteArray := prog_6_method_6_code
def yX4_carryOn : MethodName := ⟨RX4, "carryOn", "(I)V"⟩
abbrev cX4_countFamilies : ByteArray := prog_6_method_7_code
def yX4_countFamilies : MethodName := ⟨RX4, "countFamilies", "()I"⟩
abbrev cX4_fewestShelters : ByteArray := prog_6_method_8_code
def yX4_fewestShelters : MethodName := ⟨RX4, "fewestShelters", "(I)I"⟩
abbrev cX4_waysToShelter : ByteArray := prog_6_method_9_code
def yX4_waysToShelter : MethodName := ⟨RX4, "waysToShelter", "(II)I"⟩
abbrev cX4_shelterOneMore : ByteArray := prog_6_method_10_code
def yX4_shelterOneMore : MethodName := ⟨RX4, "shelterOneMore", "(II)I"⟩
abbrev cX4_fewestShovels : ByteArray := prog_6_method_11_code
def yX4_fewestShovels : MethodName := ⟨RX4, "fewestShovels", "()I"⟩
abbrev cX4_ditch : ByteArray := prog_6_method_12_code
def yX4_ditch : MethodName := ⟨RX4, "ditch", "()I"⟩
abbrev cX4_deepest : ByteArray := prog_6_method_13_code
def yX4_deepest : MethodName := ⟨RX4, "deepest", "()I"⟩
abbrev cX4_firstUnbegun : ByteArray := prog_6_method_14_code
def yX4_firstUnbegun : MethodName := ⟨RX4, "firstUnbegun", "()I"⟩
abbrev cX4_waysOfMatters : ByteArray := prog_6_method_15_code
def yX4_waysOfMatters : MethodName := ⟨RX4, "waysOfMatters", "(I)I"⟩
abbrev cX4_waysHeard : ByteArray := prog_6_method_16_code
def yX4_waysHeard : MethodName := ⟨RX4, "waysHeard", "()I"⟩
abbrev cX4_fairestSeat : ByteArray := prog_6_method_17_code
def yX4_fairestSeat : MethodName := ⟨RX4, "fairestSeat", "()I"⟩
abbrev cX4_heavierBy : ByteArray := prog_6_method_18_code
def yX4_heavierBy : MethodName := ⟨RX4, "heavierBy", "(I)I"⟩
abbrev cX4_findEnemies : ByteArray := prog_6_method_19_code
def yX4_findEnemies : MethodName := ⟨RX4, "findEnemies", "(I)V"⟩
abbrev cX4_waysToSit : ByteArray := prog_6_method_20_code
def yX4_waysToSit : MethodName := ⟨RX4, "waysToSit", "(IZ)I"⟩
abbrev cX4_seatBehind : ByteArray := prog_6_method_21_code
def yX4_seatBehind : MethodName := ⟨RX4, "seatBehind", "(IIIZ)I"⟩
abbrev cX4_lastToHear : ByteArray := prog_6_method_22_code
def yX4_lastToHear : MethodName := ⟨RX4, "lastToHear", "(II)I"⟩
abbrev cX4_walk : ByteArray := prog_6_method_23_code
def yX4_walk : MethodName := ⟨RX4, "walk", "(III)V"⟩
abbrev cX4_waysUp : ByteArray := prog_6_method_24_code
def yX4_waysUp : MethodName := ⟨RX4, "waysUp", "(II)I"⟩
abbrev cX4_hasPace : ByteArray := prog_6_method_25_code
def yX4_hasPace : MethodName := ⟨RX4, "hasPace", "(II)Z"⟩
abbrev cX4_waysUpAlike : ByteArray := prog_6_method_26_code
def yX4_waysUpAlike : MethodName := ⟨RX4, "waysUpAlike", "(II)I"⟩
abbrev cX4_fewestPourings : ByteArray := prog_6_method_27_code
def yX4_fewestPourings : MethodName := ⟨RX4, "fewestPourings", "(IIII)I"⟩
abbrev cX4_seeCans : ByteArray := prog_6_method_28_code
def yX4_seeCans : MethodName := ⟨RX4, "seeCans", "(I)V"⟩
abbrev cX4_pour : ByteArray := prog_6_method_29_code
def yX4_pour : MethodName := ⟨RX4, "pour", "(III)V"⟩
abbrev cX4_enqueue : ByteArray := prog_6_method_30_code
def yX4_enqueue : MethodName := ⟨RX4, "enqueue", "(II)V"⟩
abbrev cX4_hang : ByteArray := prog_6_method_31_code
def yX4_hang : MethodName := ⟨RX4, "hang", "(I)I"⟩
abbrev cX4_longestRising : ByteArray := prog_6_method_32_code
def yX4_longestRising : MethodName := ⟨RX4, "longestRising", "(I)I"⟩
abbrev cX4_wrongCouples : ByteArray := prog_6_method_33_code
def yX4_wrongCouples : MethodName := ⟨RX4, "wrongCouples", "(I)I"⟩
abbrev cX4_lesserBehind : ByteArray := prog_6_method_34_code
def yX4_lesserBehind : MethodName := ⟨RX4, "lesserBehind", "(II)I"⟩
abbrev cX4_placeAmongAll : ByteArray := prog_6_method_35_code
def yX4_placeAmongAll : MethodName := ⟨RX4, "placeAmongAll", "(I)I"⟩
abbrev cX4_winningTake : ByteArray := prog_6_method_36_code
def yX4_winningTake : MethodName := ⟨RX4, "winningTake", "(II)I"⟩
abbrev cX4_wins : ByteArray := prog_6_method_37_code
def yX4_wins : MethodName := ⟨RX4, "wins", "(II)Z"⟩
def RX5 : String := "PorchHours$Reader"
def TX5 : u_T := fun k => match k with
  | 0 => ("PorchHours$Reader", "tokens", "LPorchHours$Tokens;", true)
  | 1 => ("PorchHours$Reader", "houses", "LPorchHours$Houses;", true)
  | 2 => ("PorchHours$Reader", "lines", "LPorchHours$Row;", true)
  | 3 => ("PorchHours$Reader", "code", "LPorchHours$Row;", true)
  | 4 => ("PorchHours$Reader", "waiting", "[I", true)
  | 5 => ("PorchHours$Reader", "waits", "I", false)
  | 6 => ("PorchHours$Reader", "open", "I", false)
  | 7 => ("PorchHours$Reader", "fault", "I", false)
  | _ => ("PorchHours$Reader", "faultAt", "I", false)
def tyX5 : Nat → FieldType := fun k => match k with
  | 0 => .object "PorchHours$Tokens"
  | 1 => .object "PorchHours$Houses"
  | 2 => .object "PorchHours$Row"
  | 3 => .object "PorchHours$Row"
  | 4 => .array .int
  | 5 => .int
  | 6 => .int
  | 7 => .int
  | _ => .int
abbrev wsX50 : List Cond := u_ws RX5 TX5 9
theorem nmX5 : ∀ a, a < 9 → ∀ b, b < 9 → a ≠ b → (TX5 a).2.1 ≠ (TX5 b).2.1 := by decide +kernel
theorem tyX5_ok : ∀ k, k < 9 → parseFieldDescriptor (TX5 k).2.2.1 = some (tyX5 k) := by decide +kernel
abbrev cX5_init : ByteArray := prog_7_method_1_code
def yX5_init : MethodName := ⟨RX5, "<init>", "(LPorchHours$Tape;LPorchHours$Houses;)V"⟩
abbrev cX5_faultKind : ByteArray := prog_7_method_2_code
def yX5_faultKind : MethodName := ⟨RX5, "faultKind", "()I"⟩
abbrev cX5_faultPlace : ByteArray := prog_7_method_3_code
def yX5_faultPlace : MethodName := ⟨RX5, "faultPlace", "()I"⟩
abbrev cX5_draft : ByteArray := prog_7_method_4_code
def yX5_draft : MethodName := ⟨RX5, "draft", "()LPorchHours$Row;"⟩
abbrev cX5_draftCode : ByteArray := prog_7_method_5_code
def yX5_draftCode : MethodName := ⟨RX5, "draftCode", "()LPorchHours$Row;"⟩
abbrev cX5_read : ByteArray := prog_7_method_6_code
def yX5_read : MethodName := ⟨RX5, "read", "(I)Z"⟩
abbrev cX5_refuse : ByteArray := prog_7_method_7_code
def yX5_refuse : MethodName := ⟨RX5, "refuse", "(I)Z"⟩
abbrev cX5_take : ByteArray := prog_7_method_8_code
def yX5_take : MethodName := ⟨RX5, "take", "(I)Z"⟩
abbrev cX5_beginLine : ByteArray := prog_7_method_9_code
def yX5_beginLine : MethodName := ⟨RX5, "beginLine", "(I)Z"⟩
abbrev cX5_takeNumber : ByteArray := prog_7_method_10_code
def yX5_takeNumber : MethodName := ⟨RX5, "takeNumber", "(III)I"⟩
abbrev cX5_takePorch : ByteArray := prog_7_method_11_code
def yX5_takePorch : MethodName := ⟨RX5, "takePorch", "()I"⟩
abbrev cX5_takePerson : ByteArray := prog_7_method_12_code
def yX5_takePerson : MethodName := ⟨RX5, "takePerson", "()I"⟩
abbrev cX5_takeMinute : ByteArray := prog_7_method_13_code
def yX5_takeMinute : MethodName := ⟨RX5, "takeMinute", "()I"⟩
abbrev cX5_readCall : ByteArray := prog_7_method_14_code
def yX5_readCall : MethodName := ⟨RX5, "readCall", "()Z"⟩
abbrev cX5_readEvening : ByteArray := prog_7_method_15_code
def yX5_readEvening : MethodName := ⟨RX5, "readEvening", "()Z"⟩
abbrev cX5_readStreetLine : ByteArray := prog_7_method_16_code
def yX5_readStreetLine : MethodName := ⟨RX5, "readStreetLine", "()Z"⟩
abbrev cX5_readLawLine : ByteArray := prog_7_method_17_code
def yX5_readLawLine : MethodName := ⟨RX5, "readLawLine", "()Z"⟩
abbrev cX5_readSum : ByteArray := prog_7_method_18_code
def yX5_readSum : MethodName := ⟨RX5, "readSum", "()Z"⟩
abbrev cX5_readOperand : ByteArray := prog_7_method_19_code
def yX5_readOperand : MethodName := ⟨RX5, "readOperand", "(Z)Z"⟩
abbrev cX5_readConditions : ByteArray := prog_7_method_20_code
def yX5_readConditions : MethodName := ⟨RX5, "readConditions", "()Z"⟩
abbrev cX5_readOpenings : ByteArray := prog_7_method_21_code
def yX5_readOpenings : MethodName := ⟨RX5, "readOpenings", "()Z"⟩
abbrev cX5_readComparison : ByteArray := prog_7_method_22_code
def yX5_readComparison : MethodName := ⟨RX5, "readComparison", "()Z"⟩
abbrev cX5_readClosings : ByteArray := prog_7_method_23_code
def yX5_readClosings : MethodName := ⟨RX5, "readClosings", "()Z"⟩
abbrev cX5_putOff : ByteArray := prog_7_method_24_code
def yX5_putOff : MethodName := ⟨RX5, "putOff", "(I)V"⟩
abbrev cX5_noteDown : ByteArray := prog_7_method_25_code
def yX5_noteDown : MethodName := ⟨RX5, "noteDown", "(I)V"⟩
def RX6 : String := "PorchHours$Row"
def TX6 : u_T := fun k => match k with
  | 0 => ("PorchHours$Row", "width", "I", true)
  | 1 => ("PorchHours$Row", "cells", "[I", true)
  | _ => ("PorchHours$Row", "lines", "I", false)
def tyX6 : Nat → FieldType := fun k => match k with
  | 0 => .int
  | 1 => .array .int
  | _ => .int
abbrev wsX60 : List Cond := u_ws RX6 TX6 3
theorem nmX6 : ∀ a, a < 3 → ∀ b, b < 3 → a ≠ b → (TX6 a).2.1 ≠ (TX6 b).2.1 := by decide +kernel
theorem tyX6_ok : ∀ k, k < 3 → parseFieldDescriptor (TX6 k).2.2.1 = some (tyX6 k) := by decide +kernel
abbrev cX6_init : ByteArray := prog_8_method_1_code
def yX6_init : MethodName := ⟨RX6, "<init>", "(II)V"⟩
abbrev cX6_size : ByteArray := prog_8_method_2_code
def yX6_size : MethodName := ⟨RX6, "size", "()I"⟩
abbrev cX6_isFull : ByteArray := prog_8_method_3_code
def yX6_isFull : MethodName := ⟨RX6, "isFull", "()Z"⟩
abbrev cX6_get : ByteArray := prog_8_method_4_code
def yX6_get : MethodName := ⟨RX6, "get", "(II)I"⟩
abbrev cX6_add : ByteArray := prog_8_method_5_code
def yX6_add : MethodName := ⟨RX6, "add", "(I)I"⟩
abbrev cX6_add_ : ByteArray := prog_8_method_6_code
def yX6_add_ : MethodName := ⟨RX6, "add", "(IIIII)I"⟩
abbrev cX6_change : ByteArray := prog_8_method_7_code
def yX6_change : MethodName := ⟨RX6, "change", "(IIIIII)V"⟩
abbrev cX6_clear : ByteArray := prog_8_method_8_code
def yX6_clear : MethodName := ⟨RX6, "clear", "()I"⟩
abbrev cX6_cutTo : ByteArray := prog_8_method_9_code
def yX6_cutTo : MethodName := ⟨RX6, "cutTo", "(I)V"⟩
abbrev cX6_copyFrom : ByteArray := prog_8_method_10_code
def yX6_copyFrom : MethodName := ⟨RX6, "copyFrom", "(LPorchHours$Row;)V"⟩
def RX7 : String := "PorchHours$Tape"
def TX7 : u_T := fun k => match k with
  | 0 => ("PorchHours$Tape", "bytes", "[B", true)
  | _ => ("PorchHours$Tape", "length", "I", false)
def tyX7 : Nat → FieldType := fun k => match k with
  | 0 => .array .byte
  | _ => .int
abbrev wsX70 : List Cond := u_ws RX7 TX7 2
theorem nmX7 : ∀ a, a < 2 → ∀ b, b < 2 → a ≠ b → (TX7 a).2.1 ≠ (TX7 b).2.1 := by decide +kernel
theorem tyX7_ok : ∀ k, k < 2 → parseFieldDescriptor (TX7 k).2.2.1 = some (tyX7 k) := by decide +kernel
abbrev cX7_init : ByteArray := prog_9_method_1_code
def yX7_init : MethodName := ⟨RX7, "<init>", "()V"⟩
abbrev cX7_length : ByteArray := prog_9_method_2_code
def yX7_length : MethodName := ⟨RX7, "length", "()I"⟩
abbrev cX7_hasRoom : ByteArray := prog_9_method_3_code
def yX7_hasRoom : MethodName := ⟨RX7, "hasRoom", "(I)Z"⟩
abbrev cX7_append : ByteArray := prog_9_method_4_code
def yX7_append : MethodName := ⟨RX7, "append", "(I)V"⟩
abbrev cX7_cut : ByteArray := prog_9_method_5_code
def yX7_cut : MethodName := ⟨RX7, "cut", "(I)Z"⟩
abbrev cX7_at : ByteArray := prog_9_method_6_code
def yX7_at : MethodName := ⟨RX7, "at", "(I)I"⟩
def RX8 : String := "PorchHours$Tokens"
def TX8 : u_T := fun k => match k with
  | 0 => ("PorchHours$Tokens", "tape", "LPorchHours$Tape;", true)
  | 1 => ("PorchHours$Tokens", "kinds", "[I", true)
  | 2 => ("PorchHours$Tokens", "numbers", "[I", true)
  | 3 => ("PorchHours$Tokens", "places", "[I", true)
  | 4 => ("PorchHours$Tokens", "count", "I", false)
  | _ => ("PorchHours$Tokens", "now", "I", false)
def tyX8 : Nat → FieldType := fun k => match k with
  | 0 => .object "PorchHours$Tape"
  | 1 => .array .int
  | 2 => .array .int
  | 3 => .array .int
  | 4 => .int
  | _ => .int
abbrev wsX80 : List Cond := u_ws RX8 TX8 6
theorem nmX8 : ∀ a, a < 6 → ∀ b, b < 6 → a ≠ b → (TX8 a).2.1 ≠ (TX8 b).2.1 := by decide +kernel
theorem tyX8_ok : ∀ k, k < 6 → parseFieldDescriptor (TX8 k).2.2.1 = some (tyX8 k) := by decide +kernel
abbrev cX8_init : ByteArray := prog_10_method_1_code
def yX8_init : MethodName := ⟨RX8, "<init>", "(LPorchHours$Tape;)V"⟩
abbrev cX8_kind : ByteArray := prog_10_method_2_code
def yX8_kind : MethodName := ⟨RX8, "kind", "()I"⟩
abbrev cX8_number : ByteArray := prog_10_method_3_code
def yX8_number : MethodName := ⟨RX8, "number", "()I"⟩
abbrev cX8_place : ByteArray := prog_10_method_4_code
def yX8_place : MethodName := ⟨RX8, "place", "()I"⟩
abbrev cX8_advance : ByteArray := prog_10_method_5_code
def yX8_advance : MethodName := ⟨RX8, "advance", "()V"⟩
abbrev cX8_scan : ByteArray := prog_10_method_6_code
def yX8_scan : MethodName := ⟨RX8, "scan", "()V"⟩
abbrev cX8_behind : ByteArray := prog_10_method_7_code
def yX8_behind : MethodName := ⟨RX8, "behind", "(I)I"⟩
abbrev cX8_note : ByteArray := prog_10_method_8_code
def yX8_note : MethodName := ⟨RX8, "note", "(II)V"⟩
abbrev cX8_isBlank : ByteArray := prog_10_method_9_code
def yX8_isBlank : MethodName := ⟨RX8, "isBlank", "(I)Z"⟩
abbrev cX8_isDigit : ByteArray := prog_10_method_10_code
def yX8_isDigit : MethodName := ⟨RX8, "isDigit", "(I)Z"⟩
abbrev cX8_isLetter : ByteArray := prog_10_method_11_code
def yX8_isLetter : MethodName := ⟨RX8, "isLetter", "(I)Z"⟩
abbrev cX8_spells : ByteArray := prog_10_method_12_code
def yX8_spells : MethodName := ⟨RX8, "spells", "(IILjava/lang/String;)Z"⟩
abbrev cX8_wordOf : ByteArray := prog_10_method_13_code
def yX8_wordOf : MethodName := ⟨RX8, "wordOf", "(II)I"⟩
abbrev cX8_nounOf : ByteArray := prog_10_method_14_code
def yX8_nounOf : MethodName := ⟨RX8, "nounOf", "(II)I"⟩
def RX9 : String := "PorchHours$Told"
def TX9 : u_T := fun k => match k with
  | 0 => ("PorchHours$Told", "lawLines", "LPorchHours$Row;", true)
  | 1 => ("PorchHours$Told", "lawCode", "LPorchHours$Row;", true)
  | 2 => ("PorchHours$Told", "calls", "LPorchHours$Row;", true)
  | 3 => ("PorchHours$Told", "evenings", "LPorchHours$Row;", true)
  | 4 => ("PorchHours$Told", "street", "LPorchHours$Row;", true)
  | 5 => ("PorchHours$Told", "wishRows", "LPorchHours$Row;", true)
  | 6 => ("PorchHours$Told", "chairRows", "LPorchHours$Row;", true)
  | 7 => ("PorchHours$Told", "catWays", "LPorchHours$Row;", true)
  | 8 => ("PorchHours$Told", "families", "LPorchHours$Row;", true)
  | 9 => ("PorchHours$Told", "boards", "LPorchHours$Row;", true)
  | 10 => ("PorchHours$Told", "words", "LPorchHours$Row;", true)
  | 11 => ("PorchHours$Told", "firstTalk", "LPorchHours$Row;", true)
  | 12 => ("PorchHours$Told", "secondTalk", "LPorchHours$Row;", true)
  | 13 => ("PorchHours$Told", "heardTalk", "LPorchHours$Row;", true)
  | 14 => ("PorchHours$Told", "weights", "LPorchHours$Row;", true)
  | _ => ("PorchHours$Told", "quarrels", "LPorchHours$Row;", true)
def tyX9 : Nat → FieldType := fun k => match k with
  | 0 => .object "PorchHours$Row"
  | 1 => .object "PorchHours$Row"
  | 2 => .object "PorchHours$Row"
  | 3 => .object "PorchHours$Row"
  | 4 => .object "PorchHours$Row"
  | 5 => .object "PorchHours$Row"
  | 6 => .object "PorchHours$Row"
  | 7 => .object "PorchHours$Row"
  | 8 => .object "PorchHours$Row"
  | 9 => .object "PorchHours$Row"
  | 10 => .object "PorchHours$Row"
  | 11 => .object "PorchHours$Row"
  | 12 => .object "PorchHours$Row"
  | 13 => .object "PorchHours$Row"
  | 14 => .object "PorchHours$Row"
  | _ => .object "PorchHours$Row"
abbrev wsX90 : List Cond := u_ws RX9 TX9 16
theorem nmX9 : ∀ a, a < 16 → ∀ b, b < 16 → a ≠ b → (TX9 a).2.1 ≠ (TX9 b).2.1 := by decide +kernel
theorem tyX9_ok : ∀ k, k < 16 → parseFieldDescriptor (TX9 k).2.2.1 = some (tyX9 k) := by decide +kernel
abbrev cX9_init : ByteArray := prog_11_method_1_code
def yX9_init : MethodName := ⟨RX9, "<init>", "()V"⟩
abbrev cX9_linesOf : ByteArray := prog_11_method_2_code
def yX9_linesOf : MethodName := ⟨RX9, "linesOf", "(I)LPorchHours$Row;"⟩
abbrev cX9_halfOf : ByteArray := prog_11_method_3_code
def yX9_halfOf : MethodName := ⟨RX9, "halfOf", "(I)LPorchHours$Row;"⟩
abbrev cX9_feet : ByteArray := prog_11_method_4_code
def yX9_feet : MethodName := ⟨RX9, "feet", "(II)I"⟩
abbrev cX9_copyFrom : ByteArray := prog_11_method_5_code
def yX9_copyFrom : MethodName := ⟨RX9, "copyFrom", "(LPorchHours$Told;)V"⟩
def RX10 : String := "PorchHours$Undone"
def TX10 : u_T := fun k => match k with
  | 0 => ("PorchHours$Undone", "kept", "[LPorchHours$Houses;", true)
  | 1 => ("PorchHours$Undone", "bookLines", "[I", true)
  | 2 => ("PorchHours$Undone", "count", "I", false)
  | _ => ("PorchHours$Undone", "next", "I", false)
def tyX10 : Nat → FieldType := fun k => match k with
  | 0 => .array (.object "PorchHours$Houses")
  | 1 => .array .int
  | 2 => .int
  | _ => .int
abbrev wsX100 : List Cond := u_ws RX10 TX10 4
theorem nmX10 : ∀ a, a < 4 → ∀ b, b < 4 → a ≠ b → (TX10 a).2.1 ≠ (TX10 b).2.1 := by decide +kernel
theorem tyX10_ok : ∀ k, k < 4 → parseFieldDescriptor (TX10 k).2.2.1 = some (tyX10 k) := by decide +kernel
abbrev cX10_init : ByteArray := prog_12_method_1_code
def yX10_init : MethodName := ⟨RX10, "<init>", "()V"⟩
abbrev cX10_size : ByteArray := prog_12_method_2_code
def yX10_size : MethodName := ⟨RX10, "size", "()I"⟩
abbrev cX10_keep : ByteArray := prog_12_method_3_code
def yX10_keep : MethodName := ⟨RX10, "keep", "(LPorchHours$Houses;I)V"⟩
abbrev cX10_forget : ByteArray := prog_12_method_4_code
def yX10_forget : MethodName := ⟨RX10, "forget", "()V"⟩
abbrev cX10_goBack : ByteArray := prog_12_method_5_code
def yX10_goBack : MethodName := ⟨RX10, "goBack", "(LPorchHours$Houses;)I"⟩
def RX11 : String := "PorchHours"
def TX11 : u_T := fun k => match k with
  | 0 => ("PorchHours", "tape", "LPorchHours$Tape;", true)
  | 1 => ("PorchHours", "houses", "LPorchHours$Houses;", true)
  | 2 => ("PorchHours", "told", "LPorchHours$Told;", true)
  | 3 => ("PorchHours", "diary", "LPorchHours$Row;", true)
  | 4 => ("PorchHours", "undone", "LPorchHours$Undone;", true)
  | 5 => ("PorchHours", "reader", "LPorchHours$Reader;", true)
  | 6 => ("PorchHours", "law", "LPorchHours$Law;", true)
  | 7 => ("PorchHours", "hours", "LPorchHours$Hours;", true)
  | 8 => ("PorchHours", "couples", "LPorchHours$Couples;", true)
  | 9 => ("PorchHours", "puzzles", "LPorchHours$Puzzles;", true)
  | 10 => ("PorchHours", "beforeThought", "LPorchHours$Houses;", true)
  | 11 => ("PorchHours", "imageHouses", "LPorchHours$Houses;", true)
  | 12 => ("PorchHours", "imageTold", "LPorchHours$Told;", true)
  | 13 => ("PorchHours", "imageDiary", "LPorchHours$Row;", true)
  | _ => ("PorchHours", "imageTaken", "Z", false)
def tyX11 : Nat → FieldType := fun k => match k with
  | 0 => .object "PorchHours$Tape"
  | 1 => .object "PorchHours$Houses"
  | 2 => .object "PorchHours$Told"
  | 3 => .object "PorchHours$Row"
  | 4 => .object "PorchHours$Undone"
  | 5 => .object "PorchHours$Reader"
  | 6 => .object "PorchHours$Law"
  | 7 => .object "PorchHours$Hours"
  | 8 => .object "PorchHours$Couples"
  | 9 => .object "PorchHours$Puzzles"
  | 10 => .object "PorchHours$Houses"
  | 11 => .object "PorchHours$Houses"
  | 12 => .object "PorchHours$Told"
  | 13 => .object "PorchHours$Row"
  | _ => .boolean
abbrev wsX110 : List Cond := u_ws RX11 TX11 15
theorem nmX11 : ∀ a, a < 15 → ∀ b, b < 15 → a ≠ b → (TX11 a).2.1 ≠ (TX11 b).2.1 := by decide +kernel
theorem tyX11_ok : ∀ k, k < 15 → parseFieldDescriptor (TX11 k).2.2.1 = some (tyX11 k) := by decide +kernel
abbrev cX11_init : ByteArray := prog_1_method_1_code
def yX11_init : MethodName := ⟨RX11, "<init>", "()V"⟩
abbrev cX11_state : ByteArray := prog_1_method_2_code
def yX11_state : MethodName := ⟨RX11, "state", "(I)I"⟩
abbrev cX11_porch : ByteArray := prog_1_method_3_code
def yX11_porch : MethodName := ⟨RX11, "porch", "(II)I"⟩
abbrev cX11_person : ByteArray := prog_1_method_4_code
def yX11_person : MethodName := ⟨RX11, "person", "(II)I"⟩
abbrev cX11_set : ByteArray := prog_1_method_5_code
def yX11_set : MethodName := ⟨RX11, "set", "(III)Z"⟩
abbrev cX11_changePorch : ByteArray := prog_1_method_6_code
def yX11_changePorch : MethodName := ⟨RX11, "changePorch", "(III)Z"⟩
abbrev cX11_changePerson : ByteArray := prog_1_method_7_code
def yX11_changePerson : MethodName := ⟨RX11, "changePerson", "(III)Z"⟩
abbrev cX11_act : ByteArray := prog_1_method_8_code
def yX11_act : MethodName := ⟨RX11, "act", "(III)Z"⟩
abbrev cX11_sitByHand : ByteArray := prog_1_method_9_code
def yX11_sitByHand : MethodName := ⟨RX11, "sitByHand", "(II)Z"⟩
abbrev cX11_riseByHand : ByteArray := prog_1_method_10_code
def yX11_riseByHand : MethodName := ⟨RX11, "riseByHand", "(I)Z"⟩
abbrev cX11_sweepByHand : ByteArray := prog_1_method_11_code
def yX11_sweepByHand : MethodName := ⟨RX11, "sweepByHand", "(I)Z"⟩
abbrev cX11_fillByHand : ByteArray := prog_1_method_12_code
def yX11_fillByHand : MethodName := ⟨RX11, "fillByHand", "(II)Z"⟩
abbrev cX11_minutes : ByteArray := prog_1_method_13_code
def yX11_minutes : MethodName := ⟨RX11, "minutes", "(I)I"⟩
abbrev cX11_feed : ByteArray := prog_1_method_14_code
def yX11_feed : MethodName := ⟨RX11, "feed", "(IIIII)I"⟩
abbrev cX11_end : ByteArray := prog_1_method_15_code
def yX11_end : MethodName := ⟨RX11, "end", "(I)Z"⟩
abbrev cX11_text : ByteArray := prog_1_method_16_code
def yX11_text : MethodName := ⟨RX11, "text", "(I)I"⟩
abbrev cX11_fault : ByteArray := prog_1_method_17_code
def yX11_fault : MethodName := ⟨RX11, "fault", "(I)I"⟩
abbrev cX11_porchOf : ByteArray := prog_1_method_18_code
def yX11_porchOf : MethodName := ⟨RX11, "porchOf", "(II)I"⟩
abbrev cX11_of : ByteArray := prog_1_method_19_code
def yX11_of : MethodName := ⟨RX11, "of", "(II)I"⟩
abbrev cX11_hears : ByteArray := prog_1_method_20_code
def yX11_hears : MethodName := ⟨RX11, "hears", "(II)I"⟩
abbrev cX11_book : ByteArray := prog_1_method_21_code
def yX11_book : MethodName := ⟨RX11, "book", "(II)I"⟩
abbrev cX11_goes : ByteArray := prog_1_method_22_code
def yX11_goes : MethodName := ⟨RX11, "goes", "(II)I"⟩
abbrev cX11_soonest : ByteArray := prog_1_method_23_code
def yX11_soonest : MethodName := ⟨RX11, "soonest", "(I)I"⟩
abbrev cX11_wishes : ByteArray := prog_1_method_24_code
def yX11_wishes : MethodName := ⟨RX11, "wishes", "(III)Z"⟩
abbrev cX11_matched : ByteArray := prog_1_method_25_code
def yX11_matched : MethodName := ⟨RX11, "matched", "(III)I"⟩
abbrev cX11_chair : ByteArray := prog_1_method_26_code
def yX11_chair : MethodName := ⟨RX11, "chair", "(II)I"⟩
abbrev cX11_rocks : ByteArray := prog_1_method_27_code
def yX11_rocks : MethodName := ⟨RX11, "rocks", "(I)I"⟩
abbrev cX11_cat : ByteArray := prog_1_method_28_code
def yX11_cat : MethodName := ⟨RX11, "cat", "(III)I"⟩
abbrev cX11_reply : ByteArray := prog_1_method_29_code
def yX11_reply : MethodName := ⟨RX11, "reply", "(III)I"⟩
abbrev cX11_family : ByteArray := prog_1_method_30_code
def yX11_family : MethodName := ⟨RX11, "family", "(I)I"⟩
abbrev cX11_storm : ByteArray := prog_1_method_31_code
def yX11_storm : MethodName := ⟨RX11, "storm", "(II)I"⟩
abbrev cX11_board : ByteArray := prog_1_method_32_code
def yX11_board : MethodName := ⟨RX11, "board", "(I)I"⟩
abbrev cX11_level : ByteArray := prog_1_method_33_code
def yX11_level : MethodName := ⟨RX11, "level", "(I)I"⟩
abbrev cX11_talk : ByteArray := prog_1_method_34_code
def yX11_talk : MethodName := ⟨RX11, "talk", "(I)I"⟩
abbrev cX11_talks : ByteArray := prog_1_method_35_code
def yX11_talks : MethodName := ⟨RX11, "talks", "(I)I"⟩
abbrev cX11_half : ByteArray := prog_1_method_36_code
def yX11_half : MethodName := ⟨RX11, "half", "(II)I"⟩
abbrev cX11_halves : ByteArray := prog_1_method_37_code
def yX11_halves : MethodName := ⟨RX11, "halves", "(I)I"⟩
abbrev cX11_swing : ByteArray := prog_1_method_38_code
def yX11_swing : MethodName := ⟨RX11, "swing", "(I)I"⟩
abbrev cX11_swings : ByteArray := prog_1_method_39_code
def yX11_swings : MethodName := ⟨RX11, "swings", "(I)I"⟩
abbrev cX11_quarrel : ByteArray := prog_1_method_40_code
def yX11_quarrel : MethodName := ⟨RX11, "quarrel", "(II)I"⟩
abbrev cX11_seated : ByteArray := prog_1_method_41_code
def yX11_seated : MethodName := ⟨RX11, "seated", "(II)I"⟩
abbrev cX11_last : ByteArray := prog_1_method_42_code
def yX11_last : MethodName := ⟨RX11, "last", "(II)I"⟩
abbrev cX11_steps : ByteArray := prog_1_method_43_code
def yX11_steps : MethodName := ⟨RX11, "steps", "(III)I"⟩
abbrev cX11_lamps : ByteArray := prog_1_method_44_code
def yX11_lamps : MethodName := ⟨RX11, "lamps", "(IIII)I"⟩
abbrev cX11_hooks : ByteArray := prog_1_method_45_code
def yX11_hooks : MethodName := ⟨RX11, "hooks", "(II)I"⟩
abbrev cX11_game : ByteArray := prog_1_method_46_code
def yX11_game : MethodName := ⟨RX11, "game", "(II)I"⟩
abbrev cX11_undo : ByteArray := prog_1_method_47_code
def yX11_undo : MethodName := ⟨RX11, "undo", "()Z"⟩
abbrev cX11_image : ByteArray := prog_1_method_48_code
def yX11_image : MethodName := ⟨RX11, "image", "(Z)Z"⟩
abbrev cX11_look : ByteArray := prog_1_method_49_code
def yX11_look : MethodName := ⟨RX11, "look", "(I)I"⟩
abbrev cX11_within : ByteArray := prog_1_method_50_code
def yX11_within : MethodName := ⟨RX11, "within", "(III)Z"⟩
def RX12 : String := "PorchHoursModel"
def TX12 : u_T := fun k => match k with
  | 0 => ("PorchHoursModel", "told", "I", false)
  | 1 => ("PorchHoursModel", "now", "[I", true)
  | 2 => ("PorchHoursModel", "rows", "[I", true)
  | 3 => ("PorchHoursModel", "undoable", "I", false)
  | 4 => ("PorchHoursModel", "waiting", "[I", true)
  | 5 => ("PorchHoursModel", "isThought", "Z", false)
  | 6 => ("PorchHoursModel", "porches", "I", false)
  | 7 => ("PorchHoursModel", "persons", "I", false)
  | 8 => ("PorchHoursModel", "chairs", "[I", true)
  | 9 => ("PorchHoursModel", "tongue", "[I", true)
  | 10 => ("PorchHoursModel", "ears", "[I", true)
  | 11 => ("PorchHoursModel", "book", "[I", true)
  | 12 => ("PorchHoursModel", "tape", "[I", true)
  | 13 => ("PorchHoursModel", "taped", "I", false)
  | 14 => ("PorchHoursModel", "spot", "I", false)
  | 15 => ("PorchHoursModel", "from", "I", false)
  | 16 => ("PorchHoursModel", "token", "I", false)
  | 17 => ("PorchHoursModel", "value", "I", false)
  | 18 => ("PorchHoursModel", "words", "[I", true)
  | 19 => ("PorchHoursModel", "lineMany", "[I", true)
  | 20 => ("PorchHoursModel", "lineWord", "[I", true)
  | 21 => ("PorchHoursModel", "lineFrom", "[I", true)
  | 22 => ("PorchHoursModel", "lineWhen", "[I", true)
  | 23 => ("PorchHoursModel", "lineTo", "[I", true)
  | 24 => ("PorchHoursModel", "op", "[I", true)
  | 25 => ("PorchHoursModel", "arg", "[I", true)
  | 26 => ("PorchHoursModel", "which", "I", false)
  | 27 => ("PorchHoursModel", "codes", "I", false)
  | 28 => ("PorchHoursModel", "open", "I", false)
  | 29 => ("PorchHoursModel", "pending", "[I", true)
  | 30 => ("PorchHoursModel", "pendings", "I", false)
  | 31 => ("PorchHoursModel", "readFault", "I", false)
  | 32 => ("PorchHoursModel", "readPlace", "I", false)
  | 33 => ("PorchHoursModel", "faultKind", "I", false)
  | 34 => ("PorchHoursModel", "faultPlace", "I", false)
  | 35 => ("PorchHoursModel", "callMany", "I", false)
  | 36 => ("PorchHoursModel", "calls", "[I", true)
  | 37 => ("PorchHoursModel", "deedMany", "I", false)
  | 38 => ("PorchHoursModel", "deeds", "[I", true)
  | 39 => ("PorchHoursModel", "roadMany", "I", false)
  | 40 => ("PorchHoursModel", "feet", "[I", true)
  | 41 => ("PorchHoursModel", "asked", "[I", true)
  | 42 => ("PorchHoursModel", "stack", "[I", true)
  | 43 => ("PorchHoursModel", "orderBut", "[I", true)
  | 44 => ("PorchHoursModel", "dearAt", "[I", true)
  | 45 => ("PorchHoursModel", "wishOf", "[I", true)
  | 46 => ("PorchHoursModel", "engaged", "[I", true)
  | 47 => ("PorchHoursModel", "askedNext", "[I", true)
  | 48 => ("PorchHoursModel", "order", "[I", true)
  | 49 => ("PorchHoursModel", "chairMany", "I", false)
  | 50 => ("PorchHoursModel", "chairPeriod", "[I", true)
  | 51 => ("PorchHoursModel", "chairFirst", "[I", true)
  | 52 => ("PorchHoursModel", "catMany", "I", false)
  | 53 => ("PorchHoursModel", "catFrom", "[I", true)
  | 54 => ("PorchHoursModel", "catTo", "[I", true)
  | 55 => ("PorchHoursModel", "catAt", "[I", true)
  | 56 => ("PorchHoursModel", "catThere", "[I", true)
  | 57 => ("PorchHoursModel", "replyAt", "[I", true)
  | 58 => ("PorchHoursModel", "familyMany", "I", false)
  | 59 => ("PorchHoursModel", "families", "[I", true)
  | 60 => ("PorchHoursModel", "stormed", "[I", true)
  | 61 => ("PorchHoursModel", "under", "[I", true)
  | 62 => ("PorchHoursModel", "boardMany", "I", false)
  | 63 => ("PorchHoursModel", "boards", "[I", true)
  | 64 => ("PorchHoursModel", "talkMany", "I", false)
  | 65 => ("PorchHoursModel", "talked", "[I", true)
  | 66 => ("PorchHoursModel", "talkWays", "[I", true)
  | 67 => ("PorchHoursModel", "halfMany", "[I", true)
  | 68 => ("PorchHoursModel", "halfWords", "[I", true)
  | 69 => ("PorchHoursModel", "halfWays", "[I", true)
  | 70 => ("PorchHoursModel", "swingMany", "I", false)
  | 71 => ("PorchHoursModel", "swingWeight", "[I", true)
  | 72 => ("PorchHoursModel", "quarrelMany", "I", false)
  | 73 => ("PorchHoursModel", "quarrels", "[I", true)
  | 74 => ("PorchHoursModel", "seatedBy", "[I", true)
  | 75 => ("PorchHoursModel", "comesAt", "[I", true)
  | 76 => ("PorchHoursModel", "stepWays", "[I", true)
  | 77 => ("PorchHoursModel", "cans", "[I", true)
  | 78 => ("PorchHoursModel", "canSize", "[I", true)
  | 79 => ("PorchHoursModel", "pouredBy", "[I", true)
  | 80 => ("PorchHoursModel", "toPour", "[I", true)
  | 81 => ("PorchHoursModel", "rising", "[I", true)
  | 82 => ("PorchHoursModel", "doesWin", "[I", true)
  | 83 => ("PorchHoursModel", "isTaking", "Z", false)
  | 84 => ("PorchHoursModel", "hasImage", "Z", false)
  | 85 => ("PorchHoursModel", "keptAt", "I", false)
  | _ => ("PorchHoursModel", "images", "[I", true)
def tyX12 : Nat → FieldType := fun k => match k with
  | 0 => .int
  | 1 => .array .int
  | 2 => .array .int
  | 3 => .int
  | 4 => .array .int
  | 5 => .boolean
  | 6 => .int
  | 7 => .int
  | 8 => .array .int
  | 9 => .array .int
  | 10 => .array .int
  | 11 => .array .int
  | 12 => .array .int
  | 13 => .int
  | 14 => .int
  | 15 => .int
  | 16 => .int
  | 17 => .int
  | 18 => .array .int
  | 19 => .array .int
  | 20 => .array .int
  | 21 => .array .int
  | 22 => .array .int
  | 23 => .array .int
  | 24 => .array .int
  | 25 => .array .int
  | 26 => .int
  | 27 => .int
  | 28 => .int
  | 29 => .array .int
  | 30 => .int
  | 31 => .int
  | 32 => .int
  | 33 => .int
  | 34 => .int
  | 35 => .int
  | 36 => .array .int
  | 37 => .int
  | 38 => .array .int
  | 39 => .int
  | 40 => .array .int
  | 41 => .array .int
  | 42 => .array .int
  | 43 => .array .int
  | 44 => .array .int
  | 45 => .array .int
  | 46 => .array .int
  | 47 => .array .int
  | 48 => .array .int
  | 49 => .int
  | 50 => .array .int
  | 51 => .array .int
  | 52 => .int
  | 53 => .array .int
  | 54 => .array .int
  | 55 => .array .int
  | 56 => .array .int
  | 57 => .array .int
  | 58 => .int
  | 59 => .array .int
  | 60 => .array .int
  | 61 => .array .int
  | 62 => .int
  | 63 => .array .int
  | 64 => .int
  | 65 => .array .int
  | 66 => .array .int
  | 67 => .array .int
  | 68 => .array .int
  | 69 => .array .int
  | 70 => .int
  | 71 => .array .int
  | 72 => .int
  | 73 => .array .int
  | 74 => .array .int
  | 75 => .array .int
  | 76 => .array .int
  | 77 => .array .int
  | 78 => .array .int
  | 79 => .array .int
  | 80 => .array .int
  | 81 => .array .int
  | 82 => .array .int
  | 83 => .boolean
  | 84 => .boolean
  | 85 => .int
  | _ => .array .int
abbrev wsX120 : List Cond := u_ws RX12 TX12 87
theorem nmX12 : ∀ a, a < 87 → ∀ b, b < 87 → a ≠ b → (TX12 a).2.1 ≠ (TX12 b).2.1 := by decide +kernel
theorem tyX12_ok : ∀ k, k < 87 → parseFieldDescriptor (TX12 k).2.2.1 = some (tyX12 k) := by decide +kernel
abbrev cX12_init : ByteArray := prog_14_method_1_code
def yX12_init : MethodName := ⟨RX12, "<init>", "()V"⟩
abbrev cX12_isIn : ByteArray := prog_14_method_3_code
def yX12_isIn : MethodName := ⟨RX12, "isIn", "(III)Z"⟩
abbrev cX12_held : ByteArray := prog_14_method_4_code
def yX12_held : MethodName := ⟨RX12, "held", "(III)I"⟩
abbrev cX12_greater : ByteArray := prog_14_method_5_code
def yX12_greater : MethodName := ⟨RX12, "greater", "(II)I"⟩
abbrev cX12_lesser : ByteArray := prog_14_method_6_code
def yX12_lesser : MethodName := ⟨RX12, "lesser", "(II)I"⟩
abbrev cX12_apart : ByteArray := prog_14_method_7_code
def yX12_apart : MethodName := ⟨RX12, "apart", "(II)I"⟩
abbrev cX12_added : ByteArray := prog_14_method_8_code
def yX12_added : MethodName := ⟨RX12, "added", "(II)I"⟩
abbrev cX12_onesOf : ByteArray := prog_14_method_9_code
def yX12_onesOf : MethodName := ⟨RX12, "onesOf", "(I)I"⟩
abbrev cX12_has : ByteArray := prog_14_method_10_code
def yX12_has : MethodName := ⟨RX12, "has", "(II)Z"⟩
abbrev cX12_keepsAhead : ByteArray := prog_14_method_11_code
def yX12_keepsAhead : MethodName := ⟨RX12, "keepsAhead", "()V"⟩
abbrev cX12_undo : ByteArray := prog_14_method_12_code
def yX12_undo : MethodName := ⟨RX12, "undo", "()Z"⟩
abbrev cX12_thinks : ByteArray := prog_14_method_13_code
def yX12_thinks : MethodName := ⟨RX12, "thinks", "()V"⟩
abbrev cX12_endsThought : ByteArray := prog_14_method_14_code
def yX12_endsThought : MethodName := ⟨RX12, "endsThought", "()V"⟩
abbrev cX12_state : ByteArray := prog_14_method_15_code
def yX12_state : MethodName := ⟨RX12, "state", "(I)I"⟩
abbrev cX12_draw : ByteArray := prog_14_method_16_code
def yX12_draw : MethodName := ⟨RX12, "draw", "(I)I"⟩
abbrev cX12_isPorch : ByteArray := prog_14_method_17_code
def yX12_isPorch : MethodName := ⟨RX12, "isPorch", "(I)Z"⟩
abbrev cX12_isPerson : ByteArray := prog_14_method_18_code
def yX12_isPerson : MethodName := ⟨RX12, "isPerson", "(I)Z"⟩
abbrev cX12_sitsOn : ByteArray := prog_14_method_19_code
def yX12_sitsOn : MethodName := ⟨RX12, "sitsOn", "(I)I"⟩
abbrev cX12_doesSit : ByteArray := prog_14_method_20_code
def yX12_doesSit : MethodName := ⟨RX12, "doesSit", "(I)Z"⟩
abbrev cX12_sittersOn : ByteArray := prog_14_method_21_code
def yX12_sittersOn : MethodName := ⟨RX12, "sittersOn", "(I)I"⟩
abbrev cX12_porch : ByteArray := prog_14_method_22_code
def yX12_porch : MethodName := ⟨RX12, "porch", "(II)I"⟩
abbrev cX12_person : ByteArray := prog_14_method_23_code
def yX12_person : MethodName := ⟨RX12, "person", "(II)I"⟩
abbrev cX12_canSet : ByteArray := prog_14_method_24_code
def yX12_canSet : MethodName := ⟨RX12, "canSet", "(III)Z"⟩
abbrev cX12_set : ByteArray := prog_14_method_25_code
def yX12_set : MethodName := ⟨RX12, "set", "(III)Z"⟩
abbrev cX12_types : ByteArray := prog_14_method_26_code
def yX12_types : MethodName := ⟨RX12, "types", "(I)V"⟩
abbrev cX12_feed : ByteArray := prog_14_method_27_code
def yX12_feed : MethodName := ⟨RX12, "feed", "(IIIII)I"⟩
abbrev cX12_end : ByteArray := prog_14_method_28_code
def yX12_end : MethodName := ⟨RX12, "end", "(I)Z"⟩
abbrev cX12_raw : ByteArray := prog_14_method_29_code
def yX12_raw : MethodName := ⟨RX12, "raw", "(I)I"⟩
abbrev cX12_isLetter : ByteArray := prog_14_method_30_code
def yX12_isLetter : MethodName := ⟨RX12, "isLetter", "(I)Z"⟩
abbrev cX12_isDigit : ByteArray := prog_14_method_31_code
def yX12_isDigit : MethodName := ⟨RX12, "isDigit", "(I)Z"⟩
abbrev cX12_isMarkSign : ByteArray := prog_14_method_32_code
def yX12_isMarkSign : MethodName := ⟨RX12, "isMarkSign", "(I)Z"⟩
abbrev cX12_wordAt : ByteArray := prog_14_method_33_code
def yX12_wordAt : MethodName := ⟨RX12, "wordAt", "(II)I"⟩
abbrev cX12_reads : ByteArray := prog_14_method_34_code
def yX12_reads : MethodName := ⟨RX12, "reads", "()V"⟩
abbrev cX12_errs : ByteArray := prog_14_method_35_code
def yX12_errs : MethodName := ⟨RX12, "errs", "(I)I"⟩
abbrev cX12_isWord : ByteArray := prog_14_method_36_code
def yX12_isWord : MethodName := ⟨RX12, "isWord", "(I)Z"⟩
abbrev cX12_isSign : ByteArray := prog_14_method_37_code
def yX12_isSign : MethodName := ⟨RX12, "isSign", "(I)Z"⟩
abbrev cX12_emits : ByteArray := prog_14_method_38_code
def yX12_emits : MethodName := ⟨RX12, "emits", "(II)V"⟩
abbrev cX12_canAsk : ByteArray := prog_14_method_39_code
def yX12_canAsk : MethodName := ⟨RX12, "canAsk", "(I)Z"⟩
abbrev cX12_readUnit : ByteArray := prog_14_method_40_code
def yX12_readUnit : MethodName := ⟨RX12, "readUnit", "()I"⟩
abbrev cX12_readProduct : ByteArray := prog_14_method_41_code
def yX12_readProduct : MethodName := ⟨RX12, "readProduct", "()I"⟩
abbrev cX12_readSum : ByteArray := prog_14_method_42_code
def yX12_readSum : MethodName := ⟨RX12, "readSum", "()I"⟩
abbrev cX12_readCompared : ByteArray := prog_14_method_43_code
def yX12_readCompared : MethodName := ⟨RX12, "readCompared", "()I"⟩
abbrev cX12_waits : ByteArray := prog_14_method_44_code
def yX12_waits : MethodName := ⟨RX12, "waits", "(I)V"⟩
abbrev cX12_settles : ByteArray := prog_14_method_45_code
def yX12_settles : MethodName := ⟨RX12, "settles", "(I)V"⟩
abbrev cX12_readAny : ByteArray := prog_14_method_46_code
def yX12_readAny : MethodName := ⟨RX12, "readAny", "()I"⟩
abbrev cX12_isLineWord : ByteArray := prog_14_method_47_code
def yX12_isLineWord : MethodName := ⟨RX12, "isLineWord", "()Z"⟩
abbrev cX12_readLaw : ByteArray := prog_14_method_48_code
def yX12_readLaw : MethodName := ⟨RX12, "readLaw", "()I"⟩
abbrev cX12_takesLaw : ByteArray := prog_14_method_49_code
def yX12_takesLaw : MethodName := ⟨RX12, "takesLaw", "(I)V"⟩
abbrev cX12_readNumber : ByteArray := prog_14_method_50_code
def yX12_readNumber : MethodName := ⟨RX12, "readNumber", "(II)I"⟩
abbrev cX12_readMark : ByteArray := prog_14_method_51_code
def yX12_readMark : MethodName := ⟨RX12, "readMark", "(I)I"⟩
abbrev cX12_readTold : ByteArray := prog_14_method_52_code
def yX12_readTold : MethodName := ⟨RX12, "readTold", "(III)I"⟩
abbrev cX12_readCall : ByteArray := prog_14_method_53_code
def yX12_readCall : MethodName := ⟨RX12, "readCall", "(I)I"⟩
abbrev cX12_readCalls : ByteArray := prog_14_method_54_code
def yX12_readCalls : MethodName := ⟨RX12, "readCalls", "()I"⟩
abbrev cX12_readDeed : ByteArray := prog_14_method_55_code
def yX12_readDeed : MethodName := ⟨RX12, "readDeed", "(I)I"⟩
abbrev cX12_readEvenings : ByteArray := prog_14_method_56_code
def yX12_readEvenings : MethodName := ⟨RX12, "readEvenings", "()I"⟩
abbrev cX12_takesFeet : ByteArray := prog_14_method_57_code
def yX12_takesFeet : MethodName := ⟨RX12, "takesFeet", "(II)V"⟩
abbrev cX12_readRoad : ByteArray := prog_14_method_58_code
def yX12_readRoad : MethodName := ⟨RX12, "readRoad", "()I"⟩
abbrev cX12_readStreet : ByteArray := prog_14_method_59_code
def yX12_readStreet : MethodName := ⟨RX12, "readStreet", "()I"⟩
abbrev cX12_readsText : ByteArray := prog_14_method_60_code
def yX12_readsText : MethodName := ⟨RX12, "readsText", "(I)I"⟩
abbrev cX12_takesOther : ByteArray := prog_14_method_61_code
def yX12_takesOther : MethodName := ⟨RX12, "takesOther", "(II)V"⟩
abbrev cX12_text : ByteArray := prog_14_method_62_code
def yX12_text : MethodName := ⟨RX12, "text", "(I)I"⟩
abbrev cX12_fault : ByteArray := prog_14_method_63_code
def yX12_fault : MethodName := ⟨RX12, "fault", "(I)I"⟩
abbrev cX12_twoOf : ByteArray := prog_14_method_64_code
def yX12_twoOf : MethodName := ⟨RX12, "twoOf", "(III)I"⟩
abbrev cX12_runs : ByteArray := prog_14_method_65_code
def yX12_runs : MethodName := ⟨RX12, "runs", "(III)I"⟩
abbrev cX12_lineOf : ByteArray := prog_14_method_66_code
def yX12_lineOf : MethodName := ⟨RX12, "lineOf", "(I)I"⟩
abbrev cX12_asks : ByteArray := prog_14_method_67_code
def yX12_asks : MethodName := ⟨RX12, "asks", "(II)V"⟩
abbrev cX12_lawTells : ByteArray := prog_14_method_68_code
def yX12_lawTells : MethodName := ⟨RX12, "lawTells", "(III)I"⟩
abbrev cX12_speaksOf : ByteArray := prog_14_method_69_code
def yX12_speaksOf : MethodName := ⟨RX12, "speaksOf", "(I)I"⟩
abbrev cX12_hearsOf : ByteArray := prog_14_method_70_code
def yX12_hearsOf : MethodName := ⟨RX12, "hearsOf", "(II)I"⟩
abbrev cX12_spinsOf : ByteArray := prog_14_method_71_code
def yX12_spinsOf : MethodName := ⟨RX12, "spinsOf", "(I)I"⟩
abbrev cX12_notes : ByteArray := prog_14_method_72_code
def yX12_notes : MethodName := ⟨RX12, "notes", "(III)V"⟩
abbrev cX12_canSit : ByteArray := prog_14_method_73_code
def yX12_canSit : MethodName := ⟨RX12, "canSit", "(II)Z"⟩
abbrev cX12_isSat : ByteArray := prog_14_method_74_code
def yX12_isSat : MethodName := ⟨RX12, "isSat", "(III)V"⟩
abbrev cX12_getsUp : ByteArray := prog_14_method_75_code
def yX12_getsUp : MethodName := ⟨RX12, "getsUp", "(I)V"⟩
abbrev cX12_isSwept : ByteArray := prog_14_method_76_code
def yX12_isSwept : MethodName := ⟨RX12, "isSwept", "(I)V"⟩
abbrev cX12_canAct : ByteArray := prog_14_method_77_code
def yX12_canAct : MethodName := ⟨RX12, "canAct", "(III)Z"⟩
abbrev cX12_act : ByteArray := prog_14_method_78_code
def yX12_act : MethodName := ⟨RX12, "act", "(III)Z"⟩
abbrev cX12_happens : ByteArray := prog_14_method_79_code
def yX12_happens : MethodName := ⟨RX12, "happens", "(I)Z"⟩
abbrev cX12_begins : ByteArray := prog_14_method_80_code
def yX12_begins : MethodName := ⟨RX12, "begins", "()V"⟩
abbrev cX12_callsAndRain : ByteArray := prog_14_method_81_code
def yX12_callsAndRain : MethodName := ⟨RX12, "callsAndRain", "()V"⟩
abbrev cX12_isBeside : ByteArray := prog_14_method_82_code
def yX12_isBeside : MethodName := ⟨RX12, "isBeside", "(II)Z"⟩
abbrev cX12_isSpoken : ByteArray := prog_14_method_83_code
def yX12_isSpoken : MethodName := ⟨RX12, "isSpoken", "(I)V"⟩
abbrev cX12_lampBurns : ByteArray := prog_14_method_84_code
def yX12_lampBurns : MethodName := ⟨RX12, "lampBurns", "(I)V"⟩
abbrev cX12_goesBy : ByteArray := prog_14_method_85_code
def yX12_goesBy : MethodName := ⟨RX12, "goesBy", "()I"⟩
abbrev cX12_minutes : ByteArray := prog_14_method_86_code
def yX12_minutes : MethodName := ⟨RX12, "minutes", "(I)I"⟩
abbrev cX12_porchOf : ByteArray := prog_14_method_87_code
def yX12_porchOf : MethodName := ⟨RX12, "porchOf", "(II)I"⟩
abbrev cX12_of : ByteArray := prog_14_method_88_code
def yX12_of : MethodName := ⟨RX12, "of", "(II)I"⟩
abbrev cX12_hears : ByteArray := prog_14_method_89_code
def yX12_hears : MethodName := ⟨RX12, "hears", "(II)I"⟩
abbrev cX12_book : ByteArray := prog_14_method_90_code
def yX12_book : MethodName := ⟨RX12, "book", "(II)I"⟩
abbrev cX12_sumOf : ByteArray := prog_14_method_91_code
def yX12_sumOf : MethodName := ⟨RX12, "sumOf", "(II)I"⟩
abbrev cX12_goes : ByteArray := prog_14_method_92_code
def yX12_goes : MethodName := ⟨RX12, "goes", "(II)I"⟩
abbrev cX12_soonest : ByteArray := prog_14_method_93_code
def yX12_soonest : MethodName := ⟨RX12, "soonest", "(I)I"⟩
abbrev cX12_wishes : ByteArray := prog_14_method_94_code
def yX12_wishes : MethodName := ⟨RX12, "wishes", "(III)Z"⟩
abbrev cX12_findsWishes : ByteArray := prog_14_method_95_code
def yX12_findsWishes : MethodName := ⟨RX12, "findsWishes", "()V"⟩
abbrev cX12_engages : ByteArray := prog_14_method_96_code
def yX12_engages : MethodName := ⟨RX12, "engages", "(I)V"⟩
abbrev cX12_isSettled : ByteArray := prog_14_method_97_code
def yX12_isSettled : MethodName := ⟨RX12, "isSettled", "()Z"⟩
abbrev cX12_goesToNextOrder : ByteArray := prog_14_method_98_code
def yX12_goesToNextOrder : MethodName := ⟨RX12, "goesToNextOrder", "(I)Z"⟩
abbrev cX12_settledWays : ByteArray := prog_14_method_99_code
def yX12_settledWays : MethodName := ⟨RX12, "settledWays", "()I"⟩
abbrev cX12_matched : ByteArray := prog_14_method_100_code
def yX12_matched : MethodName := ⟨RX12, "matched", "(III)I"⟩
abbrev cX12_chair : ByteArray := prog_14_method_101_code
def yX12_chair : MethodName := ⟨RX12, "chair", "(II)I"⟩
abbrev cX12_forwardAt : ByteArray := prog_14_method_102_code
def yX12_forwardAt : MethodName := ⟨RX12, "forwardAt", "(I)I"⟩
abbrev cX12_rocks : ByteArray := prog_14_method_103_code
def yX12_rocks : MethodName := ⟨RX12, "rocks", "(I)I"⟩
abbrev cX12_cat : ByteArray := prog_14_method_104_code
def yX12_cat : MethodName := ⟨RX12, "cat", "(III)I"⟩
abbrev cX12_reply : ByteArray := prog_14_method_105_code
def yX12_reply : MethodName := ⟨RX12, "reply", "(III)I"⟩
abbrev cX12_family : ByteArray := prog_14_method_106_code
def yX12_family : MethodName := ⟨RX12, "family", "(I)I"⟩
abbrev cX12_withFamily : ByteArray := prog_14_method_107_code
def yX12_withFamily : MethodName := ⟨RX12, "withFamily", "(III)I"⟩
abbrev cX12_fewestPorches : ByteArray := prog_14_method_108_code
def yX12_fewestPorches : MethodName := ⟨RX12, "fewestPorches", "(I)I"⟩
abbrev cX12_isDry : ByteArray := prog_14_method_109_code
def yX12_isDry : MethodName := ⟨RX12, "isDry", "(III)Z"⟩
abbrev cX12_storm : ByteArray := prog_14_method_110_code
def yX12_storm : MethodName := ⟨RX12, "storm", "(II)I"⟩
abbrev cX12_board : ByteArray := prog_14_method_111_code
def yX12_board : MethodName := ⟨RX12, "board", "(I)I"⟩
abbrev cX12_levelled : ByteArray := prog_14_method_112_code
def yX12_levelled : MethodName := ⟨RX12, "levelled", "()I"⟩
abbrev cX12_ditch : ByteArray := prog_14_method_113_code
def yX12_ditch : MethodName := ⟨RX12, "ditch", "()I"⟩
abbrev cX12_level : ByteArray := prog_14_method_114_code
def yX12_level : MethodName := ⟨RX12, "level", "(I)I"⟩
abbrev cX12_talk : ByteArray := prog_14_method_115_code
def yX12_talk : MethodName := ⟨RX12, "talk", "(I)I"⟩
abbrev cX12_talkGoes : ByteArray := prog_14_method_116_code
def yX12_talkGoes : MethodName := ⟨RX12, "talkGoes", "(Z)I"⟩
abbrev cX12_talks : ByteArray := prog_14_method_117_code
def yX12_talks : MethodName := ⟨RX12, "talks", "(I)I"⟩
abbrev cX12_half : ByteArray := prog_14_method_118_code
def yX12_half : MethodName := ⟨RX12, "half", "(II)I"⟩
abbrev cX12_waysOfHalf : ByteArray := prog_14_method_119_code
def yX12_waysOfHalf : MethodName := ⟨RX12, "waysOfHalf", "(II)I"⟩
abbrev cX12_halves : ByteArray := prog_14_method_120_code
def yX12_halves : MethodName := ⟨RX12, "halves", "(I)I"⟩
abbrev cX12_swing : ByteArray := prog_14_method_121_code
def yX12_swing : MethodName := ⟨RX12, "swing", "(I)I"⟩
abbrev cX12_heavierBy : ByteArray := prog_14_method_122_code
def yX12_heavierBy : MethodName := ⟨RX12, "heavierBy", "(I)I"⟩
abbrev cX12_swings : ByteArray := prog_14_method_123_code
def yX12_swings : MethodName := ⟨RX12, "swings", "(I)I"⟩
abbrev cX12_quarrel : ByteArray := prog_14_method_124_code
def yX12_quarrel : MethodName := ⟨RX12, "quarrel", "(II)I"⟩
abbrev cX12_seated : ByteArray := prog_14_method_125_code
def yX12_seated : MethodName := ⟨RX12, "seated", "(II)I"⟩
abbrev cX12_last : ByteArray := prog_14_method_126_code
def yX12_last : MethodName := ⟨RX12, "last", "(II)I"⟩
abbrev cX12_waysUp : ByteArray := prog_14_method_127_code
def yX12_waysUp : MethodName := ⟨RX12, "waysUp", "(II)I"⟩
abbrev cX12_steps : ByteArray := prog_14_method_128_code
def yX12_steps : MethodName := ⟨RX12, "steps", "(III)I"⟩
abbrev cX12_takesCans : ByteArray := prog_14_method_129_code
def yX12_takesCans : MethodName := ⟨RX12, "takesCans", "(I)V"⟩
abbrev cX12_poured : ByteArray := prog_14_method_130_code
def yX12_poured : MethodName := ⟨RX12, "poured", "(III)I"⟩
abbrev cX12_lamps : ByteArray := prog_14_method_131_code
def yX12_lamps : MethodName := ⟨RX12, "lamps", "(IIII)I"⟩
abbrev cX12_takesHats : ByteArray := prog_14_method_132_code
def yX12_takesHats : MethodName := ⟨RX12, "takesHats", "(I)I"⟩
abbrev cX12_hooks : ByteArray := prog_14_method_133_code
def yX12_hooks : MethodName := ⟨RX12, "hooks", "(II)I"⟩
abbrev cX12_goodTaking : ByteArray := prog_14_method_134_code
def yX12_goodTaking : MethodName := ⟨RX12, "goodTaking", "(II)I"⟩
abbrev cX12_game : ByteArray := prog_14_method_135_code
def yX12_game : MethodName := ⟨RX12, "game", "(II)I"⟩
abbrev cX12_keeps : ByteArray := prog_14_method_136_code
def yX12_keeps : MethodName := ⟨RX12, "keeps", "(I)I"⟩
abbrev cX12_keepsLaw : ByteArray := prog_14_method_137_code
def yX12_keepsLaw : MethodName := ⟨RX12, "keepsLaw", "()V"⟩
abbrev cX12_keepsMany : ByteArray := prog_14_method_138_code
def yX12_keepsMany : MethodName := ⟨RX12, "keepsMany", "()V"⟩
abbrev cX12_keepsThought : ByteArray := prog_14_method_139_code
def yX12_keepsThought : MethodName := ⟨RX12, "keepsThought", "()V"⟩
abbrev cX12_keepsTold : ByteArray := prog_14_method_140_code
def yX12_keepsTold : MethodName := ⟨RX12, "keepsTold", "()V"⟩
abbrev cX12_image : ByteArray := prog_14_method_141_code
def yX12_image : MethodName := ⟨RX12, "image", "(Z)Z"⟩
abbrev cX12_look : ByteArray := prog_14_method_142_code
def yX12_look : MethodName := ⟨RX12, "look", "(I)I"⟩
def RJx145de : String := "java/io/Serializable"
def TJx145de : u_T := fun k => match k with
  | _ => ("", "", "", false)
def tyJx145de : Nat → FieldType := fun k => match k with
  | _ => .int
abbrev wsJx145de0 : List Cond := u_ws RJx145de TJx145de 0
theorem nmJx145de : ∀ a, a < 0 → ∀ b, b < 0 → a ≠ b → (TJx145de a).2.1 ≠ (TJx145de b).2.1 := by decide +kernel
theorem tyJx145de_ok : ∀ k, k < 0 → parseFieldDescriptor (TJx145de k).2.2.1 = some (tyJx145de k) := by decide +kernel
def RJx9f9b0 : String := "java/lang/CharSequence"
def TJx9f9b0 : u_T := fun k => match k with
  | _ => ("", "", "", false)
def tyJx9f9b0 : Nat → FieldType := fun k => match k with
  | _ => .int
abbrev wsJx9f9b00 : List Cond := u_ws RJx9f9b0 TJx9f9b0 0
theorem nmJx9f9b0 : ∀ a, a < 0 → ∀ b, b < 0 → a ≠ b → (TJx9f9b0 a).2.1 ≠ (TJx9f9b0 b).2.1 := by decide +kernel
theorem tyJx9f9b0_ok : ∀ k, k < 0 → parseFieldDescriptor (TJx9f9b0 k).2.2.1 = some (tyJx9f9b0 k) := by decide +kernel
def RJxb160c : String := "java/lang/Comparable"
def TJxb160c : u_T := fun k => match k with
  | _ => ("", "", "", false)
def tyJxb160c : Nat → FieldType := fun k => match k with
  | _ => .int
abbrev wsJxb160c0 : List Cond := u_ws RJxb160c TJxb160c 0
theorem nmJxb160c : ∀ a, a < 0 → ∀ b, b < 0 → a ≠ b → (TJxb160c a).2.1 ≠ (TJxb160c b).2.1 := by decide +kernel
theorem tyJxb160c_ok : ∀ k, k < 0 → parseFieldDescriptor (TJxb160c k).2.2.1 = some (tyJxb160c k) := by decide +kernel
def RJ6 : String := "java/lang/Integer"
def TJ6 : u_T := fun k => match k with
  | _ => ("", "", "", false)
def tyJ6 : Nat → FieldType := fun k => match k with
  | _ => .int
abbrev wsJ60 : List Cond := u_ws RJ6 TJ6 0
theorem nmJ6 : ∀ a, a < 0 → ∀ b, b < 0 → a ≠ b → (TJ6 a).2.1 ≠ (TJ6 b).2.1 := by decide +kernel
theorem tyJ6_ok : ∀ k, k < 0 → parseFieldDescriptor (TJ6 k).2.2.1 = some (tyJ6 k) := by decide +kernel
abbrev cJ6_bitCount_0f7a4 : ByteArray := prog_15_method_49_code
def yJ6_bitCount_0f7a4 : MethodName := ⟨RJ6, "bitCount", "(I)I"⟩
def RJ9 : String := "java/lang/Math"
def TJ9 : u_T := fun k => match k with
  | _ => ("", "", "", false)
def tyJ9 : Nat → FieldType := fun k => match k with
  | _ => .int
abbrev wsJ90 : List Cond := u_ws RJ9 TJ9 0
theorem nmJ9 : ∀ a, a < 0 → ∀ b, b < 0 → a ≠ b → (TJ9 a).2.1 ≠ (TJ9 b).2.1 := by decide +kernel
theorem tyJ9_ok : ∀ k, k < 0 → parseFieldDescriptor (TJ9 k).2.2.1 = some (tyJ9 k) := by decide +kernel
abbrev cJ9_abs_0f7a4 : ByteArray := prog_16_method_59_code
def yJ9_abs_0f7a4 : MethodName := ⟨RJ9, "abs", "(I)I"⟩
abbrev cJ9_max_7cf53 : ByteArray := prog_16_method_65_code
def yJ9_max_7cf53 : MethodName := ⟨RJ9, "max", "(II)I"⟩
abbrev cJ9_min_7cf53 : ByteArray := prog_16_method_69_code
def yJ9_min_7cf53 : MethodName := ⟨RJ9, "min", "(II)I"⟩
def RJ0 : String := "java/lang/String"
def TJ0 : u_T := fun k => match k with
  | _ => ("", "", "", false)
def tyJ0 : Nat → FieldType := fun k => match k with
  | _ => .int
abbrev wsJ00 : List Cond := u_ws RJ0 TJ0 0
theorem nmJ0 : ∀ a, a < 0 → ∀ b, b < 0 → a ≠ b → (TJ0 a).2.1 ≠ (TJ0 b).2.1 := by decide +kernel
theorem tyJ0_ok : ∀ k, k < 0 → parseFieldDescriptor (TJ0 k).2.2.1 = some (tyJ0 k) := by decide +kernel
abbrev cJ0_length_8abf5 : ByteArray := prog_17_method_54_code
def yJ0_length_8abf5 : MethodName := ⟨RJ0, "length", "()I"⟩
abbrev cJ0_charAt_5068e : ByteArray := prog_17_method_56_code
def yJ0_charAt_5068e : MethodName := ⟨RJ0, "charAt", "(I)C"⟩
abbrev cJ0_coder_7d493 : ByteArray := prog_17_method_152_code
def yJ0_coder_7d493 : MethodName := ⟨RJ0, "coder", "()B"⟩
abbrev cJ0_isLatin1_aae02 : ByteArray := prog_17_method_154_code
def yJ0_isLatin1_aae02 : MethodName := ⟨RJ0, "isLatin1", "()Z"⟩
abbrev cJ0_checkIndex_df160 : ByteArray := prog_17_method_155_code
def yJ0_checkIndex_df160 : MethodName := ⟨RJ0, "checkIndex", "(II)V"⟩
def RJ1 : String := "java/lang/StringLatin1"
def TJ1 : u_T := fun k => match k with
  | _ => ("", "", "", false)
def tyJ1 : Nat → FieldType := fun k => match k with
  | _ => .int
abbrev wsJ10 : List Cond := u_ws RJ1 TJ1 0
theorem nmJ1 : ∀ a, a < 0 → ∀ b, b < 0 → a ≠ b → (TJ1 a).2.1 ≠ (TJ1 b).2.1 := by decide +kernel
theorem tyJ1_ok : ∀ k, k < 0 → parseFieldDescriptor (TJ1 k).2.2.1 = some (tyJ1 k) := by decide +kernel
abbrev cJ1_charAt_3b067 : ByteArray := prog_18_method_2_code
def yJ1_charAt_3b067 : MethodName := ⟨RJ1, "charAt", "([BI)C"⟩
def RJ2 : String := "java/lang/StringUTF16"
def TJ2 : u_T := fun k => match k with
  | _ => ("", "", "", false)
def tyJ2 : Nat → FieldType := fun k => match k with
  | _ => .int
abbrev wsJ20 : List Cond := u_ws RJ2 TJ2 0
theorem nmJ2 : ∀ a, a < 0 → ∀ b, b < 0 → a ≠ b → (TJ2 a).2.1 ≠ (TJ2 b).2.1 := by decide +kernel
theorem tyJ2_ok : ∀ k, k < 0 → parseFieldDescriptor (TJ2 k).2.2.1 = some (tyJ2 k) := by decide +kernel
abbrev cJ2_getChar_3b067 : ByteArray := prog_19_method_5_code
def yJ2_getChar_3b067 : MethodName := ⟨RJ2, "getChar", "([BI)C"⟩
abbrev cJ2_length_9d52b : ByteArray := prog_19_method_6_code
def yJ2_length_9d52b : MethodName := ⟨RJ2, "length", "([B)I"⟩
abbrev cJ2_charAt_3b067 : ByteArray := prog_19_method_83_code
def yJ2_charAt_3b067 : MethodName := ⟨RJ2, "charAt", "([BI)C"⟩
abbrev cJ2_checkIndex_2214a : ByteArray := prog_19_method_91_code
def yJ2_checkIndex_2214a : MethodName := ⟨RJ2, "checkIndex", "(I[B)V"⟩
def RJ10 : String := "java/lang/System"
def TJ10 : u_T := fun k => match k with
  | _ => ("", "", "", false)
def tyJ10 : Nat → FieldType := fun k => match k with
  | _ => .int
abbrev wsJ100 : List Cond := u_ws RJ10 TJ10 0
theorem nmJ10 : ∀ a, a < 0 → ∀ b, b < 0 → a ≠ b → (TJ10 a).2.1 ≠ (TJ10 b).2.1 := by decide +kernel
theorem tyJ10_ok : ∀ k, k < 0 → parseFieldDescriptor (TJ10 k).2.2.1 = some (tyJ10 k) := by decide +kernel
def RJxfd54e : String := "java/lang/constant/Constable"
def TJxfd54e : u_T := fun k => match k with
  | _ => ("", "", "", false)
def tyJxfd54e : Nat → FieldType := fun k => match k with
  | _ => .int
abbrev wsJxfd54e0 : List Cond := u_ws RJxfd54e TJxfd54e 0
theorem nmJxfd54e : ∀ a, a < 0 → ∀ b, b < 0 → a ≠ b → (TJxfd54e a).2.1 ≠ (TJxfd54e b).2.1 := by decide +kernel
theorem tyJxfd54e_ok : ∀ k, k < 0 → parseFieldDescriptor (TJxfd54e k).2.2.1 = some (tyJxfd54e k) := by decide +kernel
def RJx3cf43 : String := "java/lang/constant/ConstantDesc"
def TJx3cf43 : u_T := fun k => match k with
  | _ => ("", "", "", false)
def tyJx3cf43 : Nat → FieldType := fun k => match k with
  | _ => .int
abbrev wsJx3cf430 : List Cond := u_ws RJx3cf43 TJx3cf43 0
theorem nmJx3cf43 : ∀ a, a < 0 → ∀ b, b < 0 → a ≠ b → (TJx3cf43 a).2.1 ≠ (TJx3cf43 b).2.1 := by decide +kernel
theorem tyJx3cf43_ok : ∀ k, k < 0 → parseFieldDescriptor (TJx3cf43 k).2.2.1 = some (tyJx3cf43 k) := by decide +kernel
def RJ7 : String := "java/util/Arrays"
def TJ7 : u_T := fun k => match k with
  | _ => ("", "", "", false)
def tyJ7 : Nat → FieldType := fun k => match k with
  | _ => .int
abbrev wsJ70 : List Cond := u_ws RJ7 TJ7 0
theorem nmJ7 : ∀ a, a < 0 → ∀ b, b < 0 → a ≠ b → (TJ7 a).2.1 ≠ (TJ7 b).2.1 := by decide +kernel
theorem tyJ7_ok : ∀ k, k < 0 → parseFieldDescriptor (TJ7 k).2.2.1 = some (tyJ7 k) := by decide +kernel
abbrev cJ7_fill_53178 : ByteArray := prog_21_method_103_code
def yJ7_fill_53178 : MethodName := ⟨RJ7, "fill", "([II)V"⟩
def RJ3 : String := "jdk/internal/util/Preconditions"
def TJ3 : u_T := fun k => match k with
  | _ => ("", "", "", false)
def tyJ3 : Nat → FieldType := fun k => match k with
  | _ => .int
abbrev wsJ30 : List Cond := u_ws RJ3 TJ3 0
theorem nmJ3 : ∀ a, a < 0 → ∀ b, b < 0 → a ≠ b → (TJ3 a).2.1 ≠ (TJ3 b).2.1 := by decide +kernel
theorem tyJ3_ok : ∀ k, k < 0 → parseFieldDescriptor (TJ3 k).2.2.1 = some (tyJ3 k) := by decide +kernel
abbrev cJ3_checkIndex_8e157 : ByteArray := prog_22_method_11_code
def yJ3_checkIndex_8e157 : MethodName := ⟨RJ3, "checkIndex", "(IILjava/util/function/BiFunction;)I"⟩
def RL : String := "PorchHoursLaw"
abbrev cL_law : ByteArray := code
def yL_law : MethodName := ⟨RL, "law", "([I)Z"⟩
abbrev vwCl : List vw_C := [(RX0, TX0, 4), (RX1, TX1, 5), (RX2, TX2, 19), (RX3, TX3, 5), (RX4, TX4, 15), (RX5, TX5, 9), (RX6, TX6, 3), (RX7, TX7, 2), (RX8, TX8, 6), (RX9, TX9, 16), (RX10, TX10, 4), (RX11, TX11, 15), (RX12, TX12, 87)]
