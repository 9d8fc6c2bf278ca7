-- ===== PART A: goes FIRST, ahead of the names: the tables' words, and 'selects' of the private methods out of them =====
/-- a private method of a class that the tables say can be made, by its rows of tables_1 -/
def lw_okq (q : MethodName × Nat) : Prop := (q.1.cls ≠ "java/lang/invoke/MethodHandle" ∧ q.1.cls ≠ "java/lang/invoke/VarHandle") ∧ Cond.instantiable q.1.cls q.2 ∈ tables_1 ∧ Cond.privateMethod q.1 ∈ tables_1 ∧ Cond.instanceMethod q.1 ∈ tables_1
theorem lw_p0 : lw_okq (⟨"QuarrelMiles$Earnest", "forgetActs", "()V"⟩, 14) := ⟨⟨by decide +kernel, by decide +kernel⟩, List.mem_of_getElem? (i := 253) (by decide +kernel), List.mem_of_getElem? (i := 297) (by decide +kernel), List.mem_of_getElem? (i := 298) (by decide +kernel)⟩
theorem lw_p1 : lw_okq (⟨"QuarrelMiles$Earnest", "slot", "()I"⟩, 14) := ⟨⟨by decide +kernel, by decide +kernel⟩, List.mem_of_getElem? (i := 253) (by decide +kernel), List.mem_of_getElem? (i := 301) (by decide +kernel), List.mem_of_getElem? (i := 302) (by decide +kernel)⟩
theorem lw_p2 : lw_okq (⟨"QuarrelMiles$Earnest", "put", "([II)V"⟩, 14) := ⟨⟨by decide +kernel, by decide +kernel⟩, List.mem_of_getElem? (i := 253) (by decide +kernel), List.mem_of_getElem? (i := 305) (by decide +kernel), List.mem_of_getElem? (i := 306) (by decide +kernel)⟩
theorem lw_p3 : lw_okq (⟨"QuarrelMiles", "tapeNumber", "(I)V"⟩, 10) := ⟨⟨by decide +kernel, by decide +kernel⟩, List.mem_of_getElem? (i := 21) (by decide +kernel), List.mem_of_getElem? (i := 551) (by decide +kernel), List.mem_of_getElem? (i := 552) (by decide +kernel)⟩
theorem lw_p4 : lw_okq (⟨"QuarrelMiles$Tokens", "sign", "(I)I"⟩, 7) := ⟨⟨by decide +kernel, by decide +kernel⟩, List.mem_of_getElem? (i := 172) (by decide +kernel), List.mem_of_getElem? (i := 586) (by decide +kernel), List.mem_of_getElem? (i := 587) (by decide +kernel)⟩
theorem lw_p5 : lw_okq (⟨"QuarrelMiles$Tokens", "takeWord", "()V"⟩, 7) := ⟨⟨by decide +kernel, by decide +kernel⟩, List.mem_of_getElem? (i := 172) (by decide +kernel), List.mem_of_getElem? (i := 596) (by decide +kernel), List.mem_of_getElem? (i := 597) (by decide +kernel)⟩
theorem lw_p6 : lw_okq (⟨"QuarrelMiles$Tokens", "takeNumber", "()V"⟩, 7) := ⟨⟨by decide +kernel, by decide +kernel⟩, List.mem_of_getElem? (i := 172) (by decide +kernel), List.mem_of_getElem? (i := 653) (by decide +kernel), List.mem_of_getElem? (i := 654) (by decide +kernel)⟩
theorem lw_p7 : lw_okq (⟨"QuarrelMiles$Reader", "readPlace", "(LQuarrelMiles$Land;)Z"⟩, 6) := ⟨⟨by decide +kernel, by decide +kernel⟩, List.mem_of_getElem? (i := 170) (by decide +kernel), List.mem_of_getElem? (i := 660) (by decide +kernel), List.mem_of_getElem? (i := 661) (by decide +kernel)⟩
theorem lw_p8 : lw_okq (⟨"QuarrelMiles$Reader", "refuse", "()Z"⟩, 6) := ⟨⟨by decide +kernel, by decide +kernel⟩, List.mem_of_getElem? (i := 170) (by decide +kernel), List.mem_of_getElem? (i := 664) (by decide +kernel), List.mem_of_getElem? (i := 665) (by decide +kernel)⟩
theorem lw_p9 : lw_okq (⟨"QuarrelMiles$Reader", "fail", "(II)Z"⟩, 6) := ⟨⟨by decide +kernel, by decide +kernel⟩, List.mem_of_getElem? (i := 170) (by decide +kernel), List.mem_of_getElem? (i := 668) (by decide +kernel), List.mem_of_getElem? (i := 669) (by decide +kernel)⟩
theorem lw_p10 : lw_okq (⟨"QuarrelMiles$Reader", "readNewName", "([JI)Z"⟩, 6) := ⟨⟨by decide +kernel, by decide +kernel⟩, List.mem_of_getElem? (i := 170) (by decide +kernel), List.mem_of_getElem? (i := 673) (by decide +kernel), List.mem_of_getElem? (i := 674) (by decide +kernel)⟩
theorem lw_p11 : lw_okq (⟨"QuarrelMiles$Reader", "readNumberBehind", "(III)Z"⟩, 6) := ⟨⟨by decide +kernel, by decide +kernel⟩, List.mem_of_getElem? (i := 170) (by decide +kernel), List.mem_of_getElem? (i := 680) (by decide +kernel), List.mem_of_getElem? (i := 681) (by decide +kernel)⟩
theorem lw_p12 : lw_okq (⟨"QuarrelMiles$Reader", "expect", "(I)Z"⟩, 6) := ⟨⟨by decide +kernel, by decide +kernel⟩, List.mem_of_getElem? (i := 170) (by decide +kernel), List.mem_of_getElem? (i := 684) (by decide +kernel), List.mem_of_getElem? (i := 685) (by decide +kernel)⟩
theorem lw_p13 : lw_okq (⟨"QuarrelMiles$Reader", "readNumber", "(II)Z"⟩, 6) := ⟨⟨by decide +kernel, by decide +kernel⟩, List.mem_of_getElem? (i := 170) (by decide +kernel), List.mem_of_getElem? (i := 688) (by decide +kernel), List.mem_of_getElem? (i := 689) (by decide +kernel)⟩
theorem lw_p14 : lw_okq (⟨"QuarrelMiles$Reader", "readWay", "(LQuarrelMiles$Land;)Z"⟩, 6) := ⟨⟨by decide +kernel, by decide +kernel⟩, List.mem_of_getElem? (i := 170) (by decide +kernel), List.mem_of_getElem? (i := 692) (by decide +kernel), List.mem_of_getElem? (i := 693) (by decide +kernel)⟩
theorem lw_p15 : lw_okq (⟨"QuarrelMiles$Reader", "readPlaceName", "(LQuarrelMiles$Land;I)Z"⟩, 6) := ⟨⟨by decide +kernel, by decide +kernel⟩, List.mem_of_getElem? (i := 170) (by decide +kernel), List.mem_of_getElem? (i := 696) (by decide +kernel), List.mem_of_getElem? (i := 697) (by decide +kernel)⟩
def lw_privs_1 : List (MethodName × Nat) := [(⟨"QuarrelMiles$Earnest", "forgetActs", "()V"⟩, 14), (⟨"QuarrelMiles$Earnest", "slot", "()I"⟩, 14), (⟨"QuarrelMiles$Earnest", "put", "([II)V"⟩, 14), (⟨"QuarrelMiles", "tapeNumber", "(I)V"⟩, 10), (⟨"QuarrelMiles$Tokens", "sign", "(I)I"⟩, 7), (⟨"QuarrelMiles$Tokens", "takeWord", "()V"⟩, 7), (⟨"QuarrelMiles$Tokens", "takeNumber", "()V"⟩, 7), (⟨"QuarrelMiles$Reader", "readPlace", "(LQuarrelMiles$Land;)Z"⟩, 6), (⟨"QuarrelMiles$Reader", "refuse", "()Z"⟩, 6), (⟨"QuarrelMiles$Reader", "fail", "(II)Z"⟩, 6), (⟨"QuarrelMiles$Reader", "readNewName", "([JI)Z"⟩, 6), (⟨"QuarrelMiles$Reader", "readNumberBehind", "(III)Z"⟩, 6), (⟨"QuarrelMiles$Reader", "expect", "(I)Z"⟩, 6), (⟨"QuarrelMiles$Reader", "readNumber", "(II)Z"⟩, 6), (⟨"QuarrelMiles$Reader", "readWay", "(LQuarrelMiles$Land;)Z"⟩, 6), (⟨"QuarrelMiles$Reader", "readPlaceName", "(LQuarrelMiles$Land;I)Z"⟩, 6)]
theorem lw_r1 : ∀ q ∈ lw_privs_1, lw_okq q := List.forall_mem_cons.mpr ⟨lw_p0, List.forall_mem_cons.mpr ⟨lw_p1, List.forall_mem_cons.mpr ⟨lw_p2, List.forall_mem_cons.mpr ⟨lw_p3, List.forall_mem_cons.mpr ⟨lw_p4, List.forall_mem_cons.mpr ⟨lw_p5, List.forall_mem_cons.mpr ⟨lw_p6, List.forall_mem_cons.mpr ⟨lw_p7, List.forall_mem_cons.mpr ⟨lw_p8, List.forall_mem_cons.mpr ⟨lw_p9, List.forall_mem_cons.mpr ⟨lw_p10, List.forall_mem_cons.mpr ⟨lw_p11, List.forall_mem_cons.mpr ⟨lw_p12, List.forall_mem_cons.mpr ⟨lw_p13, List.forall_mem_cons.mpr ⟨lw_p14, List.forall_mem_cons.mpr ⟨lw_p15, fun _ h => absurd h List.not_mem_nil⟩⟩⟩⟩⟩⟩⟩⟩⟩⟩⟩⟩⟩⟩⟩⟩
theorem lw_p16 : lw_okq (⟨"QuarrelMiles$Reader", "readSight", "()Z"⟩, 6) := ⟨⟨by decide +kernel, by decide +kernel⟩, List.mem_of_getElem? (i := 170) (by decide +kernel), List.mem_of_getElem? (i := 700) (by decide +kernel), List.mem_of_getElem? (i := 701) (by decide +kernel)⟩
theorem lw_p17 : lw_okq (⟨"QuarrelMiles$Reader", "readSoul", "(LQuarrelMiles$Land;)Z"⟩, 6) := ⟨⟨by decide +kernel, by decide +kernel⟩, List.mem_of_getElem? (i := 170) (by decide +kernel), List.mem_of_getElem? (i := 704) (by decide +kernel), List.mem_of_getElem? (i := 705) (by decide +kernel)⟩
theorem lw_p18 : lw_okq (⟨"QuarrelMiles$Reader", "readMatter", "(LQuarrelMiles$Land;)Z"⟩, 6) := ⟨⟨by decide +kernel, by decide +kernel⟩, List.mem_of_getElem? (i := 170) (by decide +kernel), List.mem_of_getElem? (i := 708) (by decide +kernel), List.mem_of_getElem? (i := 709) (by decide +kernel)⟩
theorem lw_p19 : lw_okq (⟨"QuarrelMiles$Reader", "readRule", "(LQuarrelMiles$Formula;)Z"⟩, 6) := ⟨⟨by decide +kernel, by decide +kernel⟩, List.mem_of_getElem? (i := 170) (by decide +kernel), List.mem_of_getElem? (i := 712) (by decide +kernel), List.mem_of_getElem? (i := 713) (by decide +kernel)⟩
theorem lw_p20 : lw_okq (⟨"QuarrelMiles$FormulaReader", "settle", "(LQuarrelMiles$Formula;I)V"⟩, 5) := ⟨⟨by decide +kernel, by decide +kernel⟩, List.mem_of_getElem? (i := 210) (by decide +kernel), List.mem_of_getElem? (i := 725) (by decide +kernel), List.mem_of_getElem? (i := 726) (by decide +kernel)⟩
theorem lw_p21 : lw_okq (⟨"QuarrelMiles$FormulaReader", "bindingOnTop", "()I"⟩, 5) := ⟨⟨by decide +kernel, by decide +kernel⟩, List.mem_of_getElem? (i := 210) (by decide +kernel), List.mem_of_getElem? (i := 729) (by decide +kernel), List.mem_of_getElem? (i := 730) (by decide +kernel)⟩
theorem lw_p22 : lw_okq (⟨"QuarrelMiles$Formula", "add", "(I)V"⟩, 4) := ⟨⟨by decide +kernel, by decide +kernel⟩, List.mem_of_getElem? (i := 35) (by decide +kernel), List.mem_of_getElem? (i := 740) (by decide +kernel), List.mem_of_getElem? (i := 741) (by decide +kernel)⟩
theorem lw_p23 : lw_okq (⟨"QuarrelMiles$FormulaReader", "readBehindUnit", "(LQuarrelMiles$Formula;)I"⟩, 5) := ⟨⟨by decide +kernel, by decide +kernel⟩, List.mem_of_getElem? (i := 210) (by decide +kernel), List.mem_of_getElem? (i := 744) (by decide +kernel), List.mem_of_getElem? (i := 745) (by decide +kernel)⟩
theorem lw_p24 : lw_okq (⟨"QuarrelMiles$FormulaReader", "await", "(I)Z"⟩, 5) := ⟨⟨by decide +kernel, by decide +kernel⟩, List.mem_of_getElem? (i := 210) (by decide +kernel), List.mem_of_getElem? (i := 748) (by decide +kernel), List.mem_of_getElem? (i := 749) (by decide +kernel)⟩
theorem lw_p25 : lw_okq (⟨"QuarrelMiles$FormulaReader", "readUnit", "(LQuarrelMiles$Formula;I)I"⟩, 5) := ⟨⟨by decide +kernel, by decide +kernel⟩, List.mem_of_getElem? (i := 210) (by decide +kernel), List.mem_of_getElem? (i := 752) (by decide +kernel), List.mem_of_getElem? (i := 753) (by decide +kernel)⟩
theorem lw_p26 : lw_okq (⟨"QuarrelMiles$FormulaReader", "nest", "(I)Z"⟩, 5) := ⟨⟨by decide +kernel, by decide +kernel⟩, List.mem_of_getElem? (i := 210) (by decide +kernel), List.mem_of_getElem? (i := 756) (by decide +kernel), List.mem_of_getElem? (i := 757) (by decide +kernel)⟩
theorem lw_p27 : lw_okq (⟨"QuarrelMiles$Reader", "readDraw", "(LQuarrelMiles$Land;)Z"⟩, 6) := ⟨⟨by decide +kernel, by decide +kernel⟩, List.mem_of_getElem? (i := 170) (by decide +kernel), List.mem_of_getElem? (i := 772) (by decide +kernel), List.mem_of_getElem? (i := 773) (by decide +kernel)⟩
theorem lw_p28 : lw_okq (⟨"QuarrelMiles$Earnest", "keepAct", "()V"⟩, 14) := ⟨⟨by decide +kernel, by decide +kernel⟩, List.mem_of_getElem? (i := 253) (by decide +kernel), List.mem_of_getElem? (i := 868) (by decide +kernel), List.mem_of_getElem? (i := 869) (by decide +kernel)⟩
theorem lw_p29 : lw_okq (⟨"QuarrelMiles$Earnest", "sayOne", "()V"⟩, 14) := ⟨⟨by decide +kernel, by decide +kernel⟩, List.mem_of_getElem? (i := 253) (by decide +kernel), List.mem_of_getElem? (i := 895) (by decide +kernel), List.mem_of_getElem? (i := 896) (by decide +kernel)⟩
theorem lw_p30 : lw_okq (⟨"QuarrelMiles$Earnest", "bring", "([II)V"⟩, 14) := ⟨⟨by decide +kernel, by decide +kernel⟩, List.mem_of_getElem? (i := 253) (by decide +kernel), List.mem_of_getElem? (i := 933) (by decide +kernel), List.mem_of_getElem? (i := 934) (by decide +kernel)⟩
theorem lw_p31 : lw_okq (⟨"QuarrelMiles$Stroll", "lengthOf", "(I)I"⟩, 4) := ⟨⟨by decide +kernel, by decide +kernel⟩, List.mem_of_getElem? (i := 387) (by decide +kernel), List.mem_of_getElem? (i := 975) (by decide +kernel), List.mem_of_getElem? (i := 976) (by decide +kernel)⟩
def lw_privs_2 : List (MethodName × Nat) := [(⟨"QuarrelMiles$Reader", "readSight", "()Z"⟩, 6), (⟨"QuarrelMiles$Reader", "readSoul", "(LQuarrelMiles$Land;)Z"⟩, 6), (⟨"QuarrelMiles$Reader", "readMatter", "(LQuarrelMiles$Land;)Z"⟩, 6), (⟨"QuarrelMiles$Reader", "readRule", "(LQuarrelMiles$Formula;)Z"⟩, 6), (⟨"QuarrelMiles$FormulaReader", "settle", "(LQuarrelMiles$Formula;I)V"⟩, 5), (⟨"QuarrelMiles$FormulaReader", "bindingOnTop", "()I"⟩, 5), (⟨"QuarrelMiles$Formula", "add", "(I)V"⟩, 4), (⟨"QuarrelMiles$FormulaReader", "readBehindUnit", "(LQuarrelMiles$Formula;)I"⟩, 5), (⟨"QuarrelMiles$FormulaReader", "await", "(I)Z"⟩, 5), (⟨"QuarrelMiles$FormulaReader", "readUnit", "(LQuarrelMiles$Formula;I)I"⟩, 5), (⟨"QuarrelMiles$FormulaReader", "nest", "(I)Z"⟩, 5), (⟨"QuarrelMiles$Reader", "readDraw", "(LQuarrelMiles$Land;)Z"⟩, 6), (⟨"QuarrelMiles$Earnest", "keepAct", "()V"⟩, 14), (⟨"QuarrelMiles$Earnest", "sayOne", "()V"⟩, 14), (⟨"QuarrelMiles$Earnest", "bring", "([II)V"⟩, 14), (⟨"QuarrelMiles$Stroll", "lengthOf", "(I)I"⟩, 4)]
theorem lw_r2 : ∀ q ∈ lw_privs_2, lw_okq q := List.forall_mem_cons.mpr ⟨lw_p16, List.forall_mem_cons.mpr ⟨lw_p17, List.forall_mem_cons.mpr ⟨lw_p18, List.forall_mem_cons.mpr ⟨lw_p19, List.forall_mem_cons.mpr ⟨lw_p20, List.forall_mem_cons.mpr ⟨lw_p21, List.forall_mem_cons.mpr ⟨lw_p22, List.forall_mem_cons.mpr ⟨lw_p23, List.forall_mem_cons.mpr ⟨lw_p24, List.forall_mem_cons.mpr ⟨lw_p25, List.forall_mem_cons.mpr ⟨lw_p26, List.forall_mem_cons.mpr ⟨lw_p27, List.forall_mem_cons.mpr ⟨lw_p28, List.forall_mem_cons.mpr ⟨lw_p29, List.forall_mem_cons.mpr ⟨lw_p30, List.forall_mem_cons.mpr ⟨lw_p31, fun _ h => absurd h List.not_mem_nil⟩⟩⟩⟩⟩⟩⟩⟩⟩⟩⟩⟩⟩⟩⟩⟩
theorem lw_p32 : lw_okq (⟨"QuarrelMiles$Finder", "findPath", "(II)I"⟩, 20) := ⟨⟨by decide +kernel, by decide +kernel⟩, List.mem_of_getElem? (i := 412) (by decide +kernel), List.mem_of_getElem? (i := 991) (by decide +kernel), List.mem_of_getElem? (i := 992) (by decide +kernel)⟩
theorem lw_p33 : lw_okq (⟨"QuarrelMiles$Finder", "lookHowFar", "(I)V"⟩, 20) := ⟨⟨by decide +kernel, by decide +kernel⟩, List.mem_of_getElem? (i := 412) (by decide +kernel), List.mem_of_getElem? (i := 996) (by decide +kernel), List.mem_of_getElem? (i := 997) (by decide +kernel)⟩
theorem lw_p34 : lw_okq (⟨"QuarrelMiles$Finder", "firstWayNearer", "(I)I"⟩, 20) := ⟨⟨by decide +kernel, by decide +kernel⟩, List.mem_of_getElem? (i := 412) (by decide +kernel), List.mem_of_getElem? (i := 1003) (by decide +kernel), List.mem_of_getElem? (i := 1004) (by decide +kernel)⟩
theorem lw_p35 : lw_okq (⟨"QuarrelMiles$Finder", "lay", "(I)V"⟩, 20) := ⟨⟨by decide +kernel, by decide +kernel⟩, List.mem_of_getElem? (i := 412) (by decide +kernel), List.mem_of_getElem? (i := 1009) (by decide +kernel), List.mem_of_getElem? (i := 1010) (by decide +kernel)⟩
theorem lw_p36 : lw_okq (⟨"QuarrelMiles$Finder", "endsJustBehindPath", "(I)Z"⟩, 20) := ⟨⟨by decide +kernel, by decide +kernel⟩, List.mem_of_getElem? (i := 412) (by decide +kernel), List.mem_of_getElem? (i := 1026) (by decide +kernel), List.mem_of_getElem? (i := 1027) (by decide +kernel)⟩
theorem lw_p37 : lw_okq (⟨"QuarrelMiles$Finder", "coverByOne", "()Z"⟩, 20) := ⟨⟨by decide +kernel, by decide +kernel⟩, List.mem_of_getElem? (i := 412) (by decide +kernel), List.mem_of_getElem? (i := 1080) (by decide +kernel), List.mem_of_getElem? (i := 1081) (by decide +kernel)⟩
theorem lw_p38 : lw_okq (⟨"QuarrelMiles$Finder", "firstCovering", "(II)I"⟩, 20) := ⟨⟨by decide +kernel, by decide +kernel⟩, List.mem_of_getElem? (i := 412) (by decide +kernel), List.mem_of_getElem? (i := 1084) (by decide +kernel), List.mem_of_getElem? (i := 1085) (by decide +kernel)⟩
theorem lw_p39 : lw_okq (⟨"QuarrelMiles$Finder", "coverByTwo", "()Z"⟩, 20) := ⟨⟨by decide +kernel, by decide +kernel⟩, List.mem_of_getElem? (i := 412) (by decide +kernel), List.mem_of_getElem? (i := 1089) (by decide +kernel), List.mem_of_getElem? (i := 1090) (by decide +kernel)⟩
theorem lw_p40 : lw_okq (⟨"QuarrelMiles$Finder", "coverByThree", "()Z"⟩, 20) := ⟨⟨by decide +kernel, by decide +kernel⟩, List.mem_of_getElem? (i := 412) (by decide +kernel), List.mem_of_getElem? (i := 1093) (by decide +kernel), List.mem_of_getElem? (i := 1094) (by decide +kernel)⟩
theorem lw_p41 : lw_okq (⟨"QuarrelMiles$Finder", "openLength", "(I)I"⟩, 20) := ⟨⟨by decide +kernel, by decide +kernel⟩, List.mem_of_getElem? (i := 412) (by decide +kernel), List.mem_of_getElem? (i := 1105) (by decide +kernel), List.mem_of_getElem? (i := 1106) (by decide +kernel)⟩
theorem lw_p42 : lw_okq (⟨"QuarrelMiles$Finder", "searchHome", "(I)V"⟩, 20) := ⟨⟨by decide +kernel, by decide +kernel⟩, List.mem_of_getElem? (i := 412) (by decide +kernel), List.mem_of_getElem? (i := 1126) (by decide +kernel), List.mem_of_getElem? (i := 1127) (by decide +kernel)⟩
theorem lw_p43 : lw_okq (⟨"QuarrelMiles$Finder", "goesOn", "(I)Z"⟩, 20) := ⟨⟨by decide +kernel, by decide +kernel⟩, List.mem_of_getElem? (i := 412) (by decide +kernel), List.mem_of_getElem? (i := 1130) (by decide +kernel), List.mem_of_getElem? (i := 1131) (by decide +kernel)⟩
theorem lw_p44 : lw_okq (⟨"QuarrelMiles$Finder", "layRow", "(I)V"⟩, 20) := ⟨⟨by decide +kernel, by decide +kernel⟩, List.mem_of_getElem? (i := 412) (by decide +kernel), List.mem_of_getElem? (i := 1137) (by decide +kernel), List.mem_of_getElem? (i := 1138) (by decide +kernel)⟩
theorem lw_p45 : lw_okq (⟨"QuarrelMiles$Finder", "setBounds", "(I)V"⟩, 20) := ⟨⟨by decide +kernel, by decide +kernel⟩, List.mem_of_getElem? (i := 412) (by decide +kernel), List.mem_of_getElem? (i := 1149) (by decide +kernel), List.mem_of_getElem? (i := 1150) (by decide +kernel)⟩
theorem lw_p46 : lw_okq (⟨"QuarrelMiles$Finder", "temperNow", "(II)I"⟩, 20) := ⟨⟨by decide +kernel, by decide +kernel⟩, List.mem_of_getElem? (i := 412) (by decide +kernel), List.mem_of_getElem? (i := 1157) (by decide +kernel), List.mem_of_getElem? (i := 1158) (by decide +kernel)⟩
theorem lw_p47 : lw_okq (⟨"QuarrelMiles$Finder", "layChanged", "(II)Z"⟩, 20) := ⟨⟨by decide +kernel, by decide +kernel⟩, List.mem_of_getElem? (i := 412) (by decide +kernel), List.mem_of_getElem? (i := 1164) (by decide +kernel), List.mem_of_getElem? (i := 1165) (by decide +kernel)⟩
def lw_privs_3 : List (MethodName × Nat) := [(⟨"QuarrelMiles$Finder", "findPath", "(II)I"⟩, 20), (⟨"QuarrelMiles$Finder", "lookHowFar", "(I)V"⟩, 20), (⟨"QuarrelMiles$Finder", "firstWayNearer", "(I)I"⟩, 20), (⟨"QuarrelMiles$Finder", "lay", "(I)V"⟩, 20), (⟨"QuarrelMiles$Finder", "endsJustBehindPath", "(I)Z"⟩, 20), (⟨"QuarrelMiles$Finder", "coverByOne", "()Z"⟩, 20), (⟨"QuarrelMiles$Finder", "firstCovering", "(II)I"⟩, 20), (⟨"QuarrelMiles$Finder", "coverByTwo", "()Z"⟩, 20), (⟨"QuarrelMiles$Finder", "coverByThree", "()Z"⟩, 20), (⟨"QuarrelMiles$Finder", "openLength", "(I)I"⟩, 20), (⟨"QuarrelMiles$Finder", "searchHome", "(I)V"⟩, 20), (⟨"QuarrelMiles$Finder", "goesOn", "(I)Z"⟩, 20), (⟨"QuarrelMiles$Finder", "layRow", "(I)V"⟩, 20), (⟨"QuarrelMiles$Finder", "setBounds", "(I)V"⟩, 20), (⟨"QuarrelMiles$Finder", "temperNow", "(II)I"⟩, 20), (⟨"QuarrelMiles$Finder", "layChanged", "(II)Z"⟩, 20)]
theorem lw_r3 : ∀ q ∈ lw_privs_3, lw_okq q := List.forall_mem_cons.mpr ⟨lw_p32, List.forall_mem_cons.mpr ⟨lw_p33, List.forall_mem_cons.mpr ⟨lw_p34, List.forall_mem_cons.mpr ⟨lw_p35, List.forall_mem_cons.mpr ⟨lw_p36, List.forall_mem_cons.mpr ⟨lw_p37, List.forall_mem_cons.mpr ⟨lw_p38, List.forall_mem_cons.mpr ⟨lw_p39, List.forall_mem_cons.mpr ⟨lw_p40, List.forall_mem_cons.mpr ⟨lw_p41, List.forall_mem_cons.mpr ⟨lw_p42, List.forall_mem_cons.mpr ⟨lw_p43, List.forall_mem_cons.mpr ⟨lw_p44, List.forall_mem_cons.mpr ⟨lw_p45, List.forall_mem_cons.mpr ⟨lw_p46, List.forall_mem_cons.mpr ⟨lw_p47, fun _ h => absurd h List.not_mem_nil⟩⟩⟩⟩⟩⟩⟩⟩⟩⟩⟩⟩⟩⟩⟩⟩
theorem lw_p48 : lw_okq (⟨"QuarrelMiles$Finder", "tryTemper", "(III)V"⟩, 20) := ⟨⟨by decide +kernel, by decide +kernel⟩, List.mem_of_getElem? (i := 412) (by decide +kernel), List.mem_of_getElem? (i := 1171) (by decide +kernel), List.mem_of_getElem? (i := 1172) (by decide +kernel)⟩
theorem lw_p49 : lw_okq (⟨"QuarrelMiles$Finder", "layIfLong", "(II)Z"⟩, 20) := ⟨⟨by decide +kernel, by decide +kernel⟩, List.mem_of_getElem? (i := 412) (by decide +kernel), List.mem_of_getElem? (i := 1175) (by decide +kernel), List.mem_of_getElem? (i := 1176) (by decide +kernel)⟩
theorem lw_p50 : lw_okq (⟨"QuarrelMiles$Reports", "toldLength", "(I)I"⟩, 7) := ⟨⟨by decide +kernel, by decide +kernel⟩, List.mem_of_getElem? (i := 484) (by decide +kernel), List.mem_of_getElem? (i := 1195) (by decide +kernel), List.mem_of_getElem? (i := 1196) (by decide +kernel)⟩
theorem lw_p51 : lw_okq (⟨"QuarrelMiles$Reports", "mostLeft", "(IJ)I"⟩, 7) := ⟨⟨by decide +kernel, by decide +kernel⟩, List.mem_of_getElem? (i := 484) (by decide +kernel), List.mem_of_getElem? (i := 1241) (by decide +kernel), List.mem_of_getElem? (i := 1242) (by decide +kernel)⟩
theorem lw_p52 : lw_okq (⟨"QuarrelMiles$Earnest", "wordsInAll", "()I"⟩, 14) := ⟨⟨by decide +kernel, by decide +kernel⟩, List.mem_of_getElem? (i := 253) (by decide +kernel), List.mem_of_getElem? (i := 1260) (by decide +kernel), List.mem_of_getElem? (i := 1261) (by decide +kernel)⟩
theorem lw_p53 : lw_okq (⟨"QuarrelMilesModel", "clearBank", "()V"⟩, 84) := ⟨⟨by decide +kernel, by decide +kernel⟩, List.mem_of_getElem? (i := 1276) (by decide +kernel), List.mem_of_getElem? (i := 1282) (by decide +kernel), List.mem_of_getElem? (i := 1283) (by decide +kernel)⟩
theorem lw_p54 : lw_okq (⟨"QuarrelMilesModel", "startAnew", "()V"⟩, 84) := ⟨⟨by decide +kernel, by decide +kernel⟩, List.mem_of_getElem? (i := 1276) (by decide +kernel), List.mem_of_getElem? (i := 1286) (by decide +kernel), List.mem_of_getElem? (i := 1287) (by decide +kernel)⟩
theorem lw_p55 : lw_okq (⟨"QuarrelMilesModel", "soulMany", "()I"⟩, 84) := ⟨⟨by decide +kernel, by decide +kernel⟩, List.mem_of_getElem? (i := 1276) (by decide +kernel), List.mem_of_getElem? (i := 1290) (by decide +kernel), List.mem_of_getElem? (i := 1291) (by decide +kernel)⟩
theorem lw_p56 : lw_okq (⟨"QuarrelMilesModel", "goOn", "()V"⟩, 84) := ⟨⟨by decide +kernel, by decide +kernel⟩, List.mem_of_getElem? (i := 1276) (by decide +kernel), List.mem_of_getElem? (i := 1551) (by decide +kernel), List.mem_of_getElem? (i := 1552) (by decide +kernel)⟩
theorem lw_p57 : lw_okq (⟨"QuarrelMilesModel", "sign", "(I)I"⟩, 84) := ⟨⟨by decide +kernel, by decide +kernel⟩, List.mem_of_getElem? (i := 1276) (by decide +kernel), List.mem_of_getElem? (i := 1555) (by decide +kernel), List.mem_of_getElem? (i := 1556) (by decide +kernel)⟩
theorem lw_p58 : lw_okq (⟨"QuarrelMilesModel", "isGood", "()Z"⟩, 84) := ⟨⟨by decide +kernel, by decide +kernel⟩, List.mem_of_getElem? (i := 1276) (by decide +kernel), List.mem_of_getElem? (i := 1592) (by decide +kernel), List.mem_of_getElem? (i := 1593) (by decide +kernel)⟩
theorem lw_p59 : lw_okq (⟨"QuarrelMilesModel", "readLine", "()V"⟩, 84) := ⟨⟨by decide +kernel, by decide +kernel⟩, List.mem_of_getElem? (i := 1276) (by decide +kernel), List.mem_of_getElem? (i := 1596) (by decide +kernel), List.mem_of_getElem? (i := 1597) (by decide +kernel)⟩
theorem lw_p60 : lw_okq (⟨"QuarrelMilesModel", "isFull", "()Z"⟩, 84) := ⟨⟨by decide +kernel, by decide +kernel⟩, List.mem_of_getElem? (i := 1276) (by decide +kernel), List.mem_of_getElem? (i := 1600) (by decide +kernel), List.mem_of_getElem? (i := 1601) (by decide +kernel)⟩
theorem lw_p61 : lw_okq (⟨"QuarrelMilesModel", "isWord", "(J)Z"⟩, 84) := ⟨⟨by decide +kernel, by decide +kernel⟩, List.mem_of_getElem? (i := 1276) (by decide +kernel), List.mem_of_getElem? (i := 1604) (by decide +kernel), List.mem_of_getElem? (i := 1605) (by decide +kernel)⟩
theorem lw_p62 : lw_okq (⟨"QuarrelMilesModel", "misplaced", "()V"⟩, 84) := ⟨⟨by decide +kernel, by decide +kernel⟩, List.mem_of_getElem? (i := 1276) (by decide +kernel), List.mem_of_getElem? (i := 1608) (by decide +kernel), List.mem_of_getElem? (i := 1609) (by decide +kernel)⟩
theorem lw_p63 : lw_okq (⟨"QuarrelMilesModel", "fails", "(II)V"⟩, 84) := ⟨⟨by decide +kernel, by decide +kernel⟩, List.mem_of_getElem? (i := 1276) (by decide +kernel), List.mem_of_getElem? (i := 1612) (by decide +kernel), List.mem_of_getElem? (i := 1613) (by decide +kernel)⟩
def lw_privs_4 : List (MethodName × Nat) := [(⟨"QuarrelMiles$Finder", "tryTemper", "(III)V"⟩, 20), (⟨"QuarrelMiles$Finder", "layIfLong", "(II)Z"⟩, 20), (⟨"QuarrelMiles$Reports", "toldLength", "(I)I"⟩, 7), (⟨"QuarrelMiles$Reports", "mostLeft", "(IJ)I"⟩, 7), (⟨"QuarrelMiles$Earnest", "wordsInAll", "()I"⟩, 14), (⟨"QuarrelMilesModel", "clearBank", "()V"⟩, 84), (⟨"QuarrelMilesModel", "startAnew", "()V"⟩, 84), (⟨"QuarrelMilesModel", "soulMany", "()I"⟩, 84), (⟨"QuarrelMilesModel", "goOn", "()V"⟩, 84), (⟨"QuarrelMilesModel", "sign", "(I)I"⟩, 84), (⟨"QuarrelMilesModel", "isGood", "()Z"⟩, 84), (⟨"QuarrelMilesModel", "readLine", "()V"⟩, 84), (⟨"QuarrelMilesModel", "isFull", "()Z"⟩, 84), (⟨"QuarrelMilesModel", "isWord", "(J)Z"⟩, 84), (⟨"QuarrelMilesModel", "misplaced", "()V"⟩, 84), (⟨"QuarrelMilesModel", "fails", "(II)V"⟩, 84)]
theorem lw_r4 : ∀ q ∈ lw_privs_4, lw_okq q := List.forall_mem_cons.mpr ⟨lw_p48, List.forall_mem_cons.mpr ⟨lw_p49, List.forall_mem_cons.mpr ⟨lw_p50, List.forall_mem_cons.mpr ⟨lw_p51, List.forall_mem_cons.mpr ⟨lw_p52, List.forall_mem_cons.mpr ⟨lw_p53, List.forall_mem_cons.mpr ⟨lw_p54, List.forall_mem_cons.mpr ⟨lw_p55, List.forall_mem_cons.mpr ⟨lw_p56, List.forall_mem_cons.mpr ⟨lw_p57, List.forall_mem_cons.mpr ⟨lw_p58, List.forall_mem_cons.mpr ⟨lw_p59, List.forall_mem_cons.mpr ⟨lw_p60, List.forall_mem_cons.mpr ⟨lw_p61, List.forall_mem_cons.mpr ⟨lw_p62, List.forall_mem_cons.mpr ⟨lw_p63, fun _ h => absurd h List.not_mem_nil⟩⟩⟩⟩⟩⟩⟩⟩⟩⟩⟩⟩⟩⟩⟩⟩
theorem lw_p64 : lw_okq (⟨"QuarrelMilesModel", "readPlace", "()V"⟩, 84) := ⟨⟨by decide +kernel, by decide +kernel⟩, List.mem_of_getElem? (i := 1276) (by decide +kernel), List.mem_of_getElem? (i := 1616) (by decide +kernel), List.mem_of_getElem? (i := 1617) (by decide +kernel)⟩
theorem lw_p65 : lw_okq (⟨"QuarrelMilesModel", "here", "([JII)I"⟩, 84) := ⟨⟨by decide +kernel, by decide +kernel⟩, List.mem_of_getElem? (i := 1276) (by decide +kernel), List.mem_of_getElem? (i := 1620) (by decide +kernel), List.mem_of_getElem? (i := 1621) (by decide +kernel)⟩
theorem lw_p66 : lw_okq (⟨"QuarrelMilesModel", "fresh", "(I)J"⟩, 84) := ⟨⟨by decide +kernel, by decide +kernel⟩, List.mem_of_getElem? (i := 1276) (by decide +kernel), List.mem_of_getElem? (i := 1624) (by decide +kernel), List.mem_of_getElem? (i := 1625) (by decide +kernel)⟩
theorem lw_p67 : lw_okq (⟨"QuarrelMilesModel", "after", "(JII)I"⟩, 84) := ⟨⟨by decide +kernel, by decide +kernel⟩, List.mem_of_getElem? (i := 1276) (by decide +kernel), List.mem_of_getElem? (i := 1628) (by decide +kernel), List.mem_of_getElem? (i := 1629) (by decide +kernel)⟩
theorem lw_p68 : lw_okq (⟨"QuarrelMilesModel", "must", "(Z)V"⟩, 84) := ⟨⟨by decide +kernel, by decide +kernel⟩, List.mem_of_getElem? (i := 1276) (by decide +kernel), List.mem_of_getElem? (i := 1632) (by decide +kernel), List.mem_of_getElem? (i := 1633) (by decide +kernel)⟩
theorem lw_p69 : lw_okq (⟨"QuarrelMilesModel", "numeral", "(II)I"⟩, 84) := ⟨⟨by decide +kernel, by decide +kernel⟩, List.mem_of_getElem? (i := 1276) (by decide +kernel), List.mem_of_getElem? (i := 1636) (by decide +kernel), List.mem_of_getElem? (i := 1637) (by decide +kernel)⟩
theorem lw_p70 : lw_okq (⟨"QuarrelMilesModel", "readWay", "()V"⟩, 84) := ⟨⟨by decide +kernel, by decide +kernel⟩, List.mem_of_getElem? (i := 1276) (by decide +kernel), List.mem_of_getElem? (i := 1640) (by decide +kernel), List.mem_of_getElem? (i := 1641) (by decide +kernel)⟩
theorem lw_p71 : lw_okq (⟨"QuarrelMilesModel", "known", "()I"⟩, 84) := ⟨⟨by decide +kernel, by decide +kernel⟩, List.mem_of_getElem? (i := 1276) (by decide +kernel), List.mem_of_getElem? (i := 1644) (by decide +kernel), List.mem_of_getElem? (i := 1645) (by decide +kernel)⟩
theorem lw_p72 : lw_okq (⟨"QuarrelMilesModel", "signedNumber", "()I"⟩, 84) := ⟨⟨by decide +kernel, by decide +kernel⟩, List.mem_of_getElem? (i := 1276) (by decide +kernel), List.mem_of_getElem? (i := 1648) (by decide +kernel), List.mem_of_getElem? (i := 1649) (by decide +kernel)⟩
theorem lw_p73 : lw_okq (⟨"QuarrelMilesModel", "isSignHere", "(I)Z"⟩, 84) := ⟨⟨by decide +kernel, by decide +kernel⟩, List.mem_of_getElem? (i := 1276) (by decide +kernel), List.mem_of_getElem? (i := 1652) (by decide +kernel), List.mem_of_getElem? (i := 1653) (by decide +kernel)⟩
theorem lw_p74 : lw_okq (⟨"QuarrelMilesModel", "readSoul", "()V"⟩, 84) := ⟨⟨by decide +kernel, by decide +kernel⟩, List.mem_of_getElem? (i := 1276) (by decide +kernel), List.mem_of_getElem? (i := 1656) (by decide +kernel), List.mem_of_getElem? (i := 1657) (by decide +kernel)⟩
theorem lw_p75 : lw_okq (⟨"QuarrelMilesModel", "readMatter", "()V"⟩, 84) := ⟨⟨by decide +kernel, by decide +kernel⟩, List.mem_of_getElem? (i := 1276) (by decide +kernel), List.mem_of_getElem? (i := 1660) (by decide +kernel), List.mem_of_getElem? (i := 1661) (by decide +kernel)⟩
theorem lw_p76 : lw_okq (⟨"QuarrelMilesModel", "readRule", "(I)V"⟩, 84) := ⟨⟨by decide +kernel, by decide +kernel⟩, List.mem_of_getElem? (i := 1276) (by decide +kernel), List.mem_of_getElem? (i := 1664) (by decide +kernel), List.mem_of_getElem? (i := 1665) (by decide +kernel)⟩
theorem lw_p77 : lw_okq (⟨"QuarrelMilesModel", "e", "()V"⟩, 84) := ⟨⟨by decide +kernel, by decide +kernel⟩, List.mem_of_getElem? (i := 1276) (by decide +kernel), List.mem_of_getElem? (i := 1668) (by decide +kernel), List.mem_of_getElem? (i := 1669) (by decide +kernel)⟩
theorem lw_p78 : lw_okq (⟨"QuarrelMilesModel", "pushE", "(II)V"⟩, 84) := ⟨⟨by decide +kernel, by decide +kernel⟩, List.mem_of_getElem? (i := 1276) (by decide +kernel), List.mem_of_getElem? (i := 1672) (by decide +kernel), List.mem_of_getElem? (i := 1673) (by decide +kernel)⟩
theorem lw_p79 : lw_okq (⟨"QuarrelMilesModel", "unit", "()Z"⟩, 84) := ⟨⟨by decide +kernel, by decide +kernel⟩, List.mem_of_getElem? (i := 1276) (by decide +kernel), List.mem_of_getElem? (i := 1676) (by decide +kernel), List.mem_of_getElem? (i := 1677) (by decide +kernel)⟩
def lw_privs_5 : List (MethodName × Nat) := [(⟨"QuarrelMilesModel", "readPlace", "()V"⟩, 84), (⟨"QuarrelMilesModel", "here", "([JII)I"⟩, 84), (⟨"QuarrelMilesModel", "fresh", "(I)J"⟩, 84), (⟨"QuarrelMilesModel", "after", "(JII)I"⟩, 84), (⟨"QuarrelMilesModel", "must", "(Z)V"⟩, 84), (⟨"QuarrelMilesModel", "numeral", "(II)I"⟩, 84), (⟨"QuarrelMilesModel", "readWay", "()V"⟩, 84), (⟨"QuarrelMilesModel", "known", "()I"⟩, 84), (⟨"QuarrelMilesModel", "signedNumber", "()I"⟩, 84), (⟨"QuarrelMilesModel", "isSignHere", "(I)Z"⟩, 84), (⟨"QuarrelMilesModel", "readSoul", "()V"⟩, 84), (⟨"QuarrelMilesModel", "readMatter", "()V"⟩, 84), (⟨"QuarrelMilesModel", "readRule", "(I)V"⟩, 84), (⟨"QuarrelMilesModel", "e", "()V"⟩, 84), (⟨"QuarrelMilesModel", "pushE", "(II)V"⟩, 84), (⟨"QuarrelMilesModel", "unit", "()Z"⟩, 84)]
theorem lw_r5 : ∀ q ∈ lw_privs_5, lw_okq q := List.forall_mem_cons.mpr ⟨lw_p64, List.forall_mem_cons.mpr ⟨lw_p65, List.forall_mem_cons.mpr ⟨lw_p66, List.forall_mem_cons.mpr ⟨lw_p67, List.forall_mem_cons.mpr ⟨lw_p68, List.forall_mem_cons.mpr ⟨lw_p69, List.forall_mem_cons.mpr ⟨lw_p70, List.forall_mem_cons.mpr ⟨lw_p71, List.forall_mem_cons.mpr ⟨lw_p72, List.forall_mem_cons.mpr ⟨lw_p73, List.forall_mem_cons.mpr ⟨lw_p74, List.forall_mem_cons.mpr ⟨lw_p75, List.forall_mem_cons.mpr ⟨lw_p76, List.forall_mem_cons.mpr ⟨lw_p77, List.forall_mem_cons.mpr ⟨lw_p78, List.forall_mem_cons.mpr ⟨lw_p79, fun _ h => absurd h List.not_mem_nil⟩⟩⟩⟩⟩⟩⟩⟩⟩⟩⟩⟩⟩⟩⟩⟩
theorem lw_p80 : lw_okq (⟨"QuarrelMilesModel", "wordHere", "()I"⟩, 84) := ⟨⟨by decide +kernel, by decide +kernel⟩, List.mem_of_getElem? (i := 1276) (by decide +kernel), List.mem_of_getElem? (i := 1680) (by decide +kernel), List.mem_of_getElem? (i := 1681) (by decide +kernel)⟩
theorem lw_p81 : lw_okq (⟨"QuarrelMilesModel", "emit", "(II)V"⟩, 84) := ⟨⟨by decide +kernel, by decide +kernel⟩, List.mem_of_getElem? (i := 1276) (by decide +kernel), List.mem_of_getElem? (i := 1684) (by decide +kernel), List.mem_of_getElem? (i := 1685) (by decide +kernel)⟩
theorem lw_p82 : lw_okq (⟨"QuarrelMilesModel", "behindUnit", "()Z"⟩, 84) := ⟨⟨by decide +kernel, by decide +kernel⟩, List.mem_of_getElem? (i := 1276) (by decide +kernel), List.mem_of_getElem? (i := 1688) (by decide +kernel), List.mem_of_getElem? (i := 1689) (by decide +kernel)⟩
theorem lw_p83 : lw_okq (⟨"QuarrelMilesModel", "rankHere", "()I"⟩, 84) := ⟨⟨by decide +kernel, by decide +kernel⟩, List.mem_of_getElem? (i := 1276) (by decide +kernel), List.mem_of_getElem? (i := 1692) (by decide +kernel), List.mem_of_getElem? (i := 1693) (by decide +kernel)⟩
theorem lw_p84 : lw_okq (⟨"QuarrelMilesModel", "isCompared", "()Z"⟩, 84) := ⟨⟨by decide +kernel, by decide +kernel⟩, List.mem_of_getElem? (i := 1276) (by decide +kernel), List.mem_of_getElem? (i := 1696) (by decide +kernel), List.mem_of_getElem? (i := 1697) (by decide +kernel)⟩
theorem lw_p85 : lw_okq (⟨"QuarrelMilesModel", "isCouple", "(III)Z"⟩, 84) := ⟨⟨by decide +kernel, by decide +kernel⟩, List.mem_of_getElem? (i := 1276) (by decide +kernel), List.mem_of_getElem? (i := 1708) (by decide +kernel), List.mem_of_getElem? (i := 1709) (by decide +kernel)⟩
theorem lw_p86 : lw_okq (⟨"QuarrelMilesModel", "openLength", "(III)I"⟩, 84) := ⟨⟨by decide +kernel, by decide +kernel⟩, List.mem_of_getElem? (i := 1276) (by decide +kernel), List.mem_of_getElem? (i := 1715) (by decide +kernel), List.mem_of_getElem? (i := 1716) (by decide +kernel)⟩
theorem lw_p87 : lw_okq (⟨"QuarrelMilesModel", "begin", "([IIII)V"⟩, 84) := ⟨⟨by decide +kernel, by decide +kernel⟩, List.mem_of_getElem? (i := 1276) (by decide +kernel), List.mem_of_getElem? (i := 1719) (by decide +kernel), List.mem_of_getElem? (i := 1720) (by decide +kernel)⟩
theorem lw_p88 : lw_okq (⟨"QuarrelMilesModel", "say", "([III)V"⟩, 84) := ⟨⟨by decide +kernel, by decide +kernel⟩, List.mem_of_getElem? (i := 1276) (by decide +kernel), List.mem_of_getElem? (i := 1723) (by decide +kernel), List.mem_of_getElem? (i := 1724) (by decide +kernel)⟩
theorem lw_p89 : lw_okq (⟨"QuarrelMilesModel", "temperOf", "(II)I"⟩, 84) := ⟨⟨by decide +kernel, by decide +kernel⟩, List.mem_of_getElem? (i := 1276) (by decide +kernel), List.mem_of_getElem? (i := 1727) (by decide +kernel), List.mem_of_getElem? (i := 1728) (by decide +kernel)⟩
theorem lw_p90 : lw_okq (⟨"QuarrelMilesModel", "comes", "(I)I"⟩, 84) := ⟨⟨by decide +kernel, by decide +kernel⟩, List.mem_of_getElem? (i := 1276) (by decide +kernel), List.mem_of_getElem? (i := 1731) (by decide +kernel), List.mem_of_getElem? (i := 1732) (by decide +kernel)⟩
theorem lw_p91 : lw_okq (⟨"QuarrelMilesModel", "asked", "(II)I"⟩, 84) := ⟨⟨by decide +kernel, by decide +kernel⟩, List.mem_of_getElem? (i := 1276) (by decide +kernel), List.mem_of_getElem? (i := 1735) (by decide +kernel), List.mem_of_getElem? (i := 1736) (by decide +kernel)⟩
theorem lw_p92 : lw_okq (⟨"QuarrelMilesModel", "isWay", "(I)Z"⟩, 84) := ⟨⟨by decide +kernel, by decide +kernel⟩, List.mem_of_getElem? (i := 1276) (by decide +kernel), List.mem_of_getElem? (i := 1763) (by decide +kernel), List.mem_of_getElem? (i := 1764) (by decide +kernel)⟩
theorem lw_p93 : lw_okq (⟨"QuarrelMilesModel", "fromOf", "(I)I"⟩, 84) := ⟨⟨by decide +kernel, by decide +kernel⟩, List.mem_of_getElem? (i := 1276) (by decide +kernel), List.mem_of_getElem? (i := 1767) (by decide +kernel), List.mem_of_getElem? (i := 1768) (by decide +kernel)⟩
theorem lw_p94 : lw_okq (⟨"QuarrelMilesModel", "toOf", "(I)I"⟩, 84) := ⟨⟨by decide +kernel, by decide +kernel⟩, List.mem_of_getElem? (i := 1276) (by decide +kernel), List.mem_of_getElem? (i := 1771) (by decide +kernel), List.mem_of_getElem? (i := 1772) (by decide +kernel)⟩
theorem lw_p95 : lw_okq (⟨"QuarrelMilesModel", "milesOf", "(I)I"⟩, 84) := ⟨⟨by decide +kernel, by decide +kernel⟩, List.mem_of_getElem? (i := 1276) (by decide +kernel), List.mem_of_getElem? (i := 1775) (by decide +kernel), List.mem_of_getElem? (i := 1776) (by decide +kernel)⟩
def lw_privs_6 : List (MethodName × Nat) := [(⟨"QuarrelMilesModel", "wordHere", "()I"⟩, 84), (⟨"QuarrelMilesModel", "emit", "(II)V"⟩, 84), (⟨"QuarrelMilesModel", "behindUnit", "()Z"⟩, 84), (⟨"QuarrelMilesModel", "rankHere", "()I"⟩, 84), (⟨"QuarrelMilesModel", "isCompared", "()Z"⟩, 84), (⟨"QuarrelMilesModel", "isCouple", "(III)Z"⟩, 84), (⟨"QuarrelMilesModel", "openLength", "(III)I"⟩, 84), (⟨"QuarrelMilesModel", "begin", "([IIII)V"⟩, 84), (⟨"QuarrelMilesModel", "say", "([III)V"⟩, 84), (⟨"QuarrelMilesModel", "temperOf", "(II)I"⟩, 84), (⟨"QuarrelMilesModel", "comes", "(I)I"⟩, 84), (⟨"QuarrelMilesModel", "asked", "(II)I"⟩, 84), (⟨"QuarrelMilesModel", "isWay", "(I)Z"⟩, 84), (⟨"QuarrelMilesModel", "fromOf", "(I)I"⟩, 84), (⟨"QuarrelMilesModel", "toOf", "(I)I"⟩, 84), (⟨"QuarrelMilesModel", "milesOf", "(I)I"⟩, 84)]
theorem lw_r6 : ∀ q ∈ lw_privs_6, lw_okq q := List.forall_mem_cons.mpr ⟨lw_p80, List.forall_mem_cons.mpr ⟨lw_p81, List.forall_mem_cons.mpr ⟨lw_p82, List.forall_mem_cons.mpr ⟨lw_p83, List.forall_mem_cons.mpr ⟨lw_p84, List.forall_mem_cons.mpr ⟨lw_p85, List.forall_mem_cons.mpr ⟨lw_p86, List.forall_mem_cons.mpr ⟨lw_p87, List.forall_mem_cons.mpr ⟨lw_p88, List.forall_mem_cons.mpr ⟨lw_p89, List.forall_mem_cons.mpr ⟨lw_p90, List.forall_mem_cons.mpr ⟨lw_p91, List.forall_mem_cons.mpr ⟨lw_p92, List.forall_mem_cons.mpr ⟨lw_p93, List.forall_mem_cons.mpr ⟨lw_p94, List.forall_mem_cons.mpr ⟨lw_p95, fun _ h => absurd h List.not_mem_nil⟩⟩⟩⟩⟩⟩⟩⟩⟩⟩⟩⟩⟩⟩⟩⟩
theorem lw_p96 : lw_okq (⟨"QuarrelMilesModel", "isPlace", "(I)Z"⟩, 84) := ⟨⟨by decide +kernel, by decide +kernel⟩, List.mem_of_getElem? (i := 1276) (by decide +kernel), List.mem_of_getElem? (i := 1783) (by decide +kernel), List.mem_of_getElem? (i := 1784) (by decide +kernel)⟩
theorem lw_p97 : lw_okq (⟨"QuarrelMilesModel", "keepAct", "()V"⟩, 84) := ⟨⟨by decide +kernel, by decide +kernel⟩, List.mem_of_getElem? (i := 1276) (by decide +kernel), List.mem_of_getElem? (i := 1787) (by decide +kernel), List.mem_of_getElem? (i := 1788) (by decide +kernel)⟩
theorem lw_p98 : lw_okq (⟨"QuarrelMilesModel", "doWalk", "()Z"⟩, 84) := ⟨⟨by decide +kernel, by decide +kernel⟩, List.mem_of_getElem? (i := 1276) (by decide +kernel), List.mem_of_getElem? (i := 1795) (by decide +kernel), List.mem_of_getElem? (i := 1796) (by decide +kernel)⟩
theorem lw_p99 : lw_okq (⟨"QuarrelMilesModel", "otherEnd", "(II)I"⟩, 84) := ⟨⟨by decide +kernel, by decide +kernel⟩, List.mem_of_getElem? (i := 1276) (by decide +kernel), List.mem_of_getElem? (i := 1799) (by decide +kernel), List.mem_of_getElem? (i := 1800) (by decide +kernel)⟩
theorem lw_p100 : lw_okq (⟨"QuarrelMilesModel", "exchange", "()V"⟩, 84) := ⟨⟨by decide +kernel, by decide +kernel⟩, List.mem_of_getElem? (i := 1276) (by decide +kernel), List.mem_of_getElem? (i := 1819) (by decide +kernel), List.mem_of_getElem? (i := 1820) (by decide +kernel)⟩
theorem lw_p101 : lw_okq (⟨"QuarrelMilesModel", "routeEnd", "()I"⟩, 84) := ⟨⟨by decide +kernel, by decide +kernel⟩, List.mem_of_getElem? (i := 1276) (by decide +kernel), List.mem_of_getElem? (i := 1839) (by decide +kernel), List.mem_of_getElem? (i := 1840) (by decide +kernel)⟩
theorem lw_p102 : lw_okq (⟨"QuarrelMilesModel", "along", "([III)V"⟩, 84) := ⟨⟨by decide +kernel, by decide +kernel⟩, List.mem_of_getElem? (i := 1276) (by decide +kernel), List.mem_of_getElem? (i := 1847) (by decide +kernel), List.mem_of_getElem? (i := 1848) (by decide +kernel)⟩
theorem lw_p103 : lw_okq (⟨"QuarrelMilesModel", "layShortest", "(II)I"⟩, 84) := ⟨⟨by decide +kernel, by decide +kernel⟩, List.mem_of_getElem? (i := 1276) (by decide +kernel), List.mem_of_getElem? (i := 1855) (by decide +kernel), List.mem_of_getElem? (i := 1856) (by decide +kernel)⟩
theorem lw_p104 : lw_okq (⟨"QuarrelMilesModel", "layFar", "(I)V"⟩, 84) := ⟨⟨by decide +kernel, by decide +kernel⟩, List.mem_of_getElem? (i := 1276) (by decide +kernel), List.mem_of_getElem? (i := 1859) (by decide +kernel), List.mem_of_getElem? (i := 1860) (by decide +kernel)⟩
theorem lw_p105 : lw_okq (⟨"QuarrelMilesModel", "coupleMany", "()I"⟩, 84) := ⟨⟨by decide +kernel, by decide +kernel⟩, List.mem_of_getElem? (i := 1276) (by decide +kernel), List.mem_of_getElem? (i := 1868) (by decide +kernel), List.mem_of_getElem? (i := 1869) (by decide +kernel)⟩
theorem lw_p106 : lw_okq (⟨"QuarrelMilesModel", "canBe", "(I)Z"⟩, 84) := ⟨⟨by decide +kernel, by decide +kernel⟩, List.mem_of_getElem? (i := 1276) (by decide +kernel), List.mem_of_getElem? (i := 1872) (by decide +kernel), List.mem_of_getElem? (i := 1873) (by decide +kernel)⟩
theorem lw_p107 : lw_okq (⟨"QuarrelMilesModel", "beginBy", "(I)V"⟩, 84) := ⟨⟨by decide +kernel, by decide +kernel⟩, List.mem_of_getElem? (i := 1276) (by decide +kernel), List.mem_of_getElem? (i := 1885) (by decide +kernel), List.mem_of_getElem? (i := 1886) (by decide +kernel)⟩
theorem lw_p108 : lw_okq (⟨"QuarrelMilesModel", "measureBy", "(IIZ)I"⟩, 84) := ⟨⟨by decide +kernel, by decide +kernel⟩, List.mem_of_getElem? (i := 1276) (by decide +kernel), List.mem_of_getElem? (i := 1893) (by decide +kernel), List.mem_of_getElem? (i := 1894) (by decide +kernel)⟩
theorem lw_p109 : lw_okq (⟨"QuarrelMilesModel", "measured", "(IIIZ)Z"⟩, 84) := ⟨⟨by decide +kernel, by decide +kernel⟩, List.mem_of_getElem? (i := 1276) (by decide +kernel), List.mem_of_getElem? (i := 1897) (by decide +kernel), List.mem_of_getElem? (i := 1898) (by decide +kernel)⟩
theorem lw_p110 : lw_okq (⟨"QuarrelMilesModel", "isFair", "(I)Z"⟩, 84) := ⟨⟨by decide +kernel, by decide +kernel⟩, List.mem_of_getElem? (i := 1276) (by decide +kernel), List.mem_of_getElem? (i := 1909) (by decide +kernel), List.mem_of_getElem? (i := 1910) (by decide +kernel)⟩
theorem lw_p111 : lw_okq (⟨"QuarrelMilesModel", "layJust", "()V"⟩, 84) := ⟨⟨by decide +kernel, by decide +kernel⟩, List.mem_of_getElem? (i := 1276) (by decide +kernel), List.mem_of_getElem? (i := 1917) (by decide +kernel), List.mem_of_getElem? (i := 1918) (by decide +kernel)⟩
def lw_privs_7 : List (MethodName × Nat) := [(⟨"QuarrelMilesModel", "isPlace", "(I)Z"⟩, 84), (⟨"QuarrelMilesModel", "keepAct", "()V"⟩, 84), (⟨"QuarrelMilesModel", "doWalk", "()Z"⟩, 84), (⟨"QuarrelMilesModel", "otherEnd", "(II)I"⟩, 84), (⟨"QuarrelMilesModel", "exchange", "()V"⟩, 84), (⟨"QuarrelMilesModel", "routeEnd", "()I"⟩, 84), (⟨"QuarrelMilesModel", "along", "([III)V"⟩, 84), (⟨"QuarrelMilesModel", "layShortest", "(II)I"⟩, 84), (⟨"QuarrelMilesModel", "layFar", "(I)V"⟩, 84), (⟨"QuarrelMilesModel", "coupleMany", "()I"⟩, 84), (⟨"QuarrelMilesModel", "canBe", "(I)Z"⟩, 84), (⟨"QuarrelMilesModel", "beginBy", "(I)V"⟩, 84), (⟨"QuarrelMilesModel", "measureBy", "(IIZ)I"⟩, 84), (⟨"QuarrelMilesModel", "measured", "(IIIZ)Z"⟩, 84), (⟨"QuarrelMilesModel", "isFair", "(I)Z"⟩, 84), (⟨"QuarrelMilesModel", "layJust", "()V"⟩, 84)]
theorem lw_r7 : ∀ q ∈ lw_privs_7, lw_okq q := List.forall_mem_cons.mpr ⟨lw_p96, List.forall_mem_cons.mpr ⟨lw_p97, List.forall_mem_cons.mpr ⟨lw_p98, List.forall_mem_cons.mpr ⟨lw_p99, List.forall_mem_cons.mpr ⟨lw_p100, List.forall_mem_cons.mpr ⟨lw_p101, List.forall_mem_cons.mpr ⟨lw_p102, List.forall_mem_cons.mpr ⟨lw_p103, List.forall_mem_cons.mpr ⟨lw_p104, List.forall_mem_cons.mpr ⟨lw_p105, List.forall_mem_cons.mpr ⟨lw_p106, List.forall_mem_cons.mpr ⟨lw_p107, List.forall_mem_cons.mpr ⟨lw_p108, List.forall_mem_cons.mpr ⟨lw_p109, List.forall_mem_cons.mpr ⟨lw_p110, List.forall_mem_cons.mpr ⟨lw_p111, fun _ h => absurd h List.not_mem_nil⟩⟩⟩⟩⟩⟩⟩⟩⟩⟩⟩⟩⟩⟩⟩⟩
theorem lw_p112 : lw_okq (⟨"QuarrelMilesModel", "layCouple", "(II)V"⟩, 84) := ⟨⟨by decide +kernel, by decide +kernel⟩, List.mem_of_getElem? (i := 1276) (by decide +kernel), List.mem_of_getElem? (i := 1921) (by decide +kernel), List.mem_of_getElem? (i := 1922) (by decide +kernel)⟩
theorem lw_p113 : lw_okq (⟨"QuarrelMilesModel", "coverByThree", "(II)I"⟩, 84) := ⟨⟨by decide +kernel, by decide +kernel⟩, List.mem_of_getElem? (i := 1276) (by decide +kernel), List.mem_of_getElem? (i := 1925) (by decide +kernel), List.mem_of_getElem? (i := 1926) (by decide +kernel)⟩
theorem lw_p114 : lw_okq (⟨"QuarrelMilesModel", "doesLead", "(IIII)Z"⟩, 84) := ⟨⟨by decide +kernel, by decide +kernel⟩, List.mem_of_getElem? (i := 1276) (by decide +kernel), List.mem_of_getElem? (i := 1941) (by decide +kernel), List.mem_of_getElem? (i := 1942) (by decide +kernel)⟩
theorem lw_p115 : lw_okq (⟨"QuarrelMilesModel", "endsJust", "(III)Z"⟩, 84) := ⟨⟨by decide +kernel, by decide +kernel⟩, List.mem_of_getElem? (i := 1276) (by decide +kernel), List.mem_of_getElem? (i := 1945) (by decide +kernel), List.mem_of_getElem? (i := 1946) (by decide +kernel)⟩
theorem lw_p116 : lw_okq (⟨"QuarrelMilesModel", "changes", "(IIII)I"⟩, 84) := ⟨⟨by decide +kernel, by decide +kernel⟩, List.mem_of_getElem? (i := 1276) (by decide +kernel), List.mem_of_getElem? (i := 1953) (by decide +kernel), List.mem_of_getElem? (i := 1954) (by decide +kernel)⟩
theorem lw_p117 : lw_okq (⟨"QuarrelMilesModel", "layTempers", "(II[I)V"⟩, 84) := ⟨⟨by decide +kernel, by decide +kernel⟩, List.mem_of_getElem? (i := 1276) (by decide +kernel), List.mem_of_getElem? (i := 1960) (by decide +kernel), List.mem_of_getElem? (i := 1961) (by decide +kernel)⟩
theorem lw_p118 : lw_okq (⟨"QuarrelMilesModel", "toldLength", "(III)I"⟩, 84) := ⟨⟨by decide +kernel, by decide +kernel⟩, List.mem_of_getElem? (i := 1276) (by decide +kernel), List.mem_of_getElem? (i := 1968) (by decide +kernel), List.mem_of_getElem? (i := 1969) (by decide +kernel)⟩
theorem lw_p119 : lw_okq (⟨"QuarrelMilesModel", "isSo", "(II)Z"⟩, 84) := ⟨⟨by decide +kernel, by decide +kernel⟩, List.mem_of_getElem? (i := 1276) (by decide +kernel), List.mem_of_getElem? (i := 1985) (by decide +kernel), List.mem_of_getElem? (i := 1986) (by decide +kernel)⟩
theorem lw_p120 : lw_okq (⟨"QuarrelMilesModel", "mostLeft", "(IJ)I"⟩, 84) := ⟨⟨by decide +kernel, by decide +kernel⟩, List.mem_of_getElem? (i := 1276) (by decide +kernel), List.mem_of_getElem? (i := 1997) (by decide +kernel), List.mem_of_getElem? (i := 1998) (by decide +kernel)⟩
theorem lw_p121 : lw_okq (⟨"QuarrelMilesModel", "wordsInAll", "()I"⟩, 84) := ⟨⟨by decide +kernel, by decide +kernel⟩, List.mem_of_getElem? (i := 1276) (by decide +kernel), List.mem_of_getElem? (i := 2005) (by decide +kernel), List.mem_of_getElem? (i := 2006) (by decide +kernel)⟩
def lw_privs_8 : List (MethodName × Nat) := [(⟨"QuarrelMilesModel", "layCouple", "(II)V"⟩, 84), (⟨"QuarrelMilesModel", "coverByThree", "(II)I"⟩, 84), (⟨"QuarrelMilesModel", "doesLead", "(IIII)Z"⟩, 84), (⟨"QuarrelMilesModel", "endsJust", "(III)Z"⟩, 84), (⟨"QuarrelMilesModel", "changes", "(IIII)I"⟩, 84), (⟨"QuarrelMilesModel", "layTempers", "(II[I)V"⟩, 84), (⟨"QuarrelMilesModel", "toldLength", "(III)I"⟩, 84), (⟨"QuarrelMilesModel", "isSo", "(II)Z"⟩, 84), (⟨"QuarrelMilesModel", "mostLeft", "(IJ)I"⟩, 84), (⟨"QuarrelMilesModel", "wordsInAll", "()I"⟩, 84)]
theorem lw_r8 : ∀ q ∈ lw_privs_8, lw_okq q := List.forall_mem_cons.mpr ⟨lw_p112, List.forall_mem_cons.mpr ⟨lw_p113, List.forall_mem_cons.mpr ⟨lw_p114, List.forall_mem_cons.mpr ⟨lw_p115, List.forall_mem_cons.mpr ⟨lw_p116, List.forall_mem_cons.mpr ⟨lw_p117, List.forall_mem_cons.mpr ⟨lw_p118, List.forall_mem_cons.mpr ⟨lw_p119, List.forall_mem_cons.mpr ⟨lw_p120, List.forall_mem_cons.mpr ⟨lw_p121, fun _ h => absurd h List.not_mem_nil⟩⟩⟩⟩⟩⟩⟩⟩⟩⟩
def lw_privs : List (MethodName × Nat) := lw_privs_1 ++ (lw_privs_2 ++ (lw_privs_3 ++ (lw_privs_4 ++ (lw_privs_5 ++ (lw_privs_6 ++ (lw_privs_7 ++ (lw_privs_8)))))))
def lw_tbl : List Cond := k2_sels lw_privs ++ tables_1
theorem lw_privs_ok : ∀ q ∈ lw_privs, lw_okq q := by
  show ∀ q ∈ lw_privs_1 ++ (lw_privs_2 ++ (lw_privs_3 ++ (lw_privs_4 ++ (lw_privs_5 ++ (lw_privs_6 ++ (lw_privs_7 ++ (lw_privs_8))))))), lw_okq q
  exact List.forall_mem_append.mpr ⟨lw_r1, List.forall_mem_append.mpr ⟨lw_r2, List.forall_mem_append.mpr ⟨lw_r3, List.forall_mem_append.mpr ⟨lw_r4, List.forall_mem_append.mpr ⟨lw_r5, List.forall_mem_append.mpr ⟨lw_r6, List.forall_mem_append.mpr ⟨lw_r7, lw_r8⟩⟩⟩⟩⟩⟩⟩
def RX0 : String := "QuarrelMiles$Earnest"
def TX0 : u_T := fun k => match k with
  | 0 => ("QuarrelMiles$Earnest", "land", "LQuarrelMiles$Land;", true)
  | 1 => ("QuarrelMiles$Earnest", "tempers", "[I", true)
  | 2 => ("QuarrelMiles$Earnest", "seed", "I", false)
  | 3 => ("QuarrelMiles$Earnest", "talk", "LQuarrelMiles$Talk;", true)
  | 4 => ("QuarrelMiles$Earnest", "isWalking", "Z", false)
  | 5 => ("QuarrelMiles$Earnest", "place", "I", false)
  | 6 => ("QuarrelMiles$Earnest", "way", "I", false)
  | 7 => ("QuarrelMiles$Earnest", "mile", "I", false)
  | 8 => ("QuarrelMiles$Earnest", "acts", "[I", true)
  | 9 => ("QuarrelMiles$Earnest", "oldest", "I", false)
  | 10 => ("QuarrelMiles$Earnest", "undoable", "I", false)
  | 11 => ("QuarrelMiles$Earnest", "redoable", "I", false)
  | 12 => ("QuarrelMiles$Earnest", "boxes", "[I", true)
  | _ => ("QuarrelMiles$Earnest", "isKept", "[Z", true)
def tyX0 : Nat → FieldType := fun k => match k with
  | 0 => .object "QuarrelMiles$Land"
  | 1 => .array .int
  | 2 => .int
  | 3 => .object "QuarrelMiles$Talk"
  | 4 => .boolean
  | 5 => .int
  | 6 => .int
  | 7 => .int
  | 8 => .array .int
  | 9 => .int
  | 10 => .int
  | 11 => .int
  | 12 => .array .int
  | _ => .array .boolean
abbrev wsX00 : List Cond := u_ws RX0 TX0 14
theorem nmX0 : ∀ a, a < 14 → ∀ b, b < 14 → a ≠ b → (TX0 a).2.1 ≠ (TX0 b).2.1 := by decide +kernel
theorem tyX0_ok : ∀ k, k < 14 → parseFieldDescriptor (TX0 k).2.2.1 = some (tyX0 k) := by decide +kernel
abbrev cX0_init : ByteArray := prog_2_method_1_code
def yX0_init : MethodName := ⟨RX0, "<init>", "(LQuarrelMiles$Land;)V"⟩
abbrev cX0_beginAnew : ByteArray := prog_2_method_2_code
def yX0_beginAnew : MethodName := ⟨RX0, "beginAnew", "()V"⟩
abbrev cX0_beginWalk : ByteArray := prog_2_method_3_code
def yX0_beginWalk : MethodName := ⟨RX0, "beginWalk", "(II)V"⟩
abbrev cX0_takeWay : ByteArray := prog_2_method_4_code
def yX0_takeWay : MethodName := ⟨RX0, "takeWay", "(I)I"⟩
abbrev cX0_sayWords : ByteArray := prog_2_method_5_code
def yX0_sayWords : MethodName := ⟨RX0, "sayWords", "(I)I"⟩
abbrev cX0_sayOne : ByteArray := prog_2_method_6_code
def yX0_sayOne : MethodName := ⟨RX0, "sayOne", "()V"⟩
abbrev cX0_passYear : ByteArray := prog_2_method_7_code
def yX0_passYear : MethodName := ⟨RX0, "passYear", "()I"⟩
abbrev cX0_tellWalk : ByteArray := prog_2_method_8_code
def yX0_tellWalk : MethodName := ⟨RX0, "tellWalk", "(I)I"⟩
abbrev cX0_takeBack : ByteArray := prog_2_method_9_code
def yX0_takeBack : MethodName := ⟨RX0, "takeBack", "()Z"⟩
abbrev cX0_doAgain : ByteArray := prog_2_method_10_code
def yX0_doAgain : MethodName := ⟨RX0, "doAgain", "()Z"⟩
abbrev cX0_keep : ByteArray := prog_2_method_11_code
def yX0_keep : MethodName := ⟨RX0, "keep", "(I)I"⟩
abbrev cX0_goBack : ByteArray := prog_2_method_12_code
def yX0_goBack : MethodName := ⟨RX0, "goBack", "(I)I"⟩
abbrev cX0_wordsInAll : ByteArray := prog_2_method_13_code
def yX0_wordsInAll : MethodName := ⟨RX0, "wordsInAll", "()I"⟩
abbrev cX0_forgetActs : ByteArray := prog_2_method_14_code
def yX0_forgetActs : MethodName := ⟨RX0, "forgetActs", "()V"⟩
abbrev cX0_keepAct : ByteArray := prog_2_method_15_code
def yX0_keepAct : MethodName := ⟨RX0, "keepAct", "()V"⟩
abbrev cX0_slot : ByteArray := prog_2_method_16_code
def yX0_slot : MethodName := ⟨RX0, "slot", "()I"⟩
abbrev cX0_put : ByteArray := prog_2_method_17_code
def yX0_put : MethodName := ⟨RX0, "put", "([II)V"⟩
abbrev cX0_bring : ByteArray := prog_2_method_18_code
def yX0_bring : MethodName := ⟨RX0, "bring", "([II)V"⟩
def RX1 : String := "QuarrelMiles$Finder"
def TX1 : u_T := fun k => match k with
  | 0 => ("QuarrelMiles$Finder", "land", "LQuarrelMiles$Land;", true)
  | 1 => ("QuarrelMiles$Finder", "tempers", "[I", true)
  | 2 => ("QuarrelMiles$Finder", "stroll", "LQuarrelMiles$Stroll;", true)
  | 3 => ("QuarrelMiles$Finder", "path", "LQuarrelMiles$Row;", true)
  | 4 => ("QuarrelMiles$Finder", "lying", "[I", true)
  | 5 => ("QuarrelMiles$Finder", "lyingCount", "I", false)
  | 6 => ("QuarrelMiles$Finder", "far", "[I", true)
  | 7 => ("QuarrelMiles$Finder", "couples", "[I", true)
  | 8 => ("QuarrelMiles$Finder", "endings", "[I", true)
  | 9 => ("QuarrelMiles$Finder", "endingCount", "I", false)
  | 10 => ("QuarrelMiles$Finder", "tried", "[I", true)
  | 11 => ("QuarrelMiles$Finder", "lowest", "[I", true)
  | 12 => ("QuarrelMiles$Finder", "highest", "[I", true)
  | 13 => ("QuarrelMiles$Finder", "triedMiles", "I", false)
  | 14 => ("QuarrelMiles$Finder", "homeWays", "[I", true)
  | 15 => ("QuarrelMiles$Finder", "homePlaces", "[I", true)
  | 16 => ("QuarrelMiles$Finder", "talks", "[I", true)
  | 17 => ("QuarrelMiles$Finder", "homeEnd", "I", false)
  | 18 => ("QuarrelMiles$Finder", "homeMost", "I", false)
  | _ => ("QuarrelMiles$Finder", "homeFound", "I", false)
def tyX1 : Nat → FieldType := fun k => match k with
  | 0 => .object "QuarrelMiles$Land"
  | 1 => .array .int
  | 2 => .object "QuarrelMiles$Stroll"
  | 3 => .object "QuarrelMiles$Row"
  | 4 => .array .int
  | 5 => .int
  | 6 => .array .int
  | 7 => .array .int
  | 8 => .array .int
  | 9 => .int
  | 10 => .array .int
  | 11 => .array .int
  | 12 => .array .int
  | 13 => .int
  | 14 => .array .int
  | 15 => .array .int
  | 16 => .array .int
  | 17 => .int
  | 18 => .int
  | _ => .int
abbrev wsX10 : List Cond := u_ws RX1 TX1 20
theorem nmX1 : ∀ a, a < 20 → ∀ b, b < 20 → a ≠ b → (TX1 a).2.1 ≠ (TX1 b).2.1 := by decide +kernel
theorem tyX1_ok : ∀ k, k < 20 → parseFieldDescriptor (TX1 k).2.2.1 = some (tyX1 k) := by decide +kernel
abbrev cX1_init : ByteArray := prog_3_method_1_code
def yX1_init : MethodName := ⟨RX1, "<init>", "(LQuarrelMiles$Land;[I)V"⟩
abbrev cX1_layNothing : ByteArray := prog_3_method_2_code
def yX1_layNothing : MethodName := ⟨RX1, "layNothing", "()V"⟩
abbrev cX1_lay : ByteArray := prog_3_method_3_code
def yX1_lay : MethodName := ⟨RX1, "lay", "(I)V"⟩
abbrev cX1_tellLying : ByteArray := prog_3_method_4_code
def yX1_tellLying : MethodName := ⟨RX1, "tellLying", "(I)I"⟩
abbrev cX1_layShortest : ByteArray := prog_3_method_5_code
def yX1_layShortest : MethodName := ⟨RX1, "layShortest", "(II)I"⟩
abbrev cX1_findPath : ByteArray := prog_3_method_6_code
def yX1_findPath : MethodName := ⟨RX1, "findPath", "(II)I"⟩
abbrev cX1_lookHowFar : ByteArray := prog_3_method_7_code
def yX1_lookHowFar : MethodName := ⟨RX1, "lookHowFar", "(I)V"⟩
abbrev cX1_firstWayNearer : ByteArray := prog_3_method_8_code
def yX1_firstWayNearer : MethodName := ⟨RX1, "firstWayNearer", "(I)I"⟩
abbrev cX1_laySent : ByteArray := prog_3_method_9_code
def yX1_laySent : MethodName := ⟨RX1, "laySent", "(II)I"⟩
abbrev cX1_endsJustBehindPath : ByteArray := prog_3_method_10_code
def yX1_endsJustBehindPath : MethodName := ⟨RX1, "endsJustBehindPath", "(I)Z"⟩
abbrev cX1_setPath : ByteArray := prog_3_method_11_code
def yX1_setPath : MethodName := ⟨RX1, "setPath", "(IZ)V"⟩
abbrev cX1_measurePath : ByteArray := prog_3_method_12_code
def yX1_measurePath : MethodName := ⟨RX1, "measurePath", "(I)I"⟩
abbrev cX1_countAdding : ByteArray := prog_3_method_13_code
def yX1_countAdding : MethodName := ⟨RX1, "countAdding", "(II)I"⟩
abbrev cX1_countFair : ByteArray := prog_3_method_14_code
def yX1_countFair : MethodName := ⟨RX1, "countFair", "()I"⟩
abbrev cX1_lookForEndings : ByteArray := prog_3_method_15_code
def yX1_lookForEndings : MethodName := ⟨RX1, "lookForEndings", "()V"⟩
abbrev cX1_layCover : ByteArray := prog_3_method_16_code
def yX1_layCover : MethodName := ⟨RX1, "layCover", "()I"⟩
abbrev cX1_coverByOne : ByteArray := prog_3_method_17_code
def yX1_coverByOne : MethodName := ⟨RX1, "coverByOne", "()Z"⟩
abbrev cX1_coverByTwo : ByteArray := prog_3_method_18_code
def yX1_coverByTwo : MethodName := ⟨RX1, "coverByTwo", "()Z"⟩
abbrev cX1_coverByThree : ByteArray := prog_3_method_19_code
def yX1_coverByThree : MethodName := ⟨RX1, "coverByThree", "()Z"⟩
abbrev cX1_firstCovering : ByteArray := prog_3_method_20_code
def yX1_firstCovering : MethodName := ⟨RX1, "firstCovering", "(II)I"⟩
abbrev cX1_countTurned : ByteArray := prog_3_method_21_code
def yX1_countTurned : MethodName := ⟨RX1, "countTurned", "()I"⟩
abbrev cX1_openLength : ByteArray := prog_3_method_22_code
def yX1_openLength : MethodName := ⟨RX1, "openLength", "(I)I"⟩
abbrev cX1_layHome : ByteArray := prog_3_method_23_code
def yX1_layHome : MethodName := ⟨RX1, "layHome", "(IIII)I"⟩
abbrev cX1_searchHome : ByteArray := prog_3_method_24_code
def yX1_searchHome : MethodName := ⟨RX1, "searchHome", "(I)V"⟩
abbrev cX1_goesOn : ByteArray := prog_3_method_25_code
def yX1_goesOn : MethodName := ⟨RX1, "goesOn", "(I)Z"⟩
abbrev cX1_layRow : ByteArray := prog_3_method_26_code
def yX1_layRow : MethodName := ⟨RX1, "layRow", "(I)V"⟩
abbrev cX1_layTempers : ByteArray := prog_3_method_27_code
def yX1_layTempers : MethodName := ⟨RX1, "layTempers", "(II)I"⟩
abbrev cX1_setBounds : ByteArray := prog_3_method_28_code
def yX1_setBounds : MethodName := ⟨RX1, "setBounds", "(I)V"⟩
abbrev cX1_temperAt : ByteArray := prog_3_method_29_code
def yX1_temperAt : MethodName := ⟨RX1, "temperAt", "(II)I"⟩
abbrev cX1_temperNow : ByteArray := prog_3_method_30_code
def yX1_temperNow : MethodName := ⟨RX1, "temperNow", "(II)I"⟩
abbrev cX1_layChanged : ByteArray := prog_3_method_31_code
def yX1_layChanged : MethodName := ⟨RX1, "layChanged", "(II)Z"⟩
abbrev cX1_tryTemper : ByteArray := prog_3_method_32_code
def yX1_tryTemper : MethodName := ⟨RX1, "tryTemper", "(III)V"⟩
abbrev cX1_layIfLong : ByteArray := prog_3_method_33_code
def yX1_layIfLong : MethodName := ⟨RX1, "layIfLong", "(II)Z"⟩
def RX2 : String := "QuarrelMiles$Formula"
def TX2 : u_T := fun k => match k with
  | 0 => ("QuarrelMiles$Formula", "steps", "[I", true)
  | 1 => ("QuarrelMiles$Formula", "stack", "[I", true)
  | 2 => ("QuarrelMiles$Formula", "count", "I", false)
  | _ => ("QuarrelMiles$Formula", "units", "I", false)
def tyX2 : Nat → FieldType := fun k => match k with
  | 0 => .array .int
  | 1 => .array .int
  | 2 => .int
  | _ => .int
abbrev wsX20 : List Cond := u_ws RX2 TX2 4
theorem nmX2 : ∀ a, a < 4 → ∀ b, b < 4 → a ≠ b → (TX2 a).2.1 ≠ (TX2 b).2.1 := by decide +kernel
theorem tyX2_ok : ∀ k, k < 4 → parseFieldDescriptor (TX2 k).2.2.1 = some (tyX2 k) := by decide +kernel
abbrev cX2_init : ByteArray := prog_4_method_1_code
def yX2_init : MethodName := ⟨RX2, "<init>", "()V"⟩
abbrev cX2_clear : ByteArray := prog_4_method_2_code
def yX2_clear : MethodName := ⟨RX2, "clear", "()V"⟩
abbrev cX2_isTold : ByteArray := prog_4_method_3_code
def yX2_isTold : MethodName := ⟨RX2, "isTold", "()Z"⟩
abbrev cX2_addNumber : ByteArray := prog_4_method_4_code
def yX2_addNumber : MethodName := ⟨RX2, "addNumber", "(I)V"⟩
abbrev cX2_addKnown : ByteArray := prog_4_method_5_code
def yX2_addKnown : MethodName := ⟨RX2, "addKnown", "(I)V"⟩
abbrev cX2_addOperator : ByteArray := prog_4_method_6_code
def yX2_addOperator : MethodName := ⟨RX2, "addOperator", "(I)V"⟩
abbrev cX2_add : ByteArray := prog_4_method_7_code
def yX2_add : MethodName := ⟨RX2, "add", "(I)V"⟩
abbrev cX2_asksFor : ByteArray := prog_4_method_8_code
def yX2_asksFor : MethodName := ⟨RX2, "asksFor", "(I)Z"⟩
abbrev cX2_answer : ByteArray := prog_4_method_9_code
def yX2_answer : MethodName := ⟨RX2, "answer", "([II)I"⟩
abbrev cX2_join : ByteArray := prog_4_method_10_code
def yX2_join : MethodName := ⟨RX2, "join", "(III)I"⟩
def RX3 : String := "QuarrelMiles$FormulaReader"
def TX3 : u_T := fun k => match k with
  | 0 => ("QuarrelMiles$FormulaReader", "tokens", "LQuarrelMiles$Tokens;", true)
  | 1 => ("QuarrelMiles$FormulaReader", "waiting", "[I", true)
  | 2 => ("QuarrelMiles$FormulaReader", "count", "I", false)
  | 3 => ("QuarrelMiles$FormulaReader", "brackets", "I", false)
  | _ => ("QuarrelMiles$FormulaReader", "around", "I", false)
def tyX3 : Nat → FieldType := fun k => match k with
  | 0 => .object "QuarrelMiles$Tokens"
  | 1 => .array .int
  | 2 => .int
  | 3 => .int
  | _ => .int
abbrev wsX30 : List Cond := u_ws RX3 TX3 5
theorem nmX3 : ∀ a, a < 5 → ∀ b, b < 5 → a ≠ b → (TX3 a).2.1 ≠ (TX3 b).2.1 := by decide +kernel
theorem tyX3_ok : ∀ k, k < 5 → parseFieldDescriptor (TX3 k).2.2.1 = some (tyX3 k) := by decide +kernel
abbrev cX3_init : ByteArray := prog_5_method_1_code
def yX3_init : MethodName := ⟨RX3, "<init>", "(LQuarrelMiles$Tokens;)V"⟩
abbrev cX3_readFormula : ByteArray := prog_5_method_2_code
def yX3_readFormula : MethodName := ⟨RX3, "readFormula", "(LQuarrelMiles$Formula;)Z"⟩
abbrev cX3_readUnit : ByteArray := prog_5_method_3_code
def yX3_readUnit : MethodName := ⟨RX3, "readUnit", "(LQuarrelMiles$Formula;I)I"⟩
abbrev cX3_readBehindUnit : ByteArray := prog_5_method_4_code
def yX3_readBehindUnit : MethodName := ⟨RX3, "readBehindUnit", "(LQuarrelMiles$Formula;)I"⟩
abbrev cX3_nest : ByteArray := prog_5_method_5_code
def yX3_nest : MethodName := ⟨RX3, "nest", "(I)Z"⟩
abbrev cX3_await : ByteArray := prog_5_method_6_code
def yX3_await : MethodName := ⟨RX3, "await", "(I)Z"⟩
abbrev cX3_bindingOnTop : ByteArray := prog_5_method_7_code
def yX3_bindingOnTop : MethodName := ⟨RX3, "bindingOnTop", "()I"⟩
abbrev cX3_settle : ByteArray := prog_5_method_8_code
def yX3_settle : MethodName := ⟨RX3, "settle", "(LQuarrelMiles$Formula;I)V"⟩
abbrev cX3_knownBy : ByteArray := prog_5_method_9_code
def yX3_knownBy : MethodName := ⟨RX3, "knownBy", "(I)I"⟩
abbrev cX3_bindingOf : ByteArray := prog_5_method_10_code
def yX3_bindingOf : MethodName := ⟨RX3, "bindingOf", "(I)I"⟩
def RX4 : String := "QuarrelMiles$Land"
def TX4 : u_T := fun k => match k with
  | 0 => ("QuarrelMiles$Land", "places", "I", false)
  | 1 => ("QuarrelMiles$Land", "placeNames", "[J", true)
  | 2 => ("QuarrelMiles$Land", "calm", "[I", true)
  | 3 => ("QuarrelMiles$Land", "echo", "[I", true)
  | 4 => ("QuarrelMiles$Land", "ways", "I", false)
  | 5 => ("QuarrelMiles$Land", "from", "[I", true)
  | 6 => ("QuarrelMiles$Land", "to", "[I", true)
  | 7 => ("QuarrelMiles$Land", "length", "[I", true)
  | 8 => ("QuarrelMiles$Land", "sight", "[I", true)
  | 9 => ("QuarrelMiles$Land", "souls", "I", false)
  | 10 => ("QuarrelMiles$Land", "soulNames", "[J", true)
  | 11 => ("QuarrelMiles$Land", "tempers", "[I", true)
  | 12 => ("QuarrelMiles$Land", "matters", "I", false)
  | 13 => ("QuarrelMiles$Land", "matterNames", "[J", true)
  | 14 => ("QuarrelMiles$Land", "burns", "[I", true)
  | 15 => ("QuarrelMiles$Land", "griefCounts", "[I", true)
  | 16 => ("QuarrelMiles$Land", "griefs", "[I", true)
  | 17 => ("QuarrelMiles$Land", "draw", "I", false)
  | 18 => ("QuarrelMiles$Land", "heatRule", "LQuarrelMiles$Formula;", true)
  | _ => ("QuarrelMiles$Land", "backRule", "LQuarrelMiles$Formula;", true)
def tyX4 : Nat → FieldType := fun k => match k with
  | 0 => .int
  | 1 => .array .long
  | 2 => .array .int
  | 3 => .array .int
  | 4 => .int
  | 5 => .array .int
  | 6 => .array .int
  | 7 => .array .int
  | 8 => .array .int
  | 9 => .int
  | 10 => .array .long
  | 11 => .array .int
  | 12 => .int
  | 13 => .array .long
  | 14 => .array .int
  | 15 => .array .int
  | 16 => .array .int
  | 17 => .int
  | 18 => .object "QuarrelMiles$Formula"
  | _ => .object "QuarrelMiles$Formula"
abbrev wsX40 : List Cond := u_ws RX4 TX4 20
theorem nmX4 : ∀ a, a < 20 → ∀ b, b < 20 → a ≠ b → (TX4 a).2.1 ≠ (TX4 b).2.1 := by decide +kernel
theorem tyX4_ok : ∀ k, k < 20 → parseFieldDescriptor (TX4 k).2.2.1 = some (tyX4 k) := by decide +kernel
abbrev cX4_init : ByteArray := prog_6_method_1_code
def yX4_init : MethodName := ⟨RX4, "<init>", "()V"⟩
abbrev cX4_clear : ByteArray := prog_6_method_2_code
def yX4_clear : MethodName := ⟨RX4, "clear", "()V"⟩
abbrev cX4_isPlace : ByteArray := prog_6_method_3_code
def yX4_isPlace : MethodName := ⟨RX4, "isPlace", "(I)Z"⟩
abbrev cX4_isWay : ByteArray := prog_6_method_4_code
def yX4_isWay : MethodName := ⟨RX4, "isWay", "(I)Z"⟩
abbrev cX4_isSoul : ByteArray := prog_6_method_5_code
def yX4_isSoul : MethodName := ⟨RX4, "isSoul", "(I)Z"⟩
abbrev cX4_isMatter : ByteArray := prog_6_method_6_code
def yX4_isMatter : MethodName := ⟨RX4, "isMatter", "(I)Z"⟩
abbrev cX4_couple : ByteArray := prog_6_method_7_code
def yX4_couple : MethodName := ⟨RX4, "couple", "(III)I"⟩
abbrev cX4_isCouple : ByteArray := prog_6_method_8_code
def yX4_isCouple : MethodName := ⟨RX4, "isCouple", "(I)Z"⟩
abbrev cX4_otherEnd : ByteArray := prog_6_method_9_code
def yX4_otherEnd : MethodName := ⟨RX4, "otherEnd", "(II)I"⟩
def RX5 : String := "QuarrelMiles$Reader"
def TX5 : u_T := fun k => match k with
  | 0 => ("QuarrelMiles$Reader", "tokens", "LQuarrelMiles$Tokens;", true)
  | 1 => ("QuarrelMiles$Reader", "formulas", "LQuarrelMiles$FormulaReader;", true)
  | 2 => ("QuarrelMiles$Reader", "fault", "I", false)
  | 3 => ("QuarrelMiles$Reader", "faultPlace", "I", false)
  | 4 => ("QuarrelMiles$Reader", "number", "I", false)
  | _ => ("QuarrelMiles$Reader", "isDrawTold", "Z", false)
def tyX5 : Nat → FieldType := fun k => match k with
  | 0 => .object "QuarrelMiles$Tokens"
  | 1 => .object "QuarrelMiles$FormulaReader"
  | 2 => .int
  | 3 => .int
  | 4 => .int
  | _ => .boolean
abbrev wsX50 : List Cond := u_ws RX5 TX5 6
theorem nmX5 : ∀ a, a < 6 → ∀ b, b < 6 → a ≠ b → (TX5 a).2.1 ≠ (TX5 b).2.1 := by decide +kernel
theorem tyX5_ok : ∀ k, k < 6 → parseFieldDescriptor (TX5 k).2.2.1 = some (tyX5 k) := by decide +kernel
abbrev cX5_init : ByteArray := prog_7_method_1_code
def yX5_init : MethodName := ⟨RX5, "<init>", "(LQuarrelMiles$Tokens;)V"⟩
abbrev cX5_readLand : ByteArray := prog_7_method_2_code
def yX5_readLand : MethodName := ⟨RX5, "readLand", "(LQuarrelMiles$Land;I)Z"⟩
abbrev cX5_readPlace : ByteArray := prog_7_method_3_code
def yX5_readPlace : MethodName := ⟨RX5, "readPlace", "(LQuarrelMiles$Land;)Z"⟩
abbrev cX5_readWay : ByteArray := prog_7_method_4_code
def yX5_readWay : MethodName := ⟨RX5, "readWay", "(LQuarrelMiles$Land;)Z"⟩
abbrev cX5_readSight : ByteArray := prog_7_method_5_code
def yX5_readSight : MethodName := ⟨RX5, "readSight", "()Z"⟩
abbrev cX5_readSoul : ByteArray := prog_7_method_6_code
def yX5_readSoul : MethodName := ⟨RX5, "readSoul", "(LQuarrelMiles$Land;)Z"⟩
abbrev cX5_readMatter : ByteArray := prog_7_method_7_code
def yX5_readMatter : MethodName := ⟨RX5, "readMatter", "(LQuarrelMiles$Land;)Z"⟩
abbrev cX5_readRule : ByteArray := prog_7_method_8_code
def yX5_readRule : MethodName := ⟨RX5, "readRule", "(LQuarrelMiles$Formula;)Z"⟩
abbrev cX5_readDraw : ByteArray := prog_7_method_9_code
def yX5_readDraw : MethodName := ⟨RX5, "readDraw", "(LQuarrelMiles$Land;)Z"⟩
abbrev cX5_readNewName : ByteArray := prog_7_method_10_code
def yX5_readNewName : MethodName := ⟨RX5, "readNewName", "([JI)Z"⟩
abbrev cX5_readPlaceName : ByteArray := prog_7_method_11_code
def yX5_readPlaceName : MethodName := ⟨RX5, "readPlaceName", "(LQuarrelMiles$Land;I)Z"⟩
abbrev cX5_indexOf : ByteArray := prog_7_method_12_code
def yX5_indexOf : MethodName := ⟨RX5, "indexOf", "([JIJ)I"⟩
abbrev cX5_readNumberBehind : ByteArray := prog_7_method_13_code
def yX5_readNumberBehind : MethodName := ⟨RX5, "readNumberBehind", "(III)Z"⟩
abbrev cX5_readNumber : ByteArray := prog_7_method_14_code
def yX5_readNumber : MethodName := ⟨RX5, "readNumber", "(II)Z"⟩
abbrev cX5_expect : ByteArray := prog_7_method_15_code
def yX5_expect : MethodName := ⟨RX5, "expect", "(I)Z"⟩
abbrev cX5_refuse : ByteArray := prog_7_method_16_code
def yX5_refuse : MethodName := ⟨RX5, "refuse", "()Z"⟩
abbrev cX5_fail : ByteArray := prog_7_method_17_code
def yX5_fail : MethodName := ⟨RX5, "fail", "(II)Z"⟩
def RX6 : String := "QuarrelMiles$Reports"
def TX6 : u_T := fun k => match k with
  | 0 => ("QuarrelMiles$Reports", "land", "LQuarrelMiles$Land;", true)
  | 1 => ("QuarrelMiles$Reports", "talk", "LQuarrelMiles$Talk;", true)
  | 2 => ("QuarrelMiles$Reports", "time", "I", false)
  | 3 => ("QuarrelMiles$Reports", "count", "I", false)
  | 4 => ("QuarrelMiles$Reports", "toldAt", "[I", true)
  | 5 => ("QuarrelMiles$Reports", "untoldAt", "[I", true)
  | _ => ("QuarrelMiles$Reports", "roads", "[J", true)
def tyX6 : Nat → FieldType := fun k => match k with
  | 0 => .object "QuarrelMiles$Land"
  | 1 => .object "QuarrelMiles$Talk"
  | 2 => .int
  | 3 => .int
  | 4 => .array .int
  | 5 => .array .int
  | _ => .array .long
abbrev wsX60 : List Cond := u_ws RX6 TX6 7
theorem nmX6 : ∀ a, a < 7 → ∀ b, b < 7 → a ≠ b → (TX6 a).2.1 ≠ (TX6 b).2.1 := by decide +kernel
theorem tyX6_ok : ∀ k, k < 7 → parseFieldDescriptor (TX6 k).2.2.1 = some (tyX6 k) := by decide +kernel
abbrev cX6_init : ByteArray := prog_8_method_1_code
def yX6_init : MethodName := ⟨RX6, "<init>", "(LQuarrelMiles$Land;)V"⟩
abbrev cX6_forget : ByteArray := prog_8_method_2_code
def yX6_forget : MethodName := ⟨RX6, "forget", "()V"⟩
abbrev cX6_tell : ByteArray := prog_8_method_3_code
def yX6_tell : MethodName := ⟨RX6, "tell", "(II)I"⟩
abbrev cX6_takeBack : ByteArray := prog_8_method_4_code
def yX6_takeBack : MethodName := ⟨RX6, "takeBack", "(I)Z"⟩
abbrev cX6_passTime : ByteArray := prog_8_method_5_code
def yX6_passTime : MethodName := ⟨RX6, "passTime", "(I)I"⟩
abbrev cX6_roadsKnownAt : ByteArray := prog_8_method_6_code
def yX6_roadsKnownAt : MethodName := ⟨RX6, "roadsKnownAt", "(I)J"⟩
abbrev cX6_findQuestion : ByteArray := prog_8_method_7_code
def yX6_findQuestion : MethodName := ⟨RX6, "findQuestion", "(II)I"⟩
abbrev cX6_mostLeft : ByteArray := prog_8_method_8_code
def yX6_mostLeft : MethodName := ⟨RX6, "mostLeft", "(IJ)I"⟩
abbrev cX6_toldLength : ByteArray := prog_8_method_9_code
def yX6_toldLength : MethodName := ⟨RX6, "toldLength", "(I)I"⟩
abbrev cX6_roadsBy : ByteArray := prog_8_method_10_code
def yX6_roadsBy : MethodName := ⟨RX6, "roadsBy", "(II)J"⟩
def RX7 : String := "QuarrelMiles$Row"
def TX7 : u_T := fun k => match k with
  | 0 => ("QuarrelMiles$Row", "ways", "[I", true)
  | 1 => ("QuarrelMiles$Row", "ends", "[I", true)
  | 2 => ("QuarrelMiles$Row", "count", "I", false)
  | _ => ("QuarrelMiles$Row", "end", "I", false)
def tyX7 : Nat → FieldType := fun k => match k with
  | 0 => .array .int
  | 1 => .array .int
  | 2 => .int
  | _ => .int
abbrev wsX70 : List Cond := u_ws RX7 TX7 4
theorem nmX7 : ∀ a, a < 4 → ∀ b, b < 4 → a ≠ b → (TX7 a).2.1 ≠ (TX7 b).2.1 := by decide +kernel
theorem tyX7_ok : ∀ k, k < 4 → parseFieldDescriptor (TX7 k).2.2.1 = some (tyX7 k) := by decide +kernel
abbrev cX7_init : ByteArray := prog_9_method_1_code
def yX7_init : MethodName := ⟨RX7, "<init>", "()V"⟩
abbrev cX7_reset : ByteArray := prog_9_method_2_code
def yX7_reset : MethodName := ⟨RX7, "reset", "(I)V"⟩
abbrev cX7_append : ByteArray := prog_9_method_3_code
def yX7_append : MethodName := ⟨RX7, "append", "(LQuarrelMiles$Land;I)Z"⟩
def RX8 : String := "QuarrelMiles$Stroll"
def TX8 : u_T := fun k => match k with
  | 0 => ("QuarrelMiles$Stroll", "land", "LQuarrelMiles$Land;", true)
  | 1 => ("QuarrelMiles$Stroll", "talk", "LQuarrelMiles$Talk;", true)
  | 2 => ("QuarrelMiles$Stroll", "number", "I", false)
  | _ => ("QuarrelMiles$Stroll", "mile", "I", false)
def tyX8 : Nat → FieldType := fun k => match k with
  | 0 => .object "QuarrelMiles$Land"
  | 1 => .object "QuarrelMiles$Talk"
  | 2 => .int
  | _ => .int
abbrev wsX80 : List Cond := u_ws RX8 TX8 4
theorem nmX8 : ∀ a, a < 4 → ∀ b, b < 4 → a ≠ b → (TX8 a).2.1 ≠ (TX8 b).2.1 := by decide +kernel
theorem tyX8_ok : ∀ k, k < 4 → parseFieldDescriptor (TX8 k).2.2.1 = some (tyX8 k) := by decide +kernel
abbrev cX8_init : ByteArray := prog_10_method_1_code
def yX8_init : MethodName := ⟨RX8, "<init>", "(LQuarrelMiles$Land;)V"⟩
abbrev cX8_begin : ByteArray := prog_10_method_2_code
def yX8_begin : MethodName := ⟨RX8, "begin", "(I)V"⟩
abbrev cX8_goOn : ByteArray := prog_10_method_3_code
def yX8_goOn : MethodName := ⟨RX8, "goOn", "([ILQuarrelMiles$Row;)Z"⟩
abbrev cX8_isAtEnd : ByteArray := prog_10_method_4_code
def yX8_isAtEnd : MethodName := ⟨RX8, "isAtEnd", "(LQuarrelMiles$Row;)Z"⟩
abbrev cX8_lengthOf : ByteArray := prog_10_method_5_code
def yX8_lengthOf : MethodName := ⟨RX8, "lengthOf", "(I)I"⟩
def RX9 : String := "QuarrelMiles$Talk"
def TX9 : u_T := fun k => match k with
  | 0 => ("QuarrelMiles$Talk", "land", "LQuarrelMiles$Land;", true)
  | 1 => ("QuarrelMiles$Talk", "known", "[I", true)
  | 2 => ("QuarrelMiles$Talk", "pile", "[I", true)
  | 3 => ("QuarrelMiles$Talk", "couple", "I", false)
  | 4 => ("QuarrelMiles$Talk", "heat", "I", false)
  | 5 => ("QuarrelMiles$Talk", "words", "I", false)
  | _ => ("QuarrelMiles$Talk", "griefs", "I", false)
def tyX9 : Nat → FieldType := fun k => match k with
  | 0 => .object "QuarrelMiles$Land"
  | 1 => .array .int
  | 2 => .array .int
  | 3 => .int
  | 4 => .int
  | 5 => .int
  | _ => .int
abbrev wsX90 : List Cond := u_ws RX9 TX9 7
theorem nmX9 : ∀ a, a < 7 → ∀ b, b < 7 → a ≠ b → (TX9 a).2.1 ≠ (TX9 b).2.1 := by decide +kernel
theorem tyX9_ok : ∀ k, k < 7 → parseFieldDescriptor (TX9 k).2.2.1 = some (tyX9 k) := by decide +kernel
abbrev cX9_init : ByteArray := prog_11_method_1_code
def yX9_init : MethodName := ⟨RX9, "<init>", "(LQuarrelMiles$Land;)V"⟩
abbrev cX9_begin : ByteArray := prog_11_method_2_code
def yX9_begin : MethodName := ⟨RX9, "begin", "(I)V"⟩
abbrev cX9_isOver : ByteArray := prog_11_method_3_code
def yX9_isOver : MethodName := ⟨RX9, "isOver", "()Z"⟩
abbrev cX9_say : ByteArray := prog_11_method_4_code
def yX9_say : MethodName := ⟨RX9, "say", "([I)V"⟩
abbrev cX9_sayOnWay : ByteArray := prog_11_method_5_code
def yX9_sayOnWay : MethodName := ⟨RX9, "sayOnWay", "([IIII)V"⟩
abbrev cX9_talkOpenly : ByteArray := prog_11_method_6_code
def yX9_talkOpenly : MethodName := ⟨RX9, "talkOpenly", "([II)I"⟩
abbrev cX9_put : ByteArray := prog_11_method_7_code
def yX9_put : MethodName := ⟨RX9, "put", "([II)V"⟩
abbrev cX9_bring : ByteArray := prog_11_method_8_code
def yX9_bring : MethodName := ⟨RX9, "bring", "([II)V"⟩
def RX10 : String := "QuarrelMiles$Tokens"
def TX10 : u_T := fun k => match k with
  | 0 => ("QuarrelMiles$Tokens", "text", "[B", true)
  | 1 => ("QuarrelMiles$Tokens", "length", "I", false)
  | 2 => ("QuarrelMiles$Tokens", "next", "I", false)
  | 3 => ("QuarrelMiles$Tokens", "kind", "I", false)
  | 4 => ("QuarrelMiles$Tokens", "place", "I", false)
  | 5 => ("QuarrelMiles$Tokens", "value", "I", false)
  | _ => ("QuarrelMiles$Tokens", "name", "J", false)
def tyX10 : Nat → FieldType := fun k => match k with
  | 0 => .array .byte
  | 1 => .int
  | 2 => .int
  | 3 => .int
  | 4 => .int
  | 5 => .int
  | _ => .long
abbrev wsX100 : List Cond := u_ws RX10 TX10 7
theorem nmX10 : ∀ a, a < 7 → ∀ b, b < 7 → a ≠ b → (TX10 a).2.1 ≠ (TX10 b).2.1 := by decide +kernel
theorem tyX10_ok : ∀ k, k < 7 → parseFieldDescriptor (TX10 k).2.2.1 = some (tyX10 k) := by decide +kernel
abbrev cX10_init : ByteArray := prog_12_method_1_code
def yX10_init : MethodName := ⟨RX10, "<init>", "([B)V"⟩
abbrev cX10_open : ByteArray := prog_12_method_2_code
def yX10_open : MethodName := ⟨RX10, "open", "(I)V"⟩
abbrev cX10_sign : ByteArray := prog_12_method_3_code
def yX10_sign : MethodName := ⟨RX10, "sign", "(I)I"⟩
abbrev cX10_move : ByteArray := prog_12_method_4_code
def yX10_move : MethodName := ⟨RX10, "move", "()V"⟩
abbrev cX10_takeWord : ByteArray := prog_12_method_5_code
def yX10_takeWord : MethodName := ⟨RX10, "takeWord", "()V"⟩
abbrev cX10_takeNumber : ByteArray := prog_12_method_6_code
def yX10_takeNumber : MethodName := ⟨RX10, "takeNumber", "()V"⟩
abbrev cX10_isBlank : ByteArray := prog_12_method_7_code
def yX10_isBlank : MethodName := ⟨RX10, "isBlank", "(I)Z"⟩
abbrev cX10_isLetter : ByteArray := prog_12_method_8_code
def yX10_isLetter : MethodName := ⟨RX10, "isLetter", "(I)Z"⟩
abbrev cX10_isDigit : ByteArray := prog_12_method_9_code
def yX10_isDigit : MethodName := ⟨RX10, "isDigit", "(I)Z"⟩
abbrev cX10_isSign : ByteArray := prog_12_method_10_code
def yX10_isSign : MethodName := ⟨RX10, "isSign", "(I)Z"⟩
def RX11 : String := "QuarrelMiles"
def TX11 : u_T := fun k => match k with
  | 0 => ("QuarrelMiles", "tape", "[B", true)
  | 1 => ("QuarrelMiles", "taped", "I", false)
  | 2 => ("QuarrelMiles", "told", "LQuarrelMiles$Land;", true)
  | 3 => ("QuarrelMiles", "trial", "LQuarrelMiles$Land;", true)
  | 4 => ("QuarrelMiles", "reader", "LQuarrelMiles$Reader;", true)
  | 5 => ("QuarrelMiles", "earnest", "LQuarrelMiles$Earnest;", true)
  | 6 => ("QuarrelMiles", "route", "LQuarrelMiles$Row;", true)
  | 7 => ("QuarrelMiles", "stroll", "LQuarrelMiles$Stroll;", true)
  | 8 => ("QuarrelMiles", "finder", "LQuarrelMiles$Finder;", true)
  | _ => ("QuarrelMiles", "reports", "LQuarrelMiles$Reports;", true)
def tyX11 : Nat → FieldType := fun k => match k with
  | 0 => .array .byte
  | 1 => .int
  | 2 => .object "QuarrelMiles$Land"
  | 3 => .object "QuarrelMiles$Land"
  | 4 => .object "QuarrelMiles$Reader"
  | 5 => .object "QuarrelMiles$Earnest"
  | 6 => .object "QuarrelMiles$Row"
  | 7 => .object "QuarrelMiles$Stroll"
  | 8 => .object "QuarrelMiles$Finder"
  | _ => .object "QuarrelMiles$Reports"
abbrev wsX110 : List Cond := u_ws RX11 TX11 10
theorem nmX11 : ∀ a, a < 10 → ∀ b, b < 10 → a ≠ b → (TX11 a).2.1 ≠ (TX11 b).2.1 := by decide +kernel
theorem tyX11_ok : ∀ k, k < 10 → parseFieldDescriptor (TX11 k).2.2.1 = some (tyX11 k) := by decide +kernel
abbrev cX11_init : ByteArray := prog_1_method_1_code
def yX11_init : MethodName := ⟨RX11, "<init>", "()V"⟩
abbrev cX11_feed : ByteArray := prog_1_method_2_code
def yX11_feed : MethodName := ⟨RX11, "feed", "(IIIII)I"⟩
abbrev cX11_tapeNumber : ByteArray := prog_1_method_3_code
def yX11_tapeNumber : MethodName := ⟨RX11, "tapeNumber", "(I)V"⟩
abbrev cX11_end : ByteArray := prog_1_method_4_code
def yX11_end : MethodName := ⟨RX11, "end", "(I)I"⟩
abbrev cX11_land : ByteArray := prog_1_method_5_code
def yX11_land : MethodName := ⟨RX11, "land", "()I"⟩
abbrev cX11_fault : ByteArray := prog_1_method_6_code
def yX11_fault : MethodName := ⟨RX11, "fault", "(I)I"⟩
abbrev cX11_soul : ByteArray := prog_1_method_7_code
def yX11_soul : MethodName := ⟨RX11, "soul", "(II)I"⟩
abbrev cX11_way : ByteArray := prog_1_method_8_code
def yX11_way : MethodName := ⟨RX11, "way", "(II)I"⟩
abbrev cX11_quarrel : ByteArray := prog_1_method_9_code
def yX11_quarrel : MethodName := ⟨RX11, "quarrel", "(III)I"⟩
abbrev cX11_heat : ByteArray := prog_1_method_10_code
def yX11_heat : MethodName := ⟨RX11, "heat", "(IIII)I"⟩
abbrev cX11_setOut : ByteArray := prog_1_method_11_code
def yX11_setOut : MethodName := ⟨RX11, "setOut", "(IIII)I"⟩
abbrev cX11_take : ByteArray := prog_1_method_12_code
def yX11_take : MethodName := ⟨RX11, "take", "(I)I"⟩
abbrev cX11_words : ByteArray := prog_1_method_13_code
def yX11_words : MethodName := ⟨RX11, "words", "(I)I"⟩
abbrev cX11_year : ByteArray := prog_1_method_14_code
def yX11_year : MethodName := ⟨RX11, "year", "()I"⟩
abbrev cX11_walk : ByteArray := prog_1_method_15_code
def yX11_walk : MethodName := ⟨RX11, "walk", "(I)I"⟩
abbrev cX11_undo : ByteArray := prog_1_method_16_code
def yX11_undo : MethodName := ⟨RX11, "undo", "()Z"⟩
abbrev cX11_redo : ByteArray := prog_1_method_17_code
def yX11_redo : MethodName := ⟨RX11, "redo", "()Z"⟩
abbrev cX11_start : ByteArray := prog_1_method_18_code
def yX11_start : MethodName := ⟨RX11, "start", "(I)I"⟩
abbrev cX11_step : ByteArray := prog_1_method_19_code
def yX11_step : MethodName := ⟨RX11, "step", "(I)I"⟩
abbrev cX11_walked : ByteArray := prog_1_method_20_code
def yX11_walked : MethodName := ⟨RX11, "walked", "(IIII)I"⟩
abbrev cX11_shortest : ByteArray := prog_1_method_21_code
def yX11_shortest : MethodName := ⟨RX11, "shortest", "(II)I"⟩
abbrev cX11_send : ByteArray := prog_1_method_22_code
def yX11_send : MethodName := ⟨RX11, "send", "(II)I"⟩
abbrev cX11_measure : ByteArray := prog_1_method_23_code
def yX11_measure : MethodName := ⟨RX11, "measure", "(IIIIZ)I"⟩
abbrev cX11_adds : ByteArray := prog_1_method_24_code
def yX11_adds : MethodName := ⟨RX11, "adds", "(II)I"⟩
abbrev cX11_fair : ByteArray := prog_1_method_25_code
def yX11_fair : MethodName := ⟨RX11, "fair", "()I"⟩
abbrev cX11_cover : ByteArray := prog_1_method_26_code
def yX11_cover : MethodName := ⟨RX11, "cover", "()I"⟩
abbrev cX11_turned : ByteArray := prog_1_method_27_code
def yX11_turned : MethodName := ⟨RX11, "turned", "()I"⟩
abbrev cX11_loud : ByteArray := prog_1_method_28_code
def yX11_loud : MethodName := ⟨RX11, "loud", "(IIII)I"⟩
abbrev cX11_home : ByteArray := prog_1_method_29_code
def yX11_home : MethodName := ⟨RX11, "home", "(IIIIII)I"⟩
abbrev cX11_temper : ByteArray := prog_1_method_30_code
def yX11_temper : MethodName := ⟨RX11, "temper", "(IIII)I"⟩
abbrev cX11_lies : ByteArray := prog_1_method_31_code
def yX11_lies : MethodName := ⟨RX11, "lies", "(I)I"⟩
abbrev cX11_report : ByteArray := prog_1_method_32_code
def yX11_report : MethodName := ⟨RX11, "report", "(IIII)I"⟩
abbrev cX11_untell : ByteArray := prog_1_method_33_code
def yX11_untell : MethodName := ⟨RX11, "untell", "(I)Z"⟩
abbrev cX11_later : ByteArray := prog_1_method_34_code
def yX11_later : MethodName := ⟨RX11, "later", "(I)I"⟩
abbrev cX11_miles : ByteArray := prog_1_method_35_code
def yX11_miles : MethodName := ⟨RX11, "miles", "(I)J"⟩
abbrev cX11_ask : ByteArray := prog_1_method_36_code
def yX11_ask : MethodName := ⟨RX11, "ask", "(II)I"⟩
abbrev cX11_image : ByteArray := prog_1_method_37_code
def yX11_image : MethodName := ⟨RX11, "image", "(I)I"⟩
abbrev cX11_back : ByteArray := prog_1_method_38_code
def yX11_back : MethodName := ⟨RX11, "back", "(I)I"⟩
abbrev cX11_about : ByteArray := prog_1_method_39_code
def yX11_about : MethodName := ⟨RX11, "about", "(I)I"⟩
abbrev cX11_within : ByteArray := prog_1_method_40_code
def yX11_within : MethodName := ⟨RX11, "within", "(III)I"⟩
def RX12 : String := "QuarrelMilesModel"
def TX12 : u_T := fun k => match k with
  | 0 => ("QuarrelMilesModel", "tape", "[B", true)
  | 1 => ("QuarrelMilesModel", "text", "[B", true)
  | 2 => ("QuarrelMilesModel", "taped", "I", false)
  | 3 => ("QuarrelMilesModel", "size", "I", false)
  | 4 => ("QuarrelMilesModel", "faultKind", "I", false)
  | 5 => ("QuarrelMilesModel", "faultPlace", "I", false)
  | 6 => ("QuarrelMilesModel", "at", "I", false)
  | 7 => ("QuarrelMilesModel", "end", "I", false)
  | 8 => ("QuarrelMilesModel", "token", "I", false)
  | 9 => ("QuarrelMilesModel", "number", "I", false)
  | 10 => ("QuarrelMilesModel", "name", "J", false)
  | 11 => ("QuarrelMilesModel", "places", "[I", true)
  | 12 => ("QuarrelMilesModel", "ways", "[I", true)
  | 13 => ("QuarrelMilesModel", "souls", "[I", true)
  | 14 => ("QuarrelMilesModel", "matters", "[I", true)
  | 15 => ("QuarrelMilesModel", "units", "[I", true)
  | 16 => ("QuarrelMilesModel", "draw", "[I", true)
  | 17 => ("QuarrelMilesModel", "calm", "[I", true)
  | 18 => ("QuarrelMilesModel", "echo", "[I", true)
  | 19 => ("QuarrelMilesModel", "wayFrom", "[I", true)
  | 20 => ("QuarrelMilesModel", "wayTo", "[I", true)
  | 21 => ("QuarrelMilesModel", "wayMiles", "[I", true)
  | 22 => ("QuarrelMilesModel", "sight", "[I", true)
  | 23 => ("QuarrelMilesModel", "stubborn", "[I", true)
  | 24 => ("QuarrelMilesModel", "brief", "[I", true)
  | 25 => ("QuarrelMilesModel", "burns", "[I", true)
  | 26 => ("QuarrelMilesModel", "griefMany", "[I", true)
  | 27 => ("QuarrelMilesModel", "grief", "[I", true)
  | 28 => ("QuarrelMilesModel", "ruleFrom", "[I", true)
  | 29 => ("QuarrelMilesModel", "ruleTo", "[I", true)
  | 30 => ("QuarrelMilesModel", "isDraw", "[Z", true)
  | 31 => ("QuarrelMilesModel", "hasRule", "[Z", true)
  | 32 => ("QuarrelMilesModel", "plName", "[J", true)
  | 33 => ("QuarrelMilesModel", "sName", "[J", true)
  | 34 => ("QuarrelMilesModel", "mName", "[J", true)
  | 35 => ("QuarrelMilesModel", "code", "[I", true)
  | 36 => ("QuarrelMilesModel", "codeNumber", "[I", true)
  | 37 => ("QuarrelMilesModel", "eWhat", "[I", true)
  | 38 => ("QuarrelMilesModel", "eSign", "[I", true)
  | 39 => ("QuarrelMilesModel", "pile", "[I", true)
  | 40 => ("QuarrelMilesModel", "bank", "I", false)
  | 41 => ("QuarrelMilesModel", "rb", "I", false)
  | 42 => ("QuarrelMilesModel", "codes", "I", false)
  | 43 => ("QuarrelMilesModel", "within", "I", false)
  | 44 => ("QuarrelMilesModel", "piled", "I", false)
  | 45 => ("QuarrelMilesModel", "unitsInRule", "I", false)
  | 46 => ("QuarrelMilesModel", "askHeat", "I", false)
  | 47 => ("QuarrelMilesModel", "askGrief", "I", false)
  | 48 => ("QuarrelMilesModel", "askStubborn", "I", false)
  | 49 => ("QuarrelMilesModel", "askShort", "I", false)
  | 50 => ("QuarrelMilesModel", "askMile", "I", false)
  | 51 => ("QuarrelMilesModel", "askLeft", "I", false)
  | 52 => ("QuarrelMilesModel", "all", "[I", true)
  | 53 => ("QuarrelMilesModel", "now", "[I", true)
  | 54 => ("QuarrelMilesModel", "asTold", "Z", false)
  | 55 => ("QuarrelMilesModel", "was", "[I", true)
  | 56 => ("QuarrelMilesModel", "acts", "I", false)
  | 57 => ("QuarrelMilesModel", "undone", "I", false)
  | 58 => ("QuarrelMilesModel", "route", "[I", true)
  | 59 => ("QuarrelMilesModel", "laidRow", "[I", true)
  | 60 => ("QuarrelMilesModel", "routeFrom", "I", false)
  | 61 => ("QuarrelMilesModel", "routeMany", "I", false)
  | 62 => ("QuarrelMilesModel", "laid", "I", false)
  | 63 => ("QuarrelMilesModel", "endWay", "I", false)
  | 64 => ("QuarrelMilesModel", "endMiles", "I", false)
  | 65 => ("QuarrelMilesModel", "far", "[I", true)
  | 66 => ("QuarrelMilesModel", "shortRow", "[I", true)
  | 67 => ("QuarrelMilesModel", "shortMany", "I", false)
  | 68 => ("QuarrelMilesModel", "begun", "I", false)
  | 69 => ("QuarrelMilesModel", "justBy", "[I", true)
  | 70 => ("QuarrelMilesModel", "oneWay", "[I", true)
  | 71 => ("QuarrelMilesModel", "homeRow", "[I", true)
  | 72 => ("QuarrelMilesModel", "temperNow", "[I", true)
  | 73 => ("QuarrelMilesModel", "temperBest", "[I", true)
  | 74 => ("QuarrelMilesModel", "tried", "[I", true)
  | 75 => ("QuarrelMilesModel", "rLength", "[I", true)
  | 76 => ("QuarrelMilesModel", "rWhat", "[I", true)
  | 77 => ("QuarrelMilesModel", "rTold", "[I", true)
  | 78 => ("QuarrelMilesModel", "rUntold", "[I", true)
  | 79 => ("QuarrelMilesModel", "reports", "I", false)
  | 80 => ("QuarrelMilesModel", "time", "I", false)
  | 81 => ("QuarrelMilesModel", "leftBy", "[I", true)
  | 82 => ("QuarrelMilesModel", "boxAll", "[I", true)
  | _ => ("QuarrelMilesModel", "isBoxed", "[Z", true)
def tyX12 : Nat → FieldType := fun k => match k with
  | 0 => .array .byte
  | 1 => .array .byte
  | 2 => .int
  | 3 => .int
  | 4 => .int
  | 5 => .int
  | 6 => .int
  | 7 => .int
  | 8 => .int
  | 9 => .int
  | 10 => .long
  | 11 => .array .int
  | 12 => .array .int
  | 13 => .array .int
  | 14 => .array .int
  | 15 => .array .int
  | 16 => .array .int
  | 17 => .array .int
  | 18 => .array .int
  | 19 => .array .int
  | 20 => .array .int
  | 21 => .array .int
  | 22 => .array .int
  | 23 => .array .int
  | 24 => .array .int
  | 25 => .array .int
  | 26 => .array .int
  | 27 => .array .int
  | 28 => .array .int
  | 29 => .array .int
  | 30 => .array .boolean
  | 31 => .array .boolean
  | 32 => .array .long
  | 33 => .array .long
  | 34 => .array .long
  | 35 => .array .int
  | 36 => .array .int
  | 37 => .array .int
  | 38 => .array .int
  | 39 => .array .int
  | 40 => .int
  | 41 => .int
  | 42 => .int
  | 43 => .int
  | 44 => .int
  | 45 => .int
  | 46 => .int
  | 47 => .int
  | 48 => .int
  | 49 => .int
  | 50 => .int
  | 51 => .int
  | 52 => .array .int
  | 53 => .array .int
  | 54 => .boolean
  | 55 => .array .int
  | 56 => .int
  | 57 => .int
  | 58 => .array .int
  | 59 => .array .int
  | 60 => .int
  | 61 => .int
  | 62 => .int
  | 63 => .int
  | 64 => .int
  | 65 => .array .int
  | 66 => .array .int
  | 67 => .int
  | 68 => .int
  | 69 => .array .int
  | 70 => .array .int
  | 71 => .array .int
  | 72 => .array .int
  | 73 => .array .int
  | 74 => .array .int
  | 75 => .array .int
  | 76 => .array .int
  | 77 => .array .int
  | 78 => .array .int
  | 79 => .int
  | 80 => .int
  | 81 => .array .int
  | 82 => .array .int
  | _ => .array .boolean
abbrev wsX120 : List Cond := u_ws RX12 TX12 84
theorem nmX12 : ∀ a, a < 84 → ∀ b, b < 84 → a ≠ b → (TX12 a).2.1 ≠ (TX12 b).2.1 := by decide +kernel
theorem tyX12_ok : ∀ k, k < 84 → parseFieldDescriptor (TX12 k).2.2.1 = some (tyX12 k) := by decide +kernel
abbrev cX12_init : ByteArray := prog_14_method_1_code
def yX12_init : MethodName := ⟨RX12, "<init>", "()V"⟩
abbrev cX12_sign : ByteArray := prog_14_method_2_code
def yX12_sign : MethodName := ⟨RX12, "sign", "(I)I"⟩
abbrev cX12_isLetter : ByteArray := prog_14_method_3_code
def yX12_isLetter : MethodName := ⟨RX12, "isLetter", "(I)Z"⟩
abbrev cX12_isDigit : ByteArray := prog_14_method_4_code
def yX12_isDigit : MethodName := ⟨RX12, "isDigit", "(I)Z"⟩
abbrev cX12_fails : ByteArray := prog_14_method_5_code
def yX12_fails : MethodName := ⟨RX12, "fails", "(II)V"⟩
abbrev cX12_isGood : ByteArray := prog_14_method_6_code
def yX12_isGood : MethodName := ⟨RX12, "isGood", "()Z"⟩
abbrev cX12_isKept : ByteArray := prog_14_method_7_code
def yX12_isKept : MethodName := ⟨RX12, "isKept", "(J)Z"⟩
abbrev cX12_isSign : ByteArray := prog_14_method_8_code
def yX12_isSign : MethodName := ⟨RX12, "isSign", "(I)Z"⟩
abbrev cX12_goOn : ByteArray := prog_14_method_9_code
def yX12_goOn : MethodName := ⟨RX12, "goOn", "()V"⟩
abbrev cX12_isSignHere : ByteArray := prog_14_method_10_code
def yX12_isSignHere : MethodName := ⟨RX12, "isSignHere", "(I)Z"⟩
abbrev cX12_isWord : ByteArray := prog_14_method_11_code
def yX12_isWord : MethodName := ⟨RX12, "isWord", "(J)Z"⟩
abbrev cX12_misplaced : ByteArray := prog_14_method_12_code
def yX12_misplaced : MethodName := ⟨RX12, "misplaced", "()V"⟩
abbrev cX12_must : ByteArray := prog_14_method_13_code
def yX12_must : MethodName := ⟨RX12, "must", "(Z)V"⟩
abbrev cX12_numeral : ByteArray := prog_14_method_14_code
def yX12_numeral : MethodName := ⟨RX12, "numeral", "(II)I"⟩
abbrev cX12_after : ByteArray := prog_14_method_15_code
def yX12_after : MethodName := ⟨RX12, "after", "(JII)I"⟩
abbrev cX12_clearBank : ByteArray := prog_14_method_16_code
def yX12_clearBank : MethodName := ⟨RX12, "clearBank", "()V"⟩
abbrev cX12_land : ByteArray := prog_14_method_17_code
def yX12_land : MethodName := ⟨RX12, "land", "()I"⟩
abbrev cX12_isFull : ByteArray := prog_14_method_18_code
def yX12_isFull : MethodName := ⟨RX12, "isFull", "()Z"⟩
abbrev cX12_readLine : ByteArray := prog_14_method_19_code
def yX12_readLine : MethodName := ⟨RX12, "readLine", "()V"⟩
abbrev cX12_here : ByteArray := prog_14_method_20_code
def yX12_here : MethodName := ⟨RX12, "here", "([JII)I"⟩
abbrev cX12_fresh : ByteArray := prog_14_method_21_code
def yX12_fresh : MethodName := ⟨RX12, "fresh", "(I)J"⟩
abbrev cX12_known : ByteArray := prog_14_method_22_code
def yX12_known : MethodName := ⟨RX12, "known", "()I"⟩
abbrev cX12_readPlace : ByteArray := prog_14_method_23_code
def yX12_readPlace : MethodName := ⟨RX12, "readPlace", "()V"⟩
abbrev cX12_readWay : ByteArray := prog_14_method_24_code
def yX12_readWay : MethodName := ⟨RX12, "readWay", "()V"⟩
abbrev cX12_signedNumber : ByteArray := prog_14_method_25_code
def yX12_signedNumber : MethodName := ⟨RX12, "signedNumber", "()I"⟩
abbrev cX12_readSoul : ByteArray := prog_14_method_26_code
def yX12_readSoul : MethodName := ⟨RX12, "readSoul", "()V"⟩
abbrev cX12_readMatter : ByteArray := prog_14_method_27_code
def yX12_readMatter : MethodName := ⟨RX12, "readMatter", "()V"⟩
abbrev cX12_readRule : ByteArray := prog_14_method_28_code
def yX12_readRule : MethodName := ⟨RX12, "readRule", "(I)V"⟩
abbrev cX12_emit : ByteArray := prog_14_method_29_code
def yX12_emit : MethodName := ⟨RX12, "emit", "(II)V"⟩
abbrev cX12_pushE : ByteArray := prog_14_method_30_code
def yX12_pushE : MethodName := ⟨RX12, "pushE", "(II)V"⟩
abbrev cX12_e : ByteArray := prog_14_method_31_code
def yX12_e : MethodName := ⟨RX12, "e", "()V"⟩
abbrev cX12_wordHere : ByteArray := prog_14_method_32_code
def yX12_wordHere : MethodName := ⟨RX12, "wordHere", "()I"⟩
abbrev cX12_unit : ByteArray := prog_14_method_33_code
def yX12_unit : MethodName := ⟨RX12, "unit", "()Z"⟩
abbrev cX12_rankHere : ByteArray := prog_14_method_34_code
def yX12_rankHere : MethodName := ⟨RX12, "rankHere", "()I"⟩
abbrev cX12_isCompared : ByteArray := prog_14_method_35_code
def yX12_isCompared : MethodName := ⟨RX12, "isCompared", "()Z"⟩
abbrev cX12_behindUnit : ByteArray := prog_14_method_36_code
def yX12_behindUnit : MethodName := ⟨RX12, "behindUnit", "()Z"⟩
abbrev cX12_two : ByteArray := prog_14_method_37_code
def yX12_two : MethodName := ⟨RX12, "two", "(III)I"⟩
abbrev cX12_asked : ByteArray := prog_14_method_38_code
def yX12_asked : MethodName := ⟨RX12, "asked", "(II)I"⟩
abbrev cX12_comes : ByteArray := prog_14_method_39_code
def yX12_comes : MethodName := ⟨RX12, "comes", "(I)I"⟩
abbrev cX12_fault : ByteArray := prog_14_method_40_code
def yX12_fault : MethodName := ⟨RX12, "fault", "(I)I"⟩
abbrev cX12_isIn : ByteArray := prog_14_method_41_code
def yX12_isIn : MethodName := ⟨RX12, "isIn", "(III)Z"⟩
abbrev cX12_soulMany : ByteArray := prog_14_method_42_code
def yX12_soulMany : MethodName := ⟨RX12, "soulMany", "()I"⟩
abbrev cX12_isPlace : ByteArray := prog_14_method_43_code
def yX12_isPlace : MethodName := ⟨RX12, "isPlace", "(I)Z"⟩
abbrev cX12_isWay : ByteArray := prog_14_method_44_code
def yX12_isWay : MethodName := ⟨RX12, "isWay", "(I)Z"⟩
abbrev cX12_isCouple : ByteArray := prog_14_method_45_code
def yX12_isCouple : MethodName := ⟨RX12, "isCouple", "(III)Z"⟩
abbrev cX12_temperOf : ByteArray := prog_14_method_46_code
def yX12_temperOf : MethodName := ⟨RX12, "temperOf", "(II)I"⟩
abbrev cX12_begin : ByteArray := prog_14_method_47_code
def yX12_begin : MethodName := ⟨RX12, "begin", "([IIII)V"⟩
abbrev cX12_isEnded : ByteArray := prog_14_method_48_code
def yX12_isEnded : MethodName := ⟨RX12, "isEnded", "([I)Z"⟩
abbrev cX12_warm : ByteArray := prog_14_method_49_code
def yX12_warm : MethodName := ⟨RX12, "warm", "(I)I"⟩
abbrev cX12_say : ByteArray := prog_14_method_50_code
def yX12_say : MethodName := ⟨RX12, "say", "([III)V"⟩
abbrev cX12_push : ByteArray := prog_14_method_51_code
def yX12_push : MethodName := ⟨RX12, "push", "([II)V"⟩
abbrev cX12_openLength : ByteArray := prog_14_method_52_code
def yX12_openLength : MethodName := ⟨RX12, "openLength", "(III)I"⟩
abbrev cX12_quarrel : ByteArray := prog_14_method_53_code
def yX12_quarrel : MethodName := ⟨RX12, "quarrel", "(III)I"⟩
abbrev cX12_heat : ByteArray := prog_14_method_54_code
def yX12_heat : MethodName := ⟨RX12, "heat", "(IIII)I"⟩
abbrev cX12_soul : ByteArray := prog_14_method_55_code
def yX12_soul : MethodName := ⟨RX12, "soul", "(II)I"⟩
abbrev cX12_fromOf : ByteArray := prog_14_method_56_code
def yX12_fromOf : MethodName := ⟨RX12, "fromOf", "(I)I"⟩
abbrev cX12_toOf : ByteArray := prog_14_method_57_code
def yX12_toOf : MethodName := ⟨RX12, "toOf", "(I)I"⟩
abbrev cX12_milesOf : ByteArray := prog_14_method_58_code
def yX12_milesOf : MethodName := ⟨RX12, "milesOf", "(I)I"⟩
abbrev cX12_way : ByteArray := prog_14_method_59_code
def yX12_way : MethodName := ⟨RX12, "way", "(II)I"⟩
abbrev cX12_otherEnd : ByteArray := prog_14_method_60_code
def yX12_otherEnd : MethodName := ⟨RX12, "otherEnd", "(II)I"⟩
abbrev cX12_startAnew : ByteArray := prog_14_method_61_code
def yX12_startAnew : MethodName := ⟨RX12, "startAnew", "()V"⟩
abbrev cX12_keepAct : ByteArray := prog_14_method_62_code
def yX12_keepAct : MethodName := ⟨RX12, "keepAct", "()V"⟩
abbrev cX12_exchange : ByteArray := prog_14_method_63_code
def yX12_exchange : MethodName := ⟨RX12, "exchange", "()V"⟩
abbrev cX12_doWalk : ByteArray := prog_14_method_64_code
def yX12_doWalk : MethodName := ⟨RX12, "doWalk", "()Z"⟩
abbrev cX12_setOut : ByteArray := prog_14_method_65_code
def yX12_setOut : MethodName := ⟨RX12, "setOut", "(IIII)I"⟩
abbrev cX12_take : ByteArray := prog_14_method_66_code
def yX12_take : MethodName := ⟨RX12, "take", "(I)I"⟩
abbrev cX12_words : ByteArray := prog_14_method_67_code
def yX12_words : MethodName := ⟨RX12, "words", "(I)I"⟩
abbrev cX12_year : ByteArray := prog_14_method_68_code
def yX12_year : MethodName := ⟨RX12, "year", "()I"⟩
abbrev cX12_walk : ByteArray := prog_14_method_69_code
def yX12_walk : MethodName := ⟨RX12, "walk", "(I)I"⟩
abbrev cX12_undo : ByteArray := prog_14_method_70_code
def yX12_undo : MethodName := ⟨RX12, "undo", "()Z"⟩
abbrev cX12_redo : ByteArray := prog_14_method_71_code
def yX12_redo : MethodName := ⟨RX12, "redo", "()Z"⟩
abbrev cX12_lies : ByteArray := prog_14_method_72_code
def yX12_lies : MethodName := ⟨RX12, "lies", "(I)I"⟩
abbrev cX12_start : ByteArray := prog_14_method_73_code
def yX12_start : MethodName := ⟨RX12, "start", "(I)I"⟩
abbrev cX12_routeEnd : ByteArray := prog_14_method_74_code
def yX12_routeEnd : MethodName := ⟨RX12, "routeEnd", "()I"⟩
abbrev cX12_step : ByteArray := prog_14_method_75_code
def yX12_step : MethodName := ⟨RX12, "step", "(I)I"⟩
abbrev cX12_along : ByteArray := prog_14_method_76_code
def yX12_along : MethodName := ⟨RX12, "along", "([III)V"⟩
abbrev cX12_walked : ByteArray := prog_14_method_77_code
def yX12_walked : MethodName := ⟨RX12, "walked", "(IIII)I"⟩
abbrev cX12_layFar : ByteArray := prog_14_method_78_code
def yX12_layFar : MethodName := ⟨RX12, "layFar", "(I)V"⟩
abbrev cX12_layShortest : ByteArray := prog_14_method_79_code
def yX12_layShortest : MethodName := ⟨RX12, "layShortest", "(II)I"⟩
abbrev cX12_shortest : ByteArray := prog_14_method_80_code
def yX12_shortest : MethodName := ⟨RX12, "shortest", "(II)I"⟩
abbrev cX12_coupleMany : ByteArray := prog_14_method_81_code
def yX12_coupleMany : MethodName := ⟨RX12, "coupleMany", "()I"⟩
abbrev cX12_firstOf : ByteArray := prog_14_method_82_code
def yX12_firstOf : MethodName := ⟨RX12, "firstOf", "(I)I"⟩
abbrev cX12_otherOf : ByteArray := prog_14_method_83_code
def yX12_otherOf : MethodName := ⟨RX12, "otherOf", "(I)I"⟩
abbrev cX12_matterOf : ByteArray := prog_14_method_84_code
def yX12_matterOf : MethodName := ⟨RX12, "matterOf", "(I)I"⟩
abbrev cX12_canBe : ByteArray := prog_14_method_85_code
def yX12_canBe : MethodName := ⟨RX12, "canBe", "(I)Z"⟩
abbrev cX12_beginBy : ByteArray := prog_14_method_86_code
def yX12_beginBy : MethodName := ⟨RX12, "beginBy", "(I)V"⟩
abbrev cX12_send : ByteArray := prog_14_method_87_code
def yX12_send : MethodName := ⟨RX12, "send", "(II)I"⟩
abbrev cX12_measured : ByteArray := prog_14_method_88_code
def yX12_measured : MethodName := ⟨RX12, "measured", "(IIIZ)Z"⟩
abbrev cX12_measureBy : ByteArray := prog_14_method_89_code
def yX12_measureBy : MethodName := ⟨RX12, "measureBy", "(IIZ)I"⟩
abbrev cX12_measure : ByteArray := prog_14_method_90_code
def yX12_measure : MethodName := ⟨RX12, "measure", "(IIIIZ)I"⟩
abbrev cX12_adds : ByteArray := prog_14_method_91_code
def yX12_adds : MethodName := ⟨RX12, "adds", "(II)I"⟩
abbrev cX12_isFair : ByteArray := prog_14_method_92_code
def yX12_isFair : MethodName := ⟨RX12, "isFair", "(I)Z"⟩
abbrev cX12_fair : ByteArray := prog_14_method_93_code
def yX12_fair : MethodName := ⟨RX12, "fair", "()I"⟩
abbrev cX12_layJust : ByteArray := prog_14_method_94_code
def yX12_layJust : MethodName := ⟨RX12, "layJust", "()V"⟩
abbrev cX12_layCouple : ByteArray := prog_14_method_95_code
def yX12_layCouple : MethodName := ⟨RX12, "layCouple", "(II)V"⟩
abbrev cX12_cover : ByteArray := prog_14_method_96_code
def yX12_cover : MethodName := ⟨RX12, "cover", "()I"⟩
abbrev cX12_coverByThree : ByteArray := prog_14_method_97_code
def yX12_coverByThree : MethodName := ⟨RX12, "coverByThree", "(II)I"⟩
abbrev cX12_turned : ByteArray := prog_14_method_98_code
def yX12_turned : MethodName := ⟨RX12, "turned", "()I"⟩
abbrev cX12_loud : ByteArray := prog_14_method_99_code
def yX12_loud : MethodName := ⟨RX12, "loud", "(IIII)I"⟩
abbrev cX12_doesLead : ByteArray := prog_14_method_100_code
def yX12_doesLead : MethodName := ⟨RX12, "doesLead", "(IIII)Z"⟩
abbrev cX12_endsJust : ByteArray := prog_14_method_101_code
def yX12_endsJust : MethodName := ⟨RX12, "endsJust", "(III)Z"⟩
abbrev cX12_home : ByteArray := prog_14_method_102_code
def yX12_home : MethodName := ⟨RX12, "home", "(IIIIII)I"⟩
abbrev cX12_layTempers : ByteArray := prog_14_method_103_code
def yX12_layTempers : MethodName := ⟨RX12, "layTempers", "(II[I)V"⟩
abbrev cX12_apart : ByteArray := prog_14_method_104_code
def yX12_apart : MethodName := ⟨RX12, "apart", "(II)I"⟩
abbrev cX12_changes : ByteArray := prog_14_method_105_code
def yX12_changes : MethodName := ⟨RX12, "changes", "(IIII)I"⟩
abbrev cX12_temper : ByteArray := prog_14_method_106_code
def yX12_temper : MethodName := ⟨RX12, "temper", "(IIII)I"⟩
abbrev cX12_toldLength : ByteArray := prog_14_method_107_code
def yX12_toldLength : MethodName := ⟨RX12, "toldLength", "(III)I"⟩
abbrev cX12_report : ByteArray := prog_14_method_108_code
def yX12_report : MethodName := ⟨RX12, "report", "(IIII)I"⟩
abbrev cX12_untell : ByteArray := prog_14_method_109_code
def yX12_untell : MethodName := ⟨RX12, "untell", "(I)Z"⟩
abbrev cX12_later : ByteArray := prog_14_method_110_code
def yX12_later : MethodName := ⟨RX12, "later", "(I)I"⟩
abbrev cX12_reported : ByteArray := prog_14_method_111_code
def yX12_reported : MethodName := ⟨RX12, "reported", "(II)I"⟩
abbrev cX12_isSo : ByteArray := prog_14_method_112_code
def yX12_isSo : MethodName := ⟨RX12, "isSo", "(II)Z"⟩
abbrev cX12_miles : ByteArray := prog_14_method_113_code
def yX12_miles : MethodName := ⟨RX12, "miles", "(I)J"⟩
abbrev cX12_mostLeft : ByteArray := prog_14_method_114_code
def yX12_mostLeft : MethodName := ⟨RX12, "mostLeft", "(IJ)I"⟩
abbrev cX12_ask : ByteArray := prog_14_method_115_code
def yX12_ask : MethodName := ⟨RX12, "ask", "(II)I"⟩
abbrev cX12_wordsInAll : ByteArray := prog_14_method_116_code
def yX12_wordsInAll : MethodName := ⟨RX12, "wordsInAll", "()I"⟩
abbrev cX12_image : ByteArray := prog_14_method_117_code
def yX12_image : MethodName := ⟨RX12, "image", "(I)I"⟩
abbrev cX12_back : ByteArray := prog_14_method_118_code
def yX12_back : MethodName := ⟨RX12, "back", "(I)I"⟩
abbrev cX12_about : ByteArray := prog_14_method_119_code
def yX12_about : MethodName := ⟨RX12, "about", "(I)I"⟩
abbrev cX12_feed : ByteArray := prog_14_method_120_code
def yX12_feed : MethodName := ⟨RX12, "feed", "(IIIII)I"⟩
abbrev cX12_end : ByteArray := prog_14_method_121_code
def yX12_end : MethodName := ⟨RX12, "end", "(I)I"⟩
def RJ13 : String := "java/lang/Long"
def TJ13 : u_T := fun k => match k with
  | _ => ("", "", "", false)
def tyJ13 : Nat → FieldType := fun k => match k with
  | _ => .int
abbrev wsJ130 : List Cond := u_ws RJ13 TJ13 0
theorem nmJ13 : ∀ a, a < 0 → ∀ b, b < 0 → a ≠ b → (TJ13 a).2.1 ≠ (TJ13 b).2.1 := by decide +kernel
theorem tyJ13_ok : ∀ k, k < 0 → parseFieldDescriptor (TJ13 k).2.2.1 = some (tyJ13 k) := by decide +kernel
abbrev cJ13_bitCount_95d88 : ByteArray := prog_15_method_50_code
def yJ13_bitCount_95d88 : MethodName := ⟨RJ13, "bitCount", "(J)I"⟩
def RJ9 : String := "java/lang/Math"
def TJ9 : u_T := fun k => match k with
  | _ => ("", "", "", false)
def tyJ9 : Nat → FieldType := fun k => match k with
  | _ => .int
abbrev wsJ90 : List Cond := u_ws RJ9 TJ9 0
theorem nmJ9 : ∀ a, a < 0 → ∀ b, b < 0 → a ≠ b → (TJ9 a).2.1 ≠ (TJ9 b).2.1 := by decide +kernel
theorem tyJ9_ok : ∀ k, k < 0 → parseFieldDescriptor (TJ9 k).2.2.1 = some (tyJ9 k) := by decide +kernel
abbrev cJ9_abs_0f7a4 : ByteArray := prog_16_method_59_code
def yJ9_abs_0f7a4 : MethodName := ⟨RJ9, "abs", "(I)I"⟩
abbrev cJ9_max_7cf53 : ByteArray := prog_16_method_65_code
def yJ9_max_7cf53 : MethodName := ⟨RJ9, "max", "(II)I"⟩
abbrev cJ9_min_7cf53 : ByteArray := prog_16_method_69_code
def yJ9_min_7cf53 : MethodName := ⟨RJ9, "min", "(II)I"⟩
def RJ0 : String := "java/lang/String"
def TJ0 : u_T := fun k => match k with
  | _ => ("", "", "", false)
def tyJ0 : Nat → FieldType := fun k => match k with
  | _ => .int
abbrev wsJ00 : List Cond := u_ws RJ0 TJ0 0
theorem nmJ0 : ∀ a, a < 0 → ∀ b, b < 0 → a ≠ b → (TJ0 a).2.1 ≠ (TJ0 b).2.1 := by decide +kernel
theorem tyJ0_ok : ∀ k, k < 0 → parseFieldDescriptor (TJ0 k).2.2.1 = some (tyJ0 k) := by decide +kernel
abbrev cJ0_length_8abf5 : ByteArray := prog_17_method_54_code
def yJ0_length_8abf5 : MethodName := ⟨RJ0, "length", "()I"⟩
abbrev cJ0_charAt_5068e : ByteArray := prog_17_method_56_code
def yJ0_charAt_5068e : MethodName := ⟨RJ0, "charAt", "(I)C"⟩
abbrev cJ0_coder_7d493 : ByteArray := prog_17_method_152_code
def yJ0_coder_7d493 : MethodName := ⟨RJ0, "coder", "()B"⟩
abbrev cJ0_isLatin1_aae02 : ByteArray := prog_17_method_154_code
def yJ0_isLatin1_aae02 : MethodName := ⟨RJ0, "isLatin1", "()Z"⟩
abbrev cJ0_checkIndex_df160 : ByteArray := prog_17_method_155_code
def yJ0_checkIndex_df160 : MethodName := ⟨RJ0, "checkIndex", "(II)V"⟩
def RJ1 : String := "java/lang/StringLatin1"
def TJ1 : u_T := fun k => match k with
  | _ => ("", "", "", false)
def tyJ1 : Nat → FieldType := fun k => match k with
  | _ => .int
abbrev wsJ10 : List Cond := u_ws RJ1 TJ1 0
theorem nmJ1 : ∀ a, a < 0 → ∀ b, b < 0 → a ≠ b → (TJ1 a).2.1 ≠ (TJ1 b).2.1 := by decide +kernel
theorem tyJ1_ok : ∀ k, k < 0 → parseFieldDescriptor (TJ1 k).2.2.1 = some (tyJ1 k) := by decide +kernel
abbrev cJ1_charAt_3b067 : ByteArray := prog_18_method_2_code
def yJ1_charAt_3b067 : MethodName := ⟨RJ1, "charAt", "([BI)C"⟩
def RJ2 : String := "java/lang/StringUTF16"
def TJ2 : u_T := fun k => match k with
  | _ => ("", "", "", false)
def tyJ2 : Nat → FieldType := fun k => match k with
  | _ => .int
abbrev wsJ20 : List Cond := u_ws RJ2 TJ2 0
theorem nmJ2 : ∀ a, a < 0 → ∀ b, b < 0 → a ≠ b → (TJ2 a).2.1 ≠ (TJ2 b).2.1 := by decide +kernel
theorem tyJ2_ok : ∀ k, k < 0 → parseFieldDescriptor (TJ2 k).2.2.1 = some (tyJ2 k) := by decide +kernel
abbrev cJ2_getChar_3b067 : ByteArray := prog_19_method_5_code
def yJ2_getChar_3b067 : MethodName := ⟨RJ2, "getChar", "([BI)C"⟩
abbrev cJ2_length_9d52b : ByteArray := prog_19_method_6_code
def yJ2_length_9d52b : MethodName := ⟨RJ2, "length", "([B)I"⟩
abbrev cJ2_charAt_3b067 : ByteArray := prog_19_method_83_code
def yJ2_charAt_3b067 : MethodName := ⟨RJ2, "charAt", "([BI)C"⟩
abbrev cJ2_checkIndex_2214a : ByteArray := prog_19_method_91_code
def yJ2_checkIndex_2214a : MethodName := ⟨RJ2, "checkIndex", "(I[B)V"⟩
def RJ3 : String := "jdk/internal/util/Preconditions"
def TJ3 : u_T := fun k => match k with
  | _ => ("", "", "", false)
def tyJ3 : Nat → FieldType := fun k => match k with
  | _ => .int
abbrev wsJ30 : List Cond := u_ws RJ3 TJ3 0
theorem nmJ3 : ∀ a, a < 0 → ∀ b, b < 0 → a ≠ b → (TJ3 a).2.1 ≠ (TJ3 b).2.1 := by decide +kernel
theorem tyJ3_ok : ∀ k, k < 0 → parseFieldDescriptor (TJ3 k).2.2.1 = some (tyJ3 k) := by decide +kernel
abbrev cJ3_checkIndex_8e157 : ByteArray := prog_20_method_11_code
def yJ3_checkIndex_8e157 : MethodName := ⟨RJ3, "checkIndex", "(IILjava/util/function/BiFunction;)I"⟩
def RL : String := "QuarrelMilesLaw"
abbrev cL_law : ByteArray := code
def yL_law : MethodName := ⟨RL, "law", "([I)Z"⟩
abbrev vwCl : List vw_C := [(RX0, TX0, 14), (RX1, TX1, 20), (RX2, TX2, 4), (RX3, TX3, 5), (RX4, TX4, 20), (RX5, TX5, 6), (RX6, TX6, 7), (RX7, TX7, 4), (RX8, TX8, 4), (RX9, TX9, 7), (RX10, TX10, 7), (RX11, TX11, 10), (RX12, TX12, 84)]
