section
-- ===== PART A: goes FIRST, ahead of the names: the tables' words, and 'selects' of the private methods out of them =====
/-- a private method of a class that the tables say can be made, by its rows of tables_1 -/
def lw_okq (q : MethodName × Nat) : Prop := (q.1.cls ≠ "java/lang/invoke/MethodHandle" ∧ q.1.cls ≠ "java/lang/invoke/VarHandle") ∧ Cond.instantiable q.1.cls q.2 ∈ tables_1 ∧ Cond.privateMethod q.1 ∈ tables_1 ∧ Cond.instanceMethod q.1 ∈ tables_1
theorem lw_p0 : lw_okq (⟨"GroupTrees$Tokens", "scan", "()V"⟩, 12) := ⟨⟨by decide +kernel, by decide +kernel⟩, List.mem_of_getElem? (i := 34) (by decide +kernel), List.mem_of_getElem? (i := 612) (by decide +kernel), List.mem_of_getElem? (i := 613) (by decide +kernel)⟩
theorem lw_p1 : lw_okq (⟨"GroupTrees$Tokens", "word", "()V"⟩, 12) := ⟨⟨by decide +kernel, by decide +kernel⟩, List.mem_of_getElem? (i := 34) (by decide +kernel), List.mem_of_getElem? (i := 619) (by decide +kernel), List.mem_of_getElem? (i := 620) (by decide +kernel)⟩
theorem lw_p2 : lw_okq (⟨"GroupTrees$Tokens", "number", "()V"⟩, 12) := ⟨⟨by decide +kernel, by decide +kernel⟩, List.mem_of_getElem? (i := 34) (by decide +kernel), List.mem_of_getElem? (i := 629) (by decide +kernel), List.mem_of_getElem? (i := 630) (by decide +kernel)⟩
theorem lw_p3 : lw_okq (⟨"GroupTrees$Tokens", "lengthen", "()V"⟩, 12) := ⟨⟨by decide +kernel, by decide +kernel⟩, List.mem_of_getElem? (i := 34) (by decide +kernel), List.mem_of_getElem? (i := 637) (by decide +kernel), List.mem_of_getElem? (i := 638) (by decide +kernel)⟩
theorem lw_p4 : lw_okq (⟨"GroupTrees$Reader", "nodeLine", "()Z"⟩, 10) := ⟨⟨by decide +kernel, by decide +kernel⟩, List.mem_of_getElem? (i := 286) (by decide +kernel), List.mem_of_getElem? (i := 645) (by decide +kernel), List.mem_of_getElem? (i := 646) (by decide +kernel)⟩
theorem lw_p5 : lw_okq (⟨"GroupTrees$Reader", "room", "(II)Z"⟩, 10) := ⟨⟨by decide +kernel, by decide +kernel⟩, List.mem_of_getElem? (i := 286) (by decide +kernel), List.mem_of_getElem? (i := 649) (by decide +kernel), List.mem_of_getElem? (i := 650) (by decide +kernel)⟩
theorem lw_p6 : lw_okq (⟨"GroupTrees$Reader", "fail", "(I)Z"⟩, 10) := ⟨⟨by decide +kernel, by decide +kernel⟩, List.mem_of_getElem? (i := 286) (by decide +kernel), List.mem_of_getElem? (i := 654) (by decide +kernel), List.mem_of_getElem? (i := 655) (by decide +kernel)⟩
theorem lw_p7 : lw_okq (⟨"GroupTrees$Reader", "newName", "([II)Z"⟩, 10) := ⟨⟨by decide +kernel, by decide +kernel⟩, List.mem_of_getElem? (i := 286) (by decide +kernel), List.mem_of_getElem? (i := 658) (by decide +kernel), List.mem_of_getElem? (i := 659) (by decide +kernel)⟩
theorem lw_p8 : lw_okq (⟨"GroupTrees$Reader", "linkLine", "()Z"⟩, 10) := ⟨⟨by decide +kernel, by decide +kernel⟩, List.mem_of_getElem? (i := 286) (by decide +kernel), List.mem_of_getElem? (i := 663) (by decide +kernel), List.mem_of_getElem? (i := 664) (by decide +kernel)⟩
theorem lw_p9 : lw_okq (⟨"GroupTrees$Reader", "number", "(II)Z"⟩, 10) := ⟨⟨by decide +kernel, by decide +kernel⟩, List.mem_of_getElem? (i := 286) (by decide +kernel), List.mem_of_getElem? (i := 667) (by decide +kernel), List.mem_of_getElem? (i := 668) (by decide +kernel)⟩
theorem lw_p10 : lw_okq (⟨"GroupTrees$Reader", "member", "(II)Z"⟩, 10) := ⟨⟨by decide +kernel, by decide +kernel⟩, List.mem_of_getElem? (i := 286) (by decide +kernel), List.mem_of_getElem? (i := 671) (by decide +kernel), List.mem_of_getElem? (i := 672) (by decide +kernel)⟩
theorem lw_p11 : lw_okq (⟨"GroupTrees$Reader", "meetLine", "()Z"⟩, 10) := ⟨⟨by decide +kernel, by decide +kernel⟩, List.mem_of_getElem? (i := 286) (by decide +kernel), List.mem_of_getElem? (i := 675) (by decide +kernel), List.mem_of_getElem? (i := 676) (by decide +kernel)⟩
theorem lw_p12 : lw_okq (⟨"GroupTrees$Reader", "once", "()Z"⟩, 10) := ⟨⟨by decide +kernel, by decide +kernel⟩, List.mem_of_getElem? (i := 286) (by decide +kernel), List.mem_of_getElem? (i := 679) (by decide +kernel), List.mem_of_getElem? (i := 680) (by decide +kernel)⟩
theorem lw_p13 : lw_okq (⟨"GroupTrees$Reader", "oldName", "([II)Z"⟩, 10) := ⟨⟨by decide +kernel, by decide +kernel⟩, List.mem_of_getElem? (i := 286) (by decide +kernel), List.mem_of_getElem? (i := 683) (by decide +kernel), List.mem_of_getElem? (i := 684) (by decide +kernel)⟩
theorem lw_p14 : lw_okq (⟨"GroupTrees$Reader", "sourceLine", "()Z"⟩, 10) := ⟨⟨by decide +kernel, by decide +kernel⟩, List.mem_of_getElem? (i := 286) (by decide +kernel), List.mem_of_getElem? (i := 687) (by decide +kernel), List.mem_of_getElem? (i := 688) (by decide +kernel)⟩
theorem lw_p15 : lw_okq (⟨"GroupTrees$Reader", "eventLine", "()Z"⟩, 10) := ⟨⟨by decide +kernel, by decide +kernel⟩, List.mem_of_getElem? (i := 286) (by decide +kernel), List.mem_of_getElem? (i := 691) (by decide +kernel), List.mem_of_getElem? (i := 692) (by decide +kernel)⟩
def lw_privs_1 : List (MethodName × Nat) := [(⟨"GroupTrees$Tokens", "scan", "()V"⟩, 12), (⟨"GroupTrees$Tokens", "word", "()V"⟩, 12), (⟨"GroupTrees$Tokens", "number", "()V"⟩, 12), (⟨"GroupTrees$Tokens", "lengthen", "()V"⟩, 12), (⟨"GroupTrees$Reader", "nodeLine", "()Z"⟩, 10), (⟨"GroupTrees$Reader", "room", "(II)Z"⟩, 10), (⟨"GroupTrees$Reader", "fail", "(I)Z"⟩, 10), (⟨"GroupTrees$Reader", "newName", "([II)Z"⟩, 10), (⟨"GroupTrees$Reader", "linkLine", "()Z"⟩, 10), (⟨"GroupTrees$Reader", "number", "(II)Z"⟩, 10), (⟨"GroupTrees$Reader", "member", "(II)Z"⟩, 10), (⟨"GroupTrees$Reader", "meetLine", "()Z"⟩, 10), (⟨"GroupTrees$Reader", "once", "()Z"⟩, 10), (⟨"GroupTrees$Reader", "oldName", "([II)Z"⟩, 10), (⟨"GroupTrees$Reader", "sourceLine", "()Z"⟩, 10), (⟨"GroupTrees$Reader", "eventLine", "()Z"⟩, 10)]
theorem lw_r1 : ∀ q ∈ lw_privs_1, lw_okq q := List.forall_mem_cons.mpr ⟨lw_p0, List.forall_mem_cons.mpr ⟨lw_p1, List.forall_mem_cons.mpr ⟨lw_p2, List.forall_mem_cons.mpr ⟨lw_p3, List.forall_mem_cons.mpr ⟨lw_p4, List.forall_mem_cons.mpr ⟨lw_p5, List.forall_mem_cons.mpr ⟨lw_p6, List.forall_mem_cons.mpr ⟨lw_p7, List.forall_mem_cons.mpr ⟨lw_p8, List.forall_mem_cons.mpr ⟨lw_p9, List.forall_mem_cons.mpr ⟨lw_p10, List.forall_mem_cons.mpr ⟨lw_p11, List.forall_mem_cons.mpr ⟨lw_p12, List.forall_mem_cons.mpr ⟨lw_p13, List.forall_mem_cons.mpr ⟨lw_p14, List.forall_mem_cons.mpr ⟨lw_p15, fun _ h => absurd h List.not_mem_nil⟩⟩⟩⟩⟩⟩⟩⟩⟩⟩⟩⟩⟩⟩⟩⟩
theorem lw_p16 : lw_okq (⟨"GroupTrees$Reader", "oldLink", "()Z"⟩, 10) := ⟨⟨by decide +kernel, by decide +kernel⟩, List.mem_of_getElem? (i := 286) (by decide +kernel), List.mem_of_getElem? (i := 695) (by decide +kernel), List.mem_of_getElem? (i := 696) (by decide +kernel)⟩
theorem lw_p17 : lw_okq (⟨"GroupTrees$Reader", "sendLine", "()Z"⟩, 10) := ⟨⟨by decide +kernel, by decide +kernel⟩, List.mem_of_getElem? (i := 286) (by decide +kernel), List.mem_of_getElem? (i := 699) (by decide +kernel), List.mem_of_getElem? (i := 700) (by decide +kernel)⟩
theorem lw_p18 : lw_okq (⟨"GroupTrees$Reader", "numberLine", "()Z"⟩, 10) := ⟨⟨by decide +kernel, by decide +kernel⟩, List.mem_of_getElem? (i := 286) (by decide +kernel), List.mem_of_getElem? (i := 703) (by decide +kernel), List.mem_of_getElem? (i := 704) (by decide +kernel)⟩
theorem lw_p19 : lw_okq (⟨"GroupTrees$Reader", "lawLine", "()Z"⟩, 10) := ⟨⟨by decide +kernel, by decide +kernel⟩, List.mem_of_getElem? (i := 286) (by decide +kernel), List.mem_of_getElem? (i := 708) (by decide +kernel), List.mem_of_getElem? (i := 709) (by decide +kernel)⟩
theorem lw_p20 : lw_okq (⟨"GroupTrees$Reader", "formula", "()Z"⟩, 10) := ⟨⟨by decide +kernel, by decide +kernel⟩, List.mem_of_getElem? (i := 286) (by decide +kernel), List.mem_of_getElem? (i := 712) (by decide +kernel), List.mem_of_getElem? (i := 713) (by decide +kernel)⟩
theorem lw_p21 : lw_okq (⟨"GroupTrees$Reader", "side", "()Z"⟩, 10) := ⟨⟨by decide +kernel, by decide +kernel⟩, List.mem_of_getElem? (i := 286) (by decide +kernel), List.mem_of_getElem? (i := 716) (by decide +kernel), List.mem_of_getElem? (i := 717) (by decide +kernel)⟩
theorem lw_p22 : lw_okq (⟨"GroupTrees$Reader", "push", "(I)Z"⟩, 10) := ⟨⟨by decide +kernel, by decide +kernel⟩, List.mem_of_getElem? (i := 286) (by decide +kernel), List.mem_of_getElem? (i := 720) (by decide +kernel), List.mem_of_getElem? (i := 721) (by decide +kernel)⟩
theorem lw_p23 : lw_okq (⟨"GroupTrees$Reader", "topRank", "()I"⟩, 10) := ⟨⟨by decide +kernel, by decide +kernel⟩, List.mem_of_getElem? (i := 286) (by decide +kernel), List.mem_of_getElem? (i := 727) (by decide +kernel), List.mem_of_getElem? (i := 728) (by decide +kernel)⟩
theorem lw_p24 : lw_okq (⟨"GroupTrees$Reader", "knot", "()Z"⟩, 10) := ⟨⟨by decide +kernel, by decide +kernel⟩, List.mem_of_getElem? (i := 286) (by decide +kernel), List.mem_of_getElem? (i := 731) (by decide +kernel), List.mem_of_getElem? (i := 732) (by decide +kernel)⟩
theorem lw_p25 : lw_okq (⟨"GroupTrees$Reader", "release", "(I)V"⟩, 10) := ⟨⟨by decide +kernel, by decide +kernel⟩, List.mem_of_getElem? (i := 286) (by decide +kernel), List.mem_of_getElem? (i := 739) (by decide +kernel), List.mem_of_getElem? (i := 740) (by decide +kernel)⟩
theorem lw_p26 : lw_okq (⟨"GroupTrees$Reader", "sign", "()Z"⟩, 10) := ⟨⟨by decide +kernel, by decide +kernel⟩, List.mem_of_getElem? (i := 286) (by decide +kernel), List.mem_of_getElem? (i := 743) (by decide +kernel), List.mem_of_getElem? (i := 744) (by decide +kernel)⟩
theorem lw_p27 : lw_okq (⟨"GroupTrees$Reader", "stops", "()Z"⟩, 10) := ⟨⟨by decide +kernel, by decide +kernel⟩, List.mem_of_getElem? (i := 286) (by decide +kernel), List.mem_of_getElem? (i := 747) (by decide +kernel), List.mem_of_getElem? (i := 748) (by decide +kernel)⟩
theorem lw_p28 : lw_okq (⟨"GroupTrees", "isLink", "(I)Z"⟩, 14) := ⟨⟨by decide +kernel, by decide +kernel⟩, List.mem_of_getElem? (i := 26) (by decide +kernel), List.mem_of_getElem? (i := 781) (by decide +kernel), List.mem_of_getElem? (i := 782) (by decide +kernel)⟩
theorem lw_p29 : lw_okq (⟨"GroupTrees", "isTree", "(I)Z"⟩, 14) := ⟨⟨by decide +kernel, by decide +kernel⟩, List.mem_of_getElem? (i := 26) (by decide +kernel), List.mem_of_getElem? (i := 789) (by decide +kernel), List.mem_of_getElem? (i := 790) (by decide +kernel)⟩
theorem lw_p30 : lw_okq (⟨"GroupTrees", "isNode", "(I)Z"⟩, 14) := ⟨⟨by decide +kernel, by decide +kernel⟩, List.mem_of_getElem? (i := 26) (by decide +kernel), List.mem_of_getElem? (i := 793) (by decide +kernel), List.mem_of_getElem? (i := 794) (by decide +kernel)⟩
theorem lw_p31 : lw_okq (⟨"GroupTrees$Plan", "relax", "(II[II)Z"⟩, 20) := ⟨⟨by decide +kernel, by decide +kernel⟩, List.mem_of_getElem? (i := 132) (by decide +kernel), List.mem_of_getElem? (i := 809) (by decide +kernel), List.mem_of_getElem? (i := 810) (by decide +kernel)⟩
def lw_privs_2 : List (MethodName × Nat) := [(⟨"GroupTrees$Reader", "oldLink", "()Z"⟩, 10), (⟨"GroupTrees$Reader", "sendLine", "()Z"⟩, 10), (⟨"GroupTrees$Reader", "numberLine", "()Z"⟩, 10), (⟨"GroupTrees$Reader", "lawLine", "()Z"⟩, 10), (⟨"GroupTrees$Reader", "formula", "()Z"⟩, 10), (⟨"GroupTrees$Reader", "side", "()Z"⟩, 10), (⟨"GroupTrees$Reader", "push", "(I)Z"⟩, 10), (⟨"GroupTrees$Reader", "topRank", "()I"⟩, 10), (⟨"GroupTrees$Reader", "knot", "()Z"⟩, 10), (⟨"GroupTrees$Reader", "release", "(I)V"⟩, 10), (⟨"GroupTrees$Reader", "sign", "()Z"⟩, 10), (⟨"GroupTrees$Reader", "stops", "()Z"⟩, 10), (⟨"GroupTrees", "isLink", "(I)Z"⟩, 14), (⟨"GroupTrees", "isTree", "(I)Z"⟩, 14), (⟨"GroupTrees", "isNode", "(I)Z"⟩, 14), (⟨"GroupTrees$Plan", "relax", "(II[II)Z"⟩, 20)]
theorem lw_r2 : ∀ q ∈ lw_privs_2, lw_okq q := List.forall_mem_cons.mpr ⟨lw_p16, List.forall_mem_cons.mpr ⟨lw_p17, List.forall_mem_cons.mpr ⟨lw_p18, List.forall_mem_cons.mpr ⟨lw_p19, List.forall_mem_cons.mpr ⟨lw_p20, List.forall_mem_cons.mpr ⟨lw_p21, List.forall_mem_cons.mpr ⟨lw_p22, List.forall_mem_cons.mpr ⟨lw_p23, List.forall_mem_cons.mpr ⟨lw_p24, List.forall_mem_cons.mpr ⟨lw_p25, List.forall_mem_cons.mpr ⟨lw_p26, List.forall_mem_cons.mpr ⟨lw_p27, List.forall_mem_cons.mpr ⟨lw_p28, List.forall_mem_cons.mpr ⟨lw_p29, List.forall_mem_cons.mpr ⟨lw_p30, List.forall_mem_cons.mpr ⟨lw_p31, fun _ h => absurd h List.not_mem_nil⟩⟩⟩⟩⟩⟩⟩⟩⟩⟩⟩⟩⟩⟩⟩⟩
theorem lw_p32 : lw_okq (⟨"GroupTrees$Net", "lookUp", "(III)V"⟩, 7) := ⟨⟨by decide +kernel, by decide +kernel⟩, List.mem_of_getElem? (i := 326) (by decide +kernel), List.mem_of_getElem? (i := 814) (by decide +kernel), List.mem_of_getElem? (i := 815) (by decide +kernel)⟩
theorem lw_p33 : lw_okq (⟨"GroupTrees$Net", "nearer", "(III)I"⟩, 7) := ⟨⟨by decide +kernel, by decide +kernel⟩, List.mem_of_getElem? (i := 326) (by decide +kernel), List.mem_of_getElem? (i := 818) (by decide +kernel), List.mem_of_getElem? (i := 819) (by decide +kernel)⟩
theorem lw_p34 : lw_okq (⟨"GroupTrees$Net", "preferred", "(LGroupTrees$State;II)I"⟩, 7) := ⟨⟨by decide +kernel, by decide +kernel⟩, List.mem_of_getElem? (i := 326) (by decide +kernel), List.mem_of_getElem? (i := 837) (by decide +kernel), List.mem_of_getElem? (i := 838) (by decide +kernel)⟩
theorem lw_p35 : lw_okq (⟨"GroupTrees$Net", "value", "(ILGroupTrees$State;II)J"⟩, 7) := ⟨⟨by decide +kernel, by decide +kernel⟩, List.mem_of_getElem? (i := 326) (by decide +kernel), List.mem_of_getElem? (i := 845) (by decide +kernel), List.mem_of_getElem? (i := 846) (by decide +kernel)⟩
theorem lw_p36 : lw_okq (⟨"GroupTrees$Net", "calls", "(LGroupTrees$State;II)Z"⟩, 7) := ⟨⟨by decide +kernel, by decide +kernel⟩, List.mem_of_getElem? (i := 326) (by decide +kernel), List.mem_of_getElem? (i := 876) (by decide +kernel), List.mem_of_getElem? (i := 877) (by decide +kernel)⟩
theorem lw_p37 : lw_okq (⟨"GroupTrees", "isSource", "(I)Z"⟩, 14) := ⟨⟨by decide +kernel, by decide +kernel⟩, List.mem_of_getElem? (i := 26) (by decide +kernel), List.mem_of_getElem? (i := 914) (by decide +kernel), List.mem_of_getElem? (i := 915) (by decide +kernel)⟩
theorem lw_p38 : lw_okq (⟨"GroupTrees$Course", "down", "(LGroupTrees$State;I[II)I"⟩, 8) := ⟨⟨by decide +kernel, by decide +kernel⟩, List.mem_of_getElem? (i := 360) (by decide +kernel), List.mem_of_getElem? (i := 927) (by decide +kernel), List.mem_of_getElem? (i := 928) (by decide +kernel)⟩
theorem lw_p39 : lw_okq (⟨"GroupTrees$Course", "passOn", "(LGroupTrees$State;II[I)I"⟩, 8) := ⟨⟨by decide +kernel, by decide +kernel⟩, List.mem_of_getElem? (i := 360) (by decide +kernel), List.mem_of_getElem? (i := 933) (by decide +kernel), List.mem_of_getElem? (i := 934) (by decide +kernel)⟩
theorem lw_p40 : lw_okq (⟨"GroupTrees$Course", "lost", "(LGroupTrees$State;)Z"⟩, 8) := ⟨⟨by decide +kernel, by decide +kernel⟩, List.mem_of_getElem? (i := 360) (by decide +kernel), List.mem_of_getElem? (i := 937) (by decide +kernel), List.mem_of_getElem? (i := 938) (by decide +kernel)⟩
theorem lw_p41 : lw_okq (⟨"GroupTrees$Course", "hear", "(LGroupTrees$State;II)V"⟩, 8) := ⟨⟨by decide +kernel, by decide +kernel⟩, List.mem_of_getElem? (i := 360) (by decide +kernel), List.mem_of_getElem? (i := 944) (by decide +kernel), List.mem_of_getElem? (i := 945) (by decide +kernel)⟩
theorem lw_p42 : lw_okq (⟨"GroupTrees$Course", "switchOver", "(LGroupTrees$State;II)V"⟩, 8) := ⟨⟨by decide +kernel, by decide +kernel⟩, List.mem_of_getElem? (i := 360) (by decide +kernel), List.mem_of_getElem? (i := 948) (by decide +kernel), List.mem_of_getElem? (i := 949) (by decide +kernel)⟩
theorem lw_p43 : lw_okq (⟨"GroupTrees$Course", "happen", "(LGroupTrees$State;)V"⟩, 8) := ⟨⟨by decide +kernel, by decide +kernel⟩, List.mem_of_getElem? (i := 360) (by decide +kernel), List.mem_of_getElem? (i := 966) (by decide +kernel), List.mem_of_getElem? (i := 967) (by decide +kernel)⟩
theorem lw_p44 : lw_okq (⟨"GroupTrees$Course", "takePlace", "(LGroupTrees$State;II)V"⟩, 8) := ⟨⟨by decide +kernel, by decide +kernel⟩, List.mem_of_getElem? (i := 360) (by decide +kernel), List.mem_of_getElem? (i := 970) (by decide +kernel), List.mem_of_getElem? (i := 971) (by decide +kernel)⟩
theorem lw_p45 : lw_okq (⟨"GroupTrees$Course", "joinUp", "(LGroupTrees$State;II)V"⟩, 8) := ⟨⟨by decide +kernel, by decide +kernel⟩, List.mem_of_getElem? (i := 360) (by decide +kernel), List.mem_of_getElem? (i := 981) (by decide +kernel), List.mem_of_getElem? (i := 982) (by decide +kernel)⟩
theorem lw_p46 : lw_okq (⟨"GroupTrees$Course", "holding", "(LGroupTrees$State;II)I"⟩, 8) := ⟨⟨by decide +kernel, by decide +kernel⟩, List.mem_of_getElem? (i := 360) (by decide +kernel), List.mem_of_getElem? (i := 986) (by decide +kernel), List.mem_of_getElem? (i := 987) (by decide +kernel)⟩
theorem lw_p47 : lw_okq (⟨"GroupTrees", "arePair", "(III)Z"⟩, 14) := ⟨⟨by decide +kernel, by decide +kernel⟩, List.mem_of_getElem? (i := 26) (by decide +kernel), List.mem_of_getElem? (i := 1074) (by decide +kernel), List.mem_of_getElem? (i := 1075) (by decide +kernel)⟩
def lw_privs_3 : List (MethodName × Nat) := [(⟨"GroupTrees$Net", "lookUp", "(III)V"⟩, 7), (⟨"GroupTrees$Net", "nearer", "(III)I"⟩, 7), (⟨"GroupTrees$Net", "preferred", "(LGroupTrees$State;II)I"⟩, 7), (⟨"GroupTrees$Net", "value", "(ILGroupTrees$State;II)J"⟩, 7), (⟨"GroupTrees$Net", "calls", "(LGroupTrees$State;II)Z"⟩, 7), (⟨"GroupTrees", "isSource", "(I)Z"⟩, 14), (⟨"GroupTrees$Course", "down", "(LGroupTrees$State;I[II)I"⟩, 8), (⟨"GroupTrees$Course", "passOn", "(LGroupTrees$State;II[I)I"⟩, 8), (⟨"GroupTrees$Course", "lost", "(LGroupTrees$State;)Z"⟩, 8), (⟨"GroupTrees$Course", "hear", "(LGroupTrees$State;II)V"⟩, 8), (⟨"GroupTrees$Course", "switchOver", "(LGroupTrees$State;II)V"⟩, 8), (⟨"GroupTrees$Course", "happen", "(LGroupTrees$State;)V"⟩, 8), (⟨"GroupTrees$Course", "takePlace", "(LGroupTrees$State;II)V"⟩, 8), (⟨"GroupTrees$Course", "joinUp", "(LGroupTrees$State;II)V"⟩, 8), (⟨"GroupTrees$Course", "holding", "(LGroupTrees$State;II)I"⟩, 8), (⟨"GroupTrees", "arePair", "(III)Z"⟩, 14)]
theorem lw_r3 : ∀ q ∈ lw_privs_3, lw_okq q := List.forall_mem_cons.mpr ⟨lw_p32, List.forall_mem_cons.mpr ⟨lw_p33, List.forall_mem_cons.mpr ⟨lw_p34, List.forall_mem_cons.mpr ⟨lw_p35, List.forall_mem_cons.mpr ⟨lw_p36, List.forall_mem_cons.mpr ⟨lw_p37, List.forall_mem_cons.mpr ⟨lw_p38, List.forall_mem_cons.mpr ⟨lw_p39, List.forall_mem_cons.mpr ⟨lw_p40, List.forall_mem_cons.mpr ⟨lw_p41, List.forall_mem_cons.mpr ⟨lw_p42, List.forall_mem_cons.mpr ⟨lw_p43, List.forall_mem_cons.mpr ⟨lw_p44, List.forall_mem_cons.mpr ⟨lw_p45, List.forall_mem_cons.mpr ⟨lw_p46, List.forall_mem_cons.mpr ⟨lw_p47, fun _ h => absurd h List.not_mem_nil⟩⟩⟩⟩⟩⟩⟩⟩⟩⟩⟩⟩⟩⟩⟩⟩
theorem lw_p48 : lw_okq (⟨"GroupTrees", "restBits", "(III)I"⟩, 14) := ⟨⟨by decide +kernel, by decide +kernel⟩, List.mem_of_getElem? (i := 26) (by decide +kernel), List.mem_of_getElem? (i := 1078) (by decide +kernel), List.mem_of_getElem? (i := 1079) (by decide +kernel)⟩
theorem lw_p49 : lw_okq (⟨"GroupTrees$Notes", "tabulate", "(I)V"⟩, 13) := ⟨⟨by decide +kernel, by decide +kernel⟩, List.mem_of_getElem? (i := 484) (by decide +kernel), List.mem_of_getElem? (i := 1122) (by decide +kernel), List.mem_of_getElem? (i := 1123) (by decide +kernel)⟩
theorem lw_p50 : lw_okq (⟨"GroupTrees$Notes", "standing", "()I"⟩, 13) := ⟨⟨by decide +kernel, by decide +kernel⟩, List.mem_of_getElem? (i := 484) (by decide +kernel), List.mem_of_getElem? (i := 1131) (by decide +kernel), List.mem_of_getElem? (i := 1132) (by decide +kernel)⟩
theorem lw_p51 : lw_okq (⟨"GroupTrees$Notes", "fits", "(II)Z"⟩, 13) := ⟨⟨by decide +kernel, by decide +kernel⟩, List.mem_of_getElem? (i := 484) (by decide +kernel), List.mem_of_getElem? (i := 1139) (by decide +kernel), List.mem_of_getElem? (i := 1140) (by decide +kernel)⟩
theorem lw_p52 : lw_okq (⟨"GroupTrees$Notes", "atWorst", "(III)I"⟩, 13) := ⟨⟨by decide +kernel, by decide +kernel⟩, List.mem_of_getElem? (i := 484) (by decide +kernel), List.mem_of_getElem? (i := 1152) (by decide +kernel), List.mem_of_getElem? (i := 1153) (by decide +kernel)⟩
theorem lw_p53 : lw_okq (⟨"java/lang/Throwable", "fillInStackTrace", "(I)Ljava/lang/Throwable;"⟩, 6) := ⟨⟨by decide +kernel, by decide +kernel⟩, List.mem_of_getElem? (i := 1245) (by decide +kernel), List.mem_of_getElem? (i := 1243) (by decide +kernel), List.mem_of_getElem? (i := 1244) (by decide +kernel)⟩
theorem lw_p54 : lw_okq (⟨"GroupTreesModel", "plain", "()V"⟩, 91) := ⟨⟨by decide +kernel, by decide +kernel⟩, List.mem_of_getElem? (i := 1294) (by decide +kernel), List.mem_of_getElem? (i := 1300) (by decide +kernel), List.mem_of_getElem? (i := 1301) (by decide +kernel)⟩
theorem lw_p55 : lw_okq (⟨"GroupTreesModel", "keepText", "()V"⟩, 91) := ⟨⟨by decide +kernel, by decide +kernel⟩, List.mem_of_getElem? (i := 1294) (by decide +kernel), List.mem_of_getElem? (i := 1304) (by decide +kernel), List.mem_of_getElem? (i := 1305) (by decide +kernel)⟩
theorem lw_p56 : lw_okq (⟨"GroupTreesModel", "begin", "()V"⟩, 91) := ⟨⟨by decide +kernel, by decide +kernel⟩, List.mem_of_getElem? (i := 1294) (by decide +kernel), List.mem_of_getElem? (i := 1311) (by decide +kernel), List.mem_of_getElem? (i := 1312) (by decide +kernel)⟩
theorem lw_p57 : lw_okq (⟨"GroupTreesModel", "plainTried", "()V"⟩, 91) := ⟨⟨by decide +kernel, by decide +kernel⟩, List.mem_of_getElem? (i := 1294) (by decide +kernel), List.mem_of_getElem? (i := 1315) (by decide +kernel), List.mem_of_getElem? (i := 1316) (by decide +kernel)⟩
theorem lw_p58 : lw_okq (⟨"GroupTreesModel", "token", "()V"⟩, 91) := ⟨⟨by decide +kernel, by decide +kernel⟩, List.mem_of_getElem? (i := 1294) (by decide +kernel), List.mem_of_getElem? (i := 1606) (by decide +kernel), List.mem_of_getElem? (i := 1607) (by decide +kernel)⟩
theorem lw_p59 : lw_okq (⟨"GroupTreesModel", "isSmall", "(I)Z"⟩, 91) := ⟨⟨by decide +kernel, by decide +kernel⟩, List.mem_of_getElem? (i := 1294) (by decide +kernel), List.mem_of_getElem? (i := 1610) (by decide +kernel), List.mem_of_getElem? (i := 1611) (by decide +kernel)⟩
theorem lw_p60 : lw_okq (⟨"GroupTreesModel", "wordAt", "(II)I"⟩, 91) := ⟨⟨by decide +kernel, by decide +kernel⟩, List.mem_of_getElem? (i := 1294) (by decide +kernel), List.mem_of_getElem? (i := 1614) (by decide +kernel), List.mem_of_getElem? (i := 1615) (by decide +kernel)⟩
theorem lw_p61 : lw_okq (⟨"GroupTreesModel", "packed", "(II)I"⟩, 91) := ⟨⟨by decide +kernel, by decide +kernel⟩, List.mem_of_getElem? (i := 1294) (by decide +kernel), List.mem_of_getElem? (i := 1618) (by decide +kernel), List.mem_of_getElem? (i := 1619) (by decide +kernel)⟩
theorem lw_p62 : lw_okq (⟨"GroupTreesModel", "isDigit", "(I)Z"⟩, 91) := ⟨⟨by decide +kernel, by decide +kernel⟩, List.mem_of_getElem? (i := 1294) (by decide +kernel), List.mem_of_getElem? (i := 1622) (by decide +kernel), List.mem_of_getElem? (i := 1623) (by decide +kernel)⟩
theorem lw_p63 : lw_okq (⟨"GroupTreesModel", "signToken", "()V"⟩, 91) := ⟨⟨by decide +kernel, by decide +kernel⟩, List.mem_of_getElem? (i := 1294) (by decide +kernel), List.mem_of_getElem? (i := 1627) (by decide +kernel), List.mem_of_getElem? (i := 1628) (by decide +kernel)⟩
def lw_privs_4 : List (MethodName × Nat) := [(⟨"GroupTrees", "restBits", "(III)I"⟩, 14), (⟨"GroupTrees$Notes", "tabulate", "(I)V"⟩, 13), (⟨"GroupTrees$Notes", "standing", "()I"⟩, 13), (⟨"GroupTrees$Notes", "fits", "(II)Z"⟩, 13), (⟨"GroupTrees$Notes", "atWorst", "(III)I"⟩, 13), (⟨"java/lang/Throwable", "fillInStackTrace", "(I)Ljava/lang/Throwable;"⟩, 6), (⟨"GroupTreesModel", "plain", "()V"⟩, 91), (⟨"GroupTreesModel", "keepText", "()V"⟩, 91), (⟨"GroupTreesModel", "begin", "()V"⟩, 91), (⟨"GroupTreesModel", "plainTried", "()V"⟩, 91), (⟨"GroupTreesModel", "token", "()V"⟩, 91), (⟨"GroupTreesModel", "isSmall", "(I)Z"⟩, 91), (⟨"GroupTreesModel", "wordAt", "(II)I"⟩, 91), (⟨"GroupTreesModel", "packed", "(II)I"⟩, 91), (⟨"GroupTreesModel", "isDigit", "(I)Z"⟩, 91), (⟨"GroupTreesModel", "signToken", "()V"⟩, 91)]
theorem lw_r4 : ∀ q ∈ lw_privs_4, lw_okq q := List.forall_mem_cons.mpr ⟨lw_p48, List.forall_mem_cons.mpr ⟨lw_p49, List.forall_mem_cons.mpr ⟨lw_p50, List.forall_mem_cons.mpr ⟨lw_p51, List.forall_mem_cons.mpr ⟨lw_p52, List.forall_mem_cons.mpr ⟨lw_p53, List.forall_mem_cons.mpr ⟨lw_p54, List.forall_mem_cons.mpr ⟨lw_p55, List.forall_mem_cons.mpr ⟨lw_p56, List.forall_mem_cons.mpr ⟨lw_p57, List.forall_mem_cons.mpr ⟨lw_p58, List.forall_mem_cons.mpr ⟨lw_p59, List.forall_mem_cons.mpr ⟨lw_p60, List.forall_mem_cons.mpr ⟨lw_p61, List.forall_mem_cons.mpr ⟨lw_p62, List.forall_mem_cons.mpr ⟨lw_p63, fun _ h => absurd h List.not_mem_nil⟩⟩⟩⟩⟩⟩⟩⟩⟩⟩⟩⟩⟩⟩⟩⟩
theorem lw_p64 : lw_okq (⟨"GroupTreesModel", "lineRead", "()Z"⟩, 91) := ⟨⟨by decide +kernel, by decide +kernel⟩, List.mem_of_getElem? (i := 1294) (by decide +kernel), List.mem_of_getElem? (i := 1631) (by decide +kernel), List.mem_of_getElem? (i := 1632) (by decide +kernel)⟩
theorem lw_p65 : lw_okq (⟨"GroupTreesModel", "wrong", "(I)Z"⟩, 91) := ⟨⟨by decide +kernel, by decide +kernel⟩, List.mem_of_getElem? (i := 1294) (by decide +kernel), List.mem_of_getElem? (i := 1635) (by decide +kernel), List.mem_of_getElem? (i := 1636) (by decide +kernel)⟩
theorem lw_p66 : lw_okq (⟨"GroupTreesModel", "nodeLine", "()Z"⟩, 91) := ⟨⟨by decide +kernel, by decide +kernel⟩, List.mem_of_getElem? (i := 1294) (by decide +kernel), List.mem_of_getElem? (i := 1639) (by decide +kernel), List.mem_of_getElem? (i := 1640) (by decide +kernel)⟩
theorem lw_p67 : lw_okq (⟨"GroupTreesModel", "newName", "([III)Z"⟩, 91) := ⟨⟨by decide +kernel, by decide +kernel⟩, List.mem_of_getElem? (i := 1294) (by decide +kernel), List.mem_of_getElem? (i := 1643) (by decide +kernel), List.mem_of_getElem? (i := 1644) (by decide +kernel)⟩
theorem lw_p68 : lw_okq (⟨"GroupTreesModel", "linkLine", "()Z"⟩, 91) := ⟨⟨by decide +kernel, by decide +kernel⟩, List.mem_of_getElem? (i := 1294) (by decide +kernel), List.mem_of_getElem? (i := 1650) (by decide +kernel), List.mem_of_getElem? (i := 1651) (by decide +kernel)⟩
theorem lw_p69 : lw_okq (⟨"GroupTreesModel", "number", "(II)Z"⟩, 91) := ⟨⟨by decide +kernel, by decide +kernel⟩, List.mem_of_getElem? (i := 1294) (by decide +kernel), List.mem_of_getElem? (i := 1654) (by decide +kernel), List.mem_of_getElem? (i := 1655) (by decide +kernel)⟩
theorem lw_p70 : lw_okq (⟨"GroupTreesModel", "thereIn", "([III)Z"⟩, 91) := ⟨⟨by decide +kernel, by decide +kernel⟩, List.mem_of_getElem? (i := 1294) (by decide +kernel), List.mem_of_getElem? (i := 1661) (by decide +kernel), List.mem_of_getElem? (i := 1662) (by decide +kernel)⟩
theorem lw_p71 : lw_okq (⟨"GroupTreesModel", "meetLine", "()Z"⟩, 91) := ⟨⟨by decide +kernel, by decide +kernel⟩, List.mem_of_getElem? (i := 1294) (by decide +kernel), List.mem_of_getElem? (i := 1668) (by decide +kernel), List.mem_of_getElem? (i := 1669) (by decide +kernel)⟩
theorem lw_p72 : lw_okq (⟨"GroupTreesModel", "sourceLine", "()Z"⟩, 91) := ⟨⟨by decide +kernel, by decide +kernel⟩, List.mem_of_getElem? (i := 1294) (by decide +kernel), List.mem_of_getElem? (i := 1672) (by decide +kernel), List.mem_of_getElem? (i := 1673) (by decide +kernel)⟩
theorem lw_p73 : lw_okq (⟨"GroupTreesModel", "eventLine", "()Z"⟩, 91) := ⟨⟨by decide +kernel, by decide +kernel⟩, List.mem_of_getElem? (i := 1294) (by decide +kernel), List.mem_of_getElem? (i := 1676) (by decide +kernel), List.mem_of_getElem? (i := 1677) (by decide +kernel)⟩
theorem lw_p74 : lw_okq (⟨"GroupTreesModel", "sendLine", "()Z"⟩, 91) := ⟨⟨by decide +kernel, by decide +kernel⟩, List.mem_of_getElem? (i := 1294) (by decide +kernel), List.mem_of_getElem? (i := 1680) (by decide +kernel), List.mem_of_getElem? (i := 1681) (by decide +kernel)⟩
theorem lw_p75 : lw_okq (⟨"GroupTreesModel", "onceLine", "(III)Z"⟩, 91) := ⟨⟨by decide +kernel, by decide +kernel⟩, List.mem_of_getElem? (i := 1294) (by decide +kernel), List.mem_of_getElem? (i := 1684) (by decide +kernel), List.mem_of_getElem? (i := 1685) (by decide +kernel)⟩
theorem lw_p76 : lw_okq (⟨"GroupTreesModel", "sumRead", "()Z"⟩, 91) := ⟨⟨by decide +kernel, by decide +kernel⟩, List.mem_of_getElem? (i := 1294) (by decide +kernel), List.mem_of_getElem? (i := 1688) (by decide +kernel), List.mem_of_getElem? (i := 1689) (by decide +kernel)⟩
theorem lw_p77 : lw_okq (⟨"GroupTreesModel", "isSign", "(I)Z"⟩, 91) := ⟨⟨by decide +kernel, by decide +kernel⟩, List.mem_of_getElem? (i := 1294) (by decide +kernel), List.mem_of_getElem? (i := 1692) (by decide +kernel), List.mem_of_getElem? (i := 1693) (by decide +kernel)⟩
theorem lw_p78 : lw_okq (⟨"GroupTreesModel", "leafRead", "()Z"⟩, 91) := ⟨⟨by decide +kernel, by decide +kernel⟩, List.mem_of_getElem? (i := 1294) (by decide +kernel), List.mem_of_getElem? (i := 1696) (by decide +kernel), List.mem_of_getElem? (i := 1697) (by decide +kernel)⟩
theorem lw_p79 : lw_okq (⟨"GroupTreesModel", "waitsFor", "(I)V"⟩, 91) := ⟨⟨by decide +kernel, by decide +kernel⟩, List.mem_of_getElem? (i := 1294) (by decide +kernel), List.mem_of_getElem? (i := 1700) (by decide +kernel), List.mem_of_getElem? (i := 1701) (by decide +kernel)⟩
def lw_privs_5 : List (MethodName × Nat) := [(⟨"GroupTreesModel", "lineRead", "()Z"⟩, 91), (⟨"GroupTreesModel", "wrong", "(I)Z"⟩, 91), (⟨"GroupTreesModel", "nodeLine", "()Z"⟩, 91), (⟨"GroupTreesModel", "newName", "([III)Z"⟩, 91), (⟨"GroupTreesModel", "linkLine", "()Z"⟩, 91), (⟨"GroupTreesModel", "number", "(II)Z"⟩, 91), (⟨"GroupTreesModel", "thereIn", "([III)Z"⟩, 91), (⟨"GroupTreesModel", "meetLine", "()Z"⟩, 91), (⟨"GroupTreesModel", "sourceLine", "()Z"⟩, 91), (⟨"GroupTreesModel", "eventLine", "()Z"⟩, 91), (⟨"GroupTreesModel", "sendLine", "()Z"⟩, 91), (⟨"GroupTreesModel", "onceLine", "(III)Z"⟩, 91), (⟨"GroupTreesModel", "sumRead", "()Z"⟩, 91), (⟨"GroupTreesModel", "isSign", "(I)Z"⟩, 91), (⟨"GroupTreesModel", "leafRead", "()Z"⟩, 91), (⟨"GroupTreesModel", "waitsFor", "(I)V"⟩, 91)]
theorem lw_r5 : ∀ q ∈ lw_privs_5, lw_okq q := List.forall_mem_cons.mpr ⟨lw_p64, List.forall_mem_cons.mpr ⟨lw_p65, List.forall_mem_cons.mpr ⟨lw_p66, List.forall_mem_cons.mpr ⟨lw_p67, List.forall_mem_cons.mpr ⟨lw_p68, List.forall_mem_cons.mpr ⟨lw_p69, List.forall_mem_cons.mpr ⟨lw_p70, List.forall_mem_cons.mpr ⟨lw_p71, List.forall_mem_cons.mpr ⟨lw_p72, List.forall_mem_cons.mpr ⟨lw_p73, List.forall_mem_cons.mpr ⟨lw_p74, List.forall_mem_cons.mpr ⟨lw_p75, List.forall_mem_cons.mpr ⟨lw_p76, List.forall_mem_cons.mpr ⟨lw_p77, List.forall_mem_cons.mpr ⟨lw_p78, List.forall_mem_cons.mpr ⟨lw_p79, fun _ h => absurd h List.not_mem_nil⟩⟩⟩⟩⟩⟩⟩⟩⟩⟩⟩⟩⟩⟩⟩⟩
theorem lw_p80 : lw_okq (⟨"GroupTreesModel", "isKey", "(I)Z"⟩, 91) := ⟨⟨by decide +kernel, by decide +kernel⟩, List.mem_of_getElem? (i := 1294) (by decide +kernel), List.mem_of_getElem? (i := 1704) (by decide +kernel), List.mem_of_getElem? (i := 1705) (by decide +kernel)⟩
theorem lw_p81 : lw_okq (⟨"GroupTreesModel", "isCounted", "()Z"⟩, 91) := ⟨⟨by decide +kernel, by decide +kernel⟩, List.mem_of_getElem? (i := 1294) (by decide +kernel), List.mem_of_getElem? (i := 1708) (by decide +kernel), List.mem_of_getElem? (i := 1709) (by decide +kernel)⟩
theorem lw_p82 : lw_okq (⟨"GroupTreesModel", "nameMet", "()I"⟩, 91) := ⟨⟨by decide +kernel, by decide +kernel⟩, List.mem_of_getElem? (i := 1294) (by decide +kernel), List.mem_of_getElem? (i := 1712) (by decide +kernel), List.mem_of_getElem? (i := 1713) (by decide +kernel)⟩
theorem lw_p83 : lw_okq (⟨"GroupTreesModel", "grown", "(III)V"⟩, 91) := ⟨⟨by decide +kernel, by decide +kernel⟩, List.mem_of_getElem? (i := 1294) (by decide +kernel), List.mem_of_getElem? (i := 1716) (by decide +kernel), List.mem_of_getElem? (i := 1717) (by decide +kernel)⟩
theorem lw_p84 : lw_okq (⟨"GroupTreesModel", "signs", "()Z"⟩, 91) := ⟨⟨by decide +kernel, by decide +kernel⟩, List.mem_of_getElem? (i := 1294) (by decide +kernel), List.mem_of_getElem? (i := 1720) (by decide +kernel), List.mem_of_getElem? (i := 1721) (by decide +kernel)⟩
theorem lw_p85 : lw_okq (⟨"GroupTreesModel", "bind", "(I)V"⟩, 91) := ⟨⟨by decide +kernel, by decide +kernel⟩, List.mem_of_getElem? (i := 1294) (by decide +kernel), List.mem_of_getElem? (i := 1724) (by decide +kernel), List.mem_of_getElem? (i := 1725) (by decide +kernel)⟩
theorem lw_p86 : lw_okq (⟨"GroupTreesModel", "dropHeld", "()I"⟩, 91) := ⟨⟨by decide +kernel, by decide +kernel⟩, List.mem_of_getElem? (i := 1294) (by decide +kernel), List.mem_of_getElem? (i := 1731) (by decide +kernel), List.mem_of_getElem? (i := 1732) (by decide +kernel)⟩
theorem lw_p87 : lw_okq (⟨"GroupTreesModel", "isNode", "(I)Z"⟩, 91) := ⟨⟨by decide +kernel, by decide +kernel⟩, List.mem_of_getElem? (i := 1294) (by decide +kernel), List.mem_of_getElem? (i := 1747) (by decide +kernel), List.mem_of_getElem? (i := 1748) (by decide +kernel)⟩
theorem lw_p88 : lw_okq (⟨"GroupTreesModel", "fails", "(I)I"⟩, 91) := ⟨⟨by decide +kernel, by decide +kernel⟩, List.mem_of_getElem? (i := 1294) (by decide +kernel), List.mem_of_getElem? (i := 1751) (by decide +kernel), List.mem_of_getElem? (i := 1752) (by decide +kernel)⟩
theorem lw_p89 : lw_okq (⟨"GroupTreesModel", "isLink", "(I)Z"⟩, 91) := ⟨⟨by decide +kernel, by decide +kernel⟩, List.mem_of_getElem? (i := 1294) (by decide +kernel), List.mem_of_getElem? (i := 1759) (by decide +kernel), List.mem_of_getElem? (i := 1760) (by decide +kernel)⟩
theorem lw_p90 : lw_okq (⟨"GroupTreesModel", "isTree", "(I)Z"⟩, 91) := ⟨⟨by decide +kernel, by decide +kernel⟩, List.mem_of_getElem? (i := 1294) (by decide +kernel), List.mem_of_getElem? (i := 1767) (by decide +kernel), List.mem_of_getElem? (i := 1768) (by decide +kernel)⟩
theorem lw_p91 : lw_okq (⟨"GroupTreesModel", "farOf", "(III)I"⟩, 91) := ⟨⟨by decide +kernel, by decide +kernel⟩, List.mem_of_getElem? (i := 1294) (by decide +kernel), List.mem_of_getElem? (i := 1771) (by decide +kernel), List.mem_of_getElem? (i := 1772) (by decide +kernel)⟩
theorem lw_p92 : lw_okq (⟨"GroupTreesModel", "rootOf", "(I)I"⟩, 91) := ⟨⟨by decide +kernel, by decide +kernel⟩, List.mem_of_getElem? (i := 1294) (by decide +kernel), List.mem_of_getElem? (i := 1775) (by decide +kernel), List.mem_of_getElem? (i := 1776) (by decide +kernel)⟩
theorem lw_p93 : lw_okq (⟨"GroupTreesModel", "layDist", "(II)V"⟩, 91) := ⟨⟨by decide +kernel, by decide +kernel⟩, List.mem_of_getElem? (i := 1294) (by decide +kernel), List.mem_of_getElem? (i := 1779) (by decide +kernel), List.mem_of_getElem? (i := 1780) (by decide +kernel)⟩
theorem lw_p94 : lw_okq (⟨"GroupTreesModel", "costNow", "(I)I"⟩, 91) := ⟨⟨by decide +kernel, by decide +kernel⟩, List.mem_of_getElem? (i := 1294) (by decide +kernel), List.mem_of_getElem? (i := 1783) (by decide +kernel), List.mem_of_getElem? (i := 1784) (by decide +kernel)⟩
theorem lw_p95 : lw_okq (⟨"GroupTreesModel", "upLink", "(III)I"⟩, 91) := ⟨⟨by decide +kernel, by decide +kernel⟩, List.mem_of_getElem? (i := 1294) (by decide +kernel), List.mem_of_getElem? (i := 1791) (by decide +kernel), List.mem_of_getElem? (i := 1792) (by decide +kernel)⟩
def lw_privs_6 : List (MethodName × Nat) := [(⟨"GroupTreesModel", "isKey", "(I)Z"⟩, 91), (⟨"GroupTreesModel", "isCounted", "()Z"⟩, 91), (⟨"GroupTreesModel", "nameMet", "()I"⟩, 91), (⟨"GroupTreesModel", "grown", "(III)V"⟩, 91), (⟨"GroupTreesModel", "signs", "()Z"⟩, 91), (⟨"GroupTreesModel", "bind", "(I)V"⟩, 91), (⟨"GroupTreesModel", "dropHeld", "()I"⟩, 91), (⟨"GroupTreesModel", "isNode", "(I)Z"⟩, 91), (⟨"GroupTreesModel", "fails", "(I)I"⟩, 91), (⟨"GroupTreesModel", "isLink", "(I)Z"⟩, 91), (⟨"GroupTreesModel", "isTree", "(I)Z"⟩, 91), (⟨"GroupTreesModel", "farOf", "(III)I"⟩, 91), (⟨"GroupTreesModel", "rootOf", "(I)I"⟩, 91), (⟨"GroupTreesModel", "layDist", "(II)V"⟩, 91), (⟨"GroupTreesModel", "costNow", "(I)I"⟩, 91), (⟨"GroupTreesModel", "upLink", "(III)I"⟩, 91)]
theorem lw_r6 : ∀ q ∈ lw_privs_6, lw_okq q := List.forall_mem_cons.mpr ⟨lw_p80, List.forall_mem_cons.mpr ⟨lw_p81, List.forall_mem_cons.mpr ⟨lw_p82, List.forall_mem_cons.mpr ⟨lw_p83, List.forall_mem_cons.mpr ⟨lw_p84, List.forall_mem_cons.mpr ⟨lw_p85, List.forall_mem_cons.mpr ⟨lw_p86, List.forall_mem_cons.mpr ⟨lw_p87, List.forall_mem_cons.mpr ⟨lw_p88, List.forall_mem_cons.mpr ⟨lw_p89, List.forall_mem_cons.mpr ⟨lw_p90, List.forall_mem_cons.mpr ⟨lw_p91, List.forall_mem_cons.mpr ⟨lw_p92, List.forall_mem_cons.mpr ⟨lw_p93, List.forall_mem_cons.mpr ⟨lw_p94, List.forall_mem_cons.mpr ⟨lw_p95, fun _ h => absurd h List.not_mem_nil⟩⟩⟩⟩⟩⟩⟩⟩⟩⟩⟩⟩⟩⟩⟩⟩
theorem lw_p96 : lw_okq (⟨"GroupTreesModel", "lay", "(IIII)V"⟩, 91) := ⟨⟨by decide +kernel, by decide +kernel⟩, List.mem_of_getElem? (i := 1294) (by decide +kernel), List.mem_of_getElem? (i := 1795) (by decide +kernel), List.mem_of_getElem? (i := 1796) (by decide +kernel)⟩
theorem lw_p97 : lw_okq (⟨"GroupTreesModel", "heldMany", "(III)I"⟩, 91) := ⟨⟨by decide +kernel, by decide +kernel⟩, List.mem_of_getElem? (i := 1294) (by decide +kernel), List.mem_of_getElem? (i := 1799) (by decide +kernel), List.mem_of_getElem? (i := 1800) (by decide +kernel)⟩
theorem lw_p98 : lw_okq (⟨"GroupTreesModel", "heldAt", "(IIII)I"⟩, 91) := ⟨⟨by decide +kernel, by decide +kernel⟩, List.mem_of_getElem? (i := 1294) (by decide +kernel), List.mem_of_getElem? (i := 1803) (by decide +kernel), List.mem_of_getElem? (i := 1804) (by decide +kernel)⟩
theorem lw_p99 : lw_okq (⟨"GroupTreesModel", "lawOf", "(I)J"⟩, 91) := ⟨⟨by decide +kernel, by decide +kernel⟩, List.mem_of_getElem? (i := 1294) (by decide +kernel), List.mem_of_getElem? (i := 1807) (by decide +kernel), List.mem_of_getElem? (i := 1808) (by decide +kernel)⟩
theorem lw_p100 : lw_okq (⟨"GroupTreesModel", "valueOf", "(I)J"⟩, 91) := ⟨⟨by decide +kernel, by decide +kernel⟩, List.mem_of_getElem? (i := 1294) (by decide +kernel), List.mem_of_getElem? (i := 1811) (by decide +kernel), List.mem_of_getElem? (i := 1812) (by decide +kernel)⟩
theorem lw_p101 : lw_okq (⟨"GroupTreesModel", "bounded", "(J)J"⟩, 91) := ⟨⟨by decide +kernel, by decide +kernel⟩, List.mem_of_getElem? (i := 1294) (by decide +kernel), List.mem_of_getElem? (i := 1815) (by decide +kernel), List.mem_of_getElem? (i := 1816) (by decide +kernel)⟩
theorem lw_p102 : lw_okq (⟨"GroupTreesModel", "times", "(JJ)J"⟩, 91) := ⟨⟨by decide +kernel, by decide +kernel⟩, List.mem_of_getElem? (i := 1294) (by decide +kernel), List.mem_of_getElem? (i := 1821) (by decide +kernel), List.mem_of_getElem? (i := 1822) (by decide +kernel)⟩
theorem lw_p103 : lw_okq (⟨"GroupTreesModel", "wantsNow", "(III)Z"⟩, 91) := ⟨⟨by decide +kernel, by decide +kernel⟩, List.mem_of_getElem? (i := 1294) (by decide +kernel), List.mem_of_getElem? (i := 1836) (by decide +kernel), List.mem_of_getElem? (i := 1837) (by decide +kernel)⟩
theorem lw_p104 : lw_okq (⟨"GroupTreesModel", "remember", "()V"⟩, 91) := ⟨⟨by decide +kernel, by decide +kernel⟩, List.mem_of_getElem? (i := 1294) (by decide +kernel), List.mem_of_getElem? (i := 1849) (by decide +kernel), List.mem_of_getElem? (i := 1850) (by decide +kernel)⟩
theorem lw_p105 : lw_okq (⟨"GroupTreesModel", "put", "([II)V"⟩, 91) := ⟨⟨by decide +kernel, by decide +kernel⟩, List.mem_of_getElem? (i := 1294) (by decide +kernel), List.mem_of_getElem? (i := 1853) (by decide +kernel), List.mem_of_getElem? (i := 1854) (by decide +kernel)⟩
theorem lw_p106 : lw_okq (⟨"GroupTreesModel", "stopsListening", "(II)V"⟩, 91) := ⟨⟨by decide +kernel, by decide +kernel⟩, List.mem_of_getElem? (i := 1294) (by decide +kernel), List.mem_of_getElem? (i := 1857) (by decide +kernel), List.mem_of_getElem? (i := 1858) (by decide +kernel)⟩
theorem lw_p107 : lw_okq (⟨"GroupTreesModel", "isSource", "(I)Z"⟩, 91) := ⟨⟨by decide +kernel, by decide +kernel⟩, List.mem_of_getElem? (i := 1294) (by decide +kernel), List.mem_of_getElem? (i := 1869) (by decide +kernel), List.mem_of_getElem? (i := 1870) (by decide +kernel)⟩
theorem lw_p108 : lw_okq (⟨"GroupTreesModel", "packet", "(II)I"⟩, 91) := ⟨⟨by decide +kernel, by decide +kernel⟩, List.mem_of_getElem? (i := 1294) (by decide +kernel), List.mem_of_getElem? (i := 1873) (by decide +kernel), List.mem_of_getElem? (i := 1874) (by decide +kernel)⟩
theorem lw_p109 : lw_okq (⟨"GroupTreesModel", "goesDown", "(III)V"⟩, 91) := ⟨⟨by decide +kernel, by decide +kernel⟩, List.mem_of_getElem? (i := 1294) (by decide +kernel), List.mem_of_getElem? (i := 1877) (by decide +kernel), List.mem_of_getElem? (i := 1878) (by decide +kernel)⟩
theorem lw_p110 : lw_okq (⟨"GroupTreesModel", "isLost", "()Z"⟩, 91) := ⟨⟨by decide +kernel, by decide +kernel⟩, List.mem_of_getElem? (i := 1294) (by decide +kernel), List.mem_of_getElem? (i := 1881) (by decide +kernel), List.mem_of_getElem? (i := 1882) (by decide +kernel)⟩
theorem lw_p111 : lw_okq (⟨"GroupTreesModel", "number1", "(I)I"⟩, 91) := ⟨⟨by decide +kernel, by decide +kernel⟩, List.mem_of_getElem? (i := 1294) (by decide +kernel), List.mem_of_getElem? (i := 1885) (by decide +kernel), List.mem_of_getElem? (i := 1886) (by decide +kernel)⟩
def lw_privs_7 : List (MethodName × Nat) := [(⟨"GroupTreesModel", "lay", "(IIII)V"⟩, 91), (⟨"GroupTreesModel", "heldMany", "(III)I"⟩, 91), (⟨"GroupTreesModel", "heldAt", "(IIII)I"⟩, 91), (⟨"GroupTreesModel", "lawOf", "(I)J"⟩, 91), (⟨"GroupTreesModel", "valueOf", "(I)J"⟩, 91), (⟨"GroupTreesModel", "bounded", "(J)J"⟩, 91), (⟨"GroupTreesModel", "times", "(JJ)J"⟩, 91), (⟨"GroupTreesModel", "wantsNow", "(III)Z"⟩, 91), (⟨"GroupTreesModel", "remember", "()V"⟩, 91), (⟨"GroupTreesModel", "put", "([II)V"⟩, 91), (⟨"GroupTreesModel", "stopsListening", "(II)V"⟩, 91), (⟨"GroupTreesModel", "isSource", "(I)Z"⟩, 91), (⟨"GroupTreesModel", "packet", "(II)I"⟩, 91), (⟨"GroupTreesModel", "goesDown", "(III)V"⟩, 91), (⟨"GroupTreesModel", "isLost", "()Z"⟩, 91), (⟨"GroupTreesModel", "number1", "(I)I"⟩, 91)]
theorem lw_r7 : ∀ q ∈ lw_privs_7, lw_okq q := List.forall_mem_cons.mpr ⟨lw_p96, List.forall_mem_cons.mpr ⟨lw_p97, List.forall_mem_cons.mpr ⟨lw_p98, List.forall_mem_cons.mpr ⟨lw_p99, List.forall_mem_cons.mpr ⟨lw_p100, List.forall_mem_cons.mpr ⟨lw_p101, List.forall_mem_cons.mpr ⟨lw_p102, List.forall_mem_cons.mpr ⟨lw_p103, List.forall_mem_cons.mpr ⟨lw_p104, List.forall_mem_cons.mpr ⟨lw_p105, List.forall_mem_cons.mpr ⟨lw_p106, List.forall_mem_cons.mpr ⟨lw_p107, List.forall_mem_cons.mpr ⟨lw_p108, List.forall_mem_cons.mpr ⟨lw_p109, List.forall_mem_cons.mpr ⟨lw_p110, List.forall_mem_cons.mpr ⟨lw_p111, fun _ h => absurd h List.not_mem_nil⟩⟩⟩⟩⟩⟩⟩⟩⟩⟩⟩⟩⟩⟩⟩⟩
theorem lw_p112 : lw_okq (⟨"GroupTreesModel", "cameTo", "(IIIII)I"⟩, 91) := ⟨⟨by decide +kernel, by decide +kernel⟩, List.mem_of_getElem? (i := 1294) (by decide +kernel), List.mem_of_getElem? (i := 1893) (by decide +kernel), List.mem_of_getElem? (i := 1894) (by decide +kernel)⟩
theorem lw_p113 : lw_okq (⟨"GroupTreesModel", "switches", "(II)V"⟩, 91) := ⟨⟨by decide +kernel, by decide +kernel⟩, List.mem_of_getElem? (i := 1294) (by decide +kernel), List.mem_of_getElem? (i := 1897) (by decide +kernel), List.mem_of_getElem? (i := 1898) (by decide +kernel)⟩
theorem lw_p114 : lw_okq (⟨"GroupTreesModel", "tickGoes", "(I)V"⟩, 91) := ⟨⟨by decide +kernel, by decide +kernel⟩, List.mem_of_getElem? (i := 1294) (by decide +kernel), List.mem_of_getElem? (i := 1905) (by decide +kernel), List.mem_of_getElem? (i := 1906) (by decide +kernel)⟩
theorem lw_p115 : lw_okq (⟨"GroupTreesModel", "eventGoes", "(II)V"⟩, 91) := ⟨⟨by decide +kernel, by decide +kernel⟩, List.mem_of_getElem? (i := 1294) (by decide +kernel), List.mem_of_getElem? (i := 1909) (by decide +kernel), List.mem_of_getElem? (i := 1910) (by decide +kernel)⟩
theorem lw_p116 : lw_okq (⟨"GroupTreesModel", "joins", "(I)V"⟩, 91) := ⟨⟨by decide +kernel, by decide +kernel⟩, List.mem_of_getElem? (i := 1294) (by decide +kernel), List.mem_of_getElem? (i := 1913) (by decide +kernel), List.mem_of_getElem? (i := 1914) (by decide +kernel)⟩
theorem lw_p117 : lw_okq (⟨"GroupTreesModel", "keptFor", "(III)I"⟩, 91) := ⟨⟨by decide +kernel, by decide +kernel⟩, List.mem_of_getElem? (i := 1294) (by decide +kernel), List.mem_of_getElem? (i := 1917) (by decide +kernel), List.mem_of_getElem? (i := 1918) (by decide +kernel)⟩
theorem lw_p118 : lw_okq (⟨"GroupTreesModel", "layTried", "()V"⟩, 91) := ⟨⟨by decide +kernel, by decide +kernel⟩, List.mem_of_getElem? (i := 1294) (by decide +kernel), List.mem_of_getElem? (i := 1926) (by decide +kernel), List.mem_of_getElem? (i := 1927) (by decide +kernel)⟩
theorem lw_p119 : lw_okq (⟨"GroupTreesModel", "goMany", "(I)V"⟩, 91) := ⟨⟨by decide +kernel, by decide +kernel⟩, List.mem_of_getElem? (i := 1294) (by decide +kernel), List.mem_of_getElem? (i := 1930) (by decide +kernel), List.mem_of_getElem? (i := 1931) (by decide +kernel)⟩
theorem lw_p120 : lw_okq (⟨"GroupTreesModel", "heldBits", "(II)I"⟩, 91) := ⟨⟨by decide +kernel, by decide +kernel⟩, List.mem_of_getElem? (i := 1294) (by decide +kernel), List.mem_of_getElem? (i := 1941) (by decide +kernel), List.mem_of_getElem? (i := 1942) (by decide +kernel)⟩
theorem lw_p121 : lw_okq (⟨"GroupTreesModel", "isSettled", "()Z"⟩, 91) := ⟨⟨by decide +kernel, by decide +kernel⟩, List.mem_of_getElem? (i := 1294) (by decide +kernel), List.mem_of_getElem? (i := 1949) (by decide +kernel), List.mem_of_getElem? (i := 1950) (by decide +kernel)⟩
theorem lw_p122 : lw_okq (⟨"GroupTreesModel", "costAll", "(I)I"⟩, 91) := ⟨⟨by decide +kernel, by decide +kernel⟩, List.mem_of_getElem? (i := 1294) (by decide +kernel), List.mem_of_getElem? (i := 1965) (by decide +kernel), List.mem_of_getElem? (i := 1966) (by decide +kernel)⟩
theorem lw_p123 : lw_okq (⟨"GroupTreesModel", "nearOnes", "(II)I"⟩, 91) := ⟨⟨by decide +kernel, by decide +kernel⟩, List.mem_of_getElem? (i := 1294) (by decide +kernel), List.mem_of_getElem? (i := 1973) (by decide +kernel), List.mem_of_getElem? (i := 1974) (by decide +kernel)⟩
theorem lw_p124 : lw_okq (⟨"GroupTreesModel", "areTwo", "(III)Z"⟩, 91) := ⟨⟨by decide +kernel, by decide +kernel⟩, List.mem_of_getElem? (i := 1294) (by decide +kernel), List.mem_of_getElem? (i := 1989) (by decide +kernel), List.mem_of_getElem? (i := 1990) (by decide +kernel)⟩
theorem lw_p125 : lw_okq (⟨"GroupTreesModel", "restAt", "(IIII)I"⟩, 91) := ⟨⟨by decide +kernel, by decide +kernel⟩, List.mem_of_getElem? (i := 1294) (by decide +kernel), List.mem_of_getElem? (i := 1993) (by decide +kernel), List.mem_of_getElem? (i := 1994) (by decide +kernel)⟩
theorem lw_p126 : lw_okq (⟨"GroupTreesModel", "hasBy", "(IIII)I"⟩, 91) := ⟨⟨by decide +kernel, by decide +kernel⟩, List.mem_of_getElem? (i := 1294) (by decide +kernel), List.mem_of_getElem? (i := 1997) (by decide +kernel), List.mem_of_getElem? (i := 1998) (by decide +kernel)⟩
theorem lw_p127 : lw_okq (⟨"GroupTreesModel", "notes1", "(IIII)I"⟩, 91) := ⟨⟨by decide +kernel, by decide +kernel⟩, List.mem_of_getElem? (i := 1294) (by decide +kernel), List.mem_of_getElem? (i := 2018) (by decide +kernel), List.mem_of_getElem? (i := 2019) (by decide +kernel)⟩
def lw_privs_8 : List (MethodName × Nat) := [(⟨"GroupTreesModel", "cameTo", "(IIIII)I"⟩, 91), (⟨"GroupTreesModel", "switches", "(II)V"⟩, 91), (⟨"GroupTreesModel", "tickGoes", "(I)V"⟩, 91), (⟨"GroupTreesModel", "eventGoes", "(II)V"⟩, 91), (⟨"GroupTreesModel", "joins", "(I)V"⟩, 91), (⟨"GroupTreesModel", "keptFor", "(III)I"⟩, 91), (⟨"GroupTreesModel", "layTried", "()V"⟩, 91), (⟨"GroupTreesModel", "goMany", "(I)V"⟩, 91), (⟨"GroupTreesModel", "heldBits", "(II)I"⟩, 91), (⟨"GroupTreesModel", "isSettled", "()Z"⟩, 91), (⟨"GroupTreesModel", "costAll", "(I)I"⟩, 91), (⟨"GroupTreesModel", "nearOnes", "(II)I"⟩, 91), (⟨"GroupTreesModel", "areTwo", "(III)Z"⟩, 91), (⟨"GroupTreesModel", "restAt", "(IIII)I"⟩, 91), (⟨"GroupTreesModel", "hasBy", "(IIII)I"⟩, 91), (⟨"GroupTreesModel", "notes1", "(IIII)I"⟩, 91)]
theorem lw_r8 : ∀ q ∈ lw_privs_8, lw_okq q := List.forall_mem_cons.mpr ⟨lw_p112, List.forall_mem_cons.mpr ⟨lw_p113, List.forall_mem_cons.mpr ⟨lw_p114, List.forall_mem_cons.mpr ⟨lw_p115, List.forall_mem_cons.mpr ⟨lw_p116, List.forall_mem_cons.mpr ⟨lw_p117, List.forall_mem_cons.mpr ⟨lw_p118, List.forall_mem_cons.mpr ⟨lw_p119, List.forall_mem_cons.mpr ⟨lw_p120, List.forall_mem_cons.mpr ⟨lw_p121, List.forall_mem_cons.mpr ⟨lw_p122, List.forall_mem_cons.mpr ⟨lw_p123, List.forall_mem_cons.mpr ⟨lw_p124, List.forall_mem_cons.mpr ⟨lw_p125, List.forall_mem_cons.mpr ⟨lw_p126, List.forall_mem_cons.mpr ⟨lw_p127, fun _ h => absurd h List.not_mem_nil⟩⟩⟩⟩⟩⟩⟩⟩⟩⟩⟩⟩⟩⟩⟩⟩
theorem lw_p128 : lw_okq (⟨"GroupTreesModel", "costBits", "(I)I"⟩, 91) := ⟨⟨by decide +kernel, by decide +kernel⟩, List.mem_of_getElem? (i := 1294) (by decide +kernel), List.mem_of_getElem? (i := 2034) (by decide +kernel), List.mem_of_getElem? (i := 2035) (by decide +kernel)⟩
theorem lw_p129 : lw_okq (⟨"GroupTreesModel", "knownBy", "()I"⟩, 91) := ⟨⟨by decide +kernel, by decide +kernel⟩, List.mem_of_getElem? (i := 1294) (by decide +kernel), List.mem_of_getElem? (i := 2038) (by decide +kernel), List.mem_of_getElem? (i := 2039) (by decide +kernel)⟩
theorem lw_p130 : lw_okq (⟨"GroupTreesModel", "fits", "(II)Z"⟩, 91) := ⟨⟨by decide +kernel, by decide +kernel⟩, List.mem_of_getElem? (i := 1294) (by decide +kernel), List.mem_of_getElem? (i := 2042) (by decide +kernel), List.mem_of_getElem? (i := 2043) (by decide +kernel)⟩
theorem lw_p131 : lw_okq (⟨"GroupTreesModel", "worstBy", "(II)I"⟩, 91) := ⟨⟨by decide +kernel, by decide +kernel⟩, List.mem_of_getElem? (i := 1294) (by decide +kernel), List.mem_of_getElem? (i := 2050) (by decide +kernel), List.mem_of_getElem? (i := 2051) (by decide +kernel)⟩
theorem lw_p132 : lw_okq (⟨"GroupTreesModel", "take", "([II)V"⟩, 91) := ⟨⟨by decide +kernel, by decide +kernel⟩, List.mem_of_getElem? (i := 1294) (by decide +kernel), List.mem_of_getElem? (i := 2066) (by decide +kernel), List.mem_of_getElem? (i := 2067) (by decide +kernel)⟩
def lw_privs_9 : List (MethodName × Nat) := [(⟨"GroupTreesModel", "costBits", "(I)I"⟩, 91), (⟨"GroupTreesModel", "knownBy", "()I"⟩, 91), (⟨"GroupTreesModel", "fits", "(II)Z"⟩, 91), (⟨"GroupTreesModel", "worstBy", "(II)I"⟩, 91), (⟨"GroupTreesModel", "take", "([II)V"⟩, 91)]
theorem lw_r9 : ∀ q ∈ lw_privs_9, lw_okq q := List.forall_mem_cons.mpr ⟨lw_p128, List.forall_mem_cons.mpr ⟨lw_p129, List.forall_mem_cons.mpr ⟨lw_p130, List.forall_mem_cons.mpr ⟨lw_p131, List.forall_mem_cons.mpr ⟨lw_p132, fun _ h => absurd h List.not_mem_nil⟩⟩⟩⟩⟩
def lw_privs : List (MethodName × Nat) := lw_privs_1 ++ (lw_privs_2 ++ (lw_privs_3 ++ (lw_privs_4 ++ (lw_privs_5 ++ (lw_privs_6 ++ (lw_privs_7 ++ (lw_privs_8 ++ (lw_privs_9))))))))
def lw_tbl : List Cond := k2_sels lw_privs ++ tables_1
theorem lw_privs_ok : ∀ q ∈ lw_privs, lw_okq q := by
  show ∀ q ∈ lw_privs_1 ++ (lw_privs_2 ++ (lw_privs_3 ++ (lw_privs_4 ++ (lw_privs_5 ++ (lw_privs_6 ++ (lw_privs_7 ++ (lw_privs_8 ++ (lw_privs_9)))))))), lw_okq q
  exact List.forall_mem_append.mpr ⟨lw_r1, List.forall_mem_append.mpr ⟨lw_r2, List.forall_mem_append.mpr ⟨lw_r3, List.forall_mem_append.mpr ⟨lw_r4, List.forall_mem_append.mpr ⟨lw_r5, List.forall_mem_append.mpr ⟨lw_r6, List.forall_mem_append.mpr ⟨lw_r7, List.forall_mem_append.mpr ⟨lw_r8, lw_r9⟩⟩⟩⟩⟩⟩⟩⟩
end
section
def RX0 : String := "GroupTrees$Course"
def TX0 : u_T := fun k => match k with
  | 0 => ("GroupTrees$Course", "net", "LGroupTrees$Net;", true)
  | 1 => ("GroupTrees$Course", "joined", "[I", true)
  | 2 => ("GroupTrees$Course", "ownUps", "[I", true)
  | 3 => ("GroupTrees$Course", "sharedUps", "[I", true)
  | 4 => ("GroupTrees$Course", "drawn", "Z", false)
  | 5 => ("GroupTrees$Course", "still", "Z", false)
  | 6 => ("GroupTrees$Course", "trial", "I", false)
  | _ => ("GroupTrees$Course", "silenced", "I", false)
def tyX0 : Nat → FieldType := fun k => match k with
  | 0 => .object "GroupTrees$Net"
  | 1 => .array .int
  | 2 => .array .int
  | 3 => .array .int
  | 4 => .boolean
  | 5 => .boolean
  | 6 => .int
  | _ => .int
abbrev wsX00 : List Cond := u_ws RX0 TX0 8
theorem nmX0 : ∀ a, a < 8 → ∀ b, b < 8 → a ≠ b → (TX0 a).2.1 ≠ (TX0 b).2.1 := by decide +kernel
theorem tyX0_ok : ∀ k, k < 8 → parseFieldDescriptor (TX0 k).2.2.1 = some (tyX0 k) := by decide +kernel
abbrev cX0_init : ByteArray := prog_2_method_1_code
def yX0_init : MethodName := ⟨RX0, "<init>", "(LGroupTrees$Net;)V"⟩
abbrev cX0_plain : ByteArray := prog_2_method_2_code
def yX0_plain : MethodName := ⟨RX0, "plain", "(Z)V"⟩
abbrev cX0_drawing : ByteArray := prog_2_method_3_code
def yX0_drawing : MethodName := ⟨RX0, "drawing", "()V"⟩
abbrev cX0_otherwise : ByteArray := prog_2_method_4_code
def yX0_otherwise : MethodName := ⟨RX0, "otherwise", "(II)V"⟩
abbrev cX0_run : ByteArray := prog_2_method_5_code
def yX0_run : MethodName := ⟨RX0, "run", "(LGroupTrees$State;I)V"⟩
abbrev cX0_happen : ByteArray := prog_2_method_6_code
def yX0_happen : MethodName := ⟨RX0, "happen", "(LGroupTrees$State;)V"⟩
abbrev cX0_takePlace : ByteArray := prog_2_method_7_code
def yX0_takePlace : MethodName := ⟨RX0, "takePlace", "(LGroupTrees$State;II)V"⟩
abbrev cX0_joinUp : ByteArray := prog_2_method_8_code
def yX0_joinUp : MethodName := ⟨RX0, "joinUp", "(LGroupTrees$State;II)V"⟩
abbrev cX0_holding : ByteArray := prog_2_method_9_code
def yX0_holding : MethodName := ⟨RX0, "holding", "(LGroupTrees$State;II)I"⟩
abbrev cX0_packet : ByteArray := prog_2_method_10_code
def yX0_packet : MethodName := ⟨RX0, "packet", "(LGroupTrees$State;I)I"⟩
abbrev cX0_down : ByteArray := prog_2_method_11_code
def yX0_down : MethodName := ⟨RX0, "down", "(LGroupTrees$State;I[II)I"⟩
abbrev cX0_passOn : ByteArray := prog_2_method_12_code
def yX0_passOn : MethodName := ⟨RX0, "passOn", "(LGroupTrees$State;II[I)I"⟩
abbrev cX0_lost : ByteArray := prog_2_method_13_code
def yX0_lost : MethodName := ⟨RX0, "lost", "(LGroupTrees$State;)Z"⟩
abbrev cX0_hear : ByteArray := prog_2_method_14_code
def yX0_hear : MethodName := ⟨RX0, "hear", "(LGroupTrees$State;II)V"⟩
abbrev cX0_switchOver : ByteArray := prog_2_method_15_code
def yX0_switchOver : MethodName := ⟨RX0, "switchOver", "(LGroupTrees$State;II)V"⟩
def RX1 : String := "GroupTrees$Laws"
def TX1 : u_T := fun k => match k with
  | 0 => ("GroupTrees$Laws", "kind", "[I", true)
  | 1 => ("GroupTrees$Laws", "number", "[I", true)
  | 2 => ("GroupTrees$Laws", "begin", "[I", true)
  | 3 => ("GroupTrees$Laws", "end", "[I", true)
  | 4 => ("GroupTrees$Laws", "knots", "I", false)
  | _ => ("GroupTrees$Laws", "size", "I", false)
def tyX1 : Nat → FieldType := fun k => match k with
  | 0 => .array .int
  | 1 => .array .int
  | 2 => .array .int
  | 3 => .array .int
  | 4 => .int
  | _ => .int
abbrev wsX10 : List Cond := u_ws RX1 TX1 6
theorem nmX1 : ∀ a, a < 6 → ∀ b, b < 6 → a ≠ b → (TX1 a).2.1 ≠ (TX1 b).2.1 := by decide +kernel
theorem tyX1_ok : ∀ k, k < 6 → parseFieldDescriptor (TX1 k).2.2.1 = some (tyX1 k) := by decide +kernel
abbrev cX1_init : ByteArray := prog_3_method_1_code
def yX1_init : MethodName := ⟨RX1, "<init>", "()V"⟩
abbrev cX1_forget : ByteArray := prog_3_method_2_code
def yX1_forget : MethodName := ⟨RX1, "forget", "()V"⟩
abbrev cX1_isTold : ByteArray := prog_3_method_3_code
def yX1_isTold : MethodName := ⟨RX1, "isTold", "(I)Z"⟩
abbrev cX1_emit : ByteArray := prog_3_method_4_code
def yX1_emit : MethodName := ⟨RX1, "emit", "(II)V"⟩
def RX2 : String := "GroupTrees$Net"
def TX2 : u_T := fun k => match k with
  | 0 => ("GroupTrees$Net", "far", "[I", true)
  | 1 => ("GroupTrees$Net", "firstUp", "[I", true)
  | 2 => ("GroupTrees$Net", "rivals", "[I", true)
  | 3 => ("GroupTrees$Net", "stack", "[J", true)
  | 4 => ("GroupTrees$Net", "measured", "Z", false)
  | 5 => ("GroupTrees$Net", "measuredCut", "I", false)
  | _ => ("GroupTrees$Net", "plan", "LGroupTrees$Plan;", false)
def tyX2 : Nat → FieldType := fun k => match k with
  | 0 => .array .int
  | 1 => .array .int
  | 2 => .array .int
  | 3 => .array .long
  | 4 => .boolean
  | 5 => .int
  | _ => .object "GroupTrees$Plan"
abbrev wsX20 : List Cond := u_ws RX2 TX2 7
theorem nmX2 : ∀ a, a < 7 → ∀ b, b < 7 → a ≠ b → (TX2 a).2.1 ≠ (TX2 b).2.1 := by decide +kernel
theorem tyX2_ok : ∀ k, k < 7 → parseFieldDescriptor (TX2 k).2.2.1 = some (tyX2 k) := by decide +kernel
abbrev cX2_init : ByteArray := prog_4_method_1_code
def yX2_init : MethodName := ⟨RX2, "<init>", "(LGroupTrees$Plan;)V"⟩
abbrev cX2_take : ByteArray := prog_4_method_2_code
def yX2_take : MethodName := ⟨RX2, "take", "(LGroupTrees$Plan;)V"⟩
abbrev cX2_measure : ByteArray := prog_4_method_3_code
def yX2_measure : MethodName := ⟨RX2, "measure", "(I)V"⟩
abbrev cX2_lookUp : ByteArray := prog_4_method_4_code
def yX2_lookUp : MethodName := ⟨RX2, "lookUp", "(III)V"⟩
abbrev cX2_nearer : ByteArray := prog_4_method_5_code
def yX2_nearer : MethodName := ⟨RX2, "nearer", "(III)I"⟩
abbrev cX2_lowest : ByteArray := prog_4_method_6_code
def yX2_lowest : MethodName := ⟨RX2, "lowest", "(I)I"⟩
abbrev cX2_climb : ByteArray := prog_4_method_7_code
def yX2_climb : MethodName := ⟨RX2, "climb", "(LGroupTrees$State;II)I"⟩
abbrev cX2_preferred : ByteArray := prog_4_method_8_code
def yX2_preferred : MethodName := ⟨RX2, "preferred", "(LGroupTrees$State;II)I"⟩
abbrev cX2_wanted : ByteArray := prog_4_method_9_code
def yX2_wanted : MethodName := ⟨RX2, "wanted", "(LGroupTrees$State;II)Z"⟩
abbrev cX2_calls : ByteArray := prog_4_method_10_code
def yX2_calls : MethodName := ⟨RX2, "calls", "(LGroupTrees$State;II)Z"⟩
abbrev cX2_allJoined : ByteArray := prog_4_method_11_code
def yX2_allJoined : MethodName := ⟨RX2, "allJoined", "(LGroupTrees$State;)Z"⟩
abbrev cX2_work : ByteArray := prog_4_method_12_code
def yX2_work : MethodName := ⟨RX2, "work", "(ILGroupTrees$State;II)J"⟩
abbrev cX2_value : ByteArray := prog_4_method_13_code
def yX2_value : MethodName := ⟨RX2, "value", "(ILGroupTrees$State;II)J"⟩
abbrev cX2_join : ByteArray := prog_4_method_14_code
def yX2_join : MethodName := ⟨RX2, "join", "(IJJ)J"⟩
abbrev cX2_fitsTimes : ByteArray := prog_4_method_15_code
def yX2_fitsTimes : MethodName := ⟨RX2, "fitsTimes", "(JJ)Z"⟩
def RX3 : String := "GroupTrees$Notes"
def TX3 : u_T := fun k => match k with
  | 0 => ("GroupTrees$Notes", "net", "LGroupTrees$Net;", true)
  | 1 => ("GroupTrees$Notes", "kind", "[I", true)
  | 2 => ("GroupTrees$Notes", "from", "[I", true)
  | 3 => ("GroupTrees$Notes", "to", "[I", true)
  | 4 => ("GroupTrees$Notes", "limit", "[I", true)
  | 5 => ("GroupTrees$Notes", "costs", "[I", true)
  | 6 => ("GroupTrees$Notes", "table", "[I", true)
  | 7 => ("GroupTrees$Notes", "tabled", "I", false)
  | 8 => ("GroupTrees$Notes", "count", "I", false)
  | 9 => ("GroupTrees$Notes", "first", "I", false)
  | 10 => ("GroupTrees$Notes", "askFrom", "I", false)
  | 11 => ("GroupTrees$Notes", "askTo", "I", false)
  | _ => ("GroupTrees$Notes", "askLeft", "I", false)
def tyX3 : Nat → FieldType := fun k => match k with
  | 0 => .object "GroupTrees$Net"
  | 1 => .array .int
  | 2 => .array .int
  | 3 => .array .int
  | 4 => .array .int
  | 5 => .array .int
  | 6 => .array .int
  | 7 => .int
  | 8 => .int
  | 9 => .int
  | 10 => .int
  | 11 => .int
  | _ => .int
abbrev wsX30 : List Cond := u_ws RX3 TX3 13
theorem nmX3 : ∀ a, a < 13 → ∀ b, b < 13 → a ≠ b → (TX3 a).2.1 ≠ (TX3 b).2.1 := by decide +kernel
theorem tyX3_ok : ∀ k, k < 13 → parseFieldDescriptor (TX3 k).2.2.1 = some (tyX3 k) := by decide +kernel
abbrev cX3_init : ByteArray := prog_5_method_1_code
def yX3_init : MethodName := ⟨RX3, "<init>", "(LGroupTrees$Net;)V"⟩
abbrev cX3_restart : ByteArray := prog_5_method_2_code
def yX3_restart : MethodName := ⟨RX3, "restart", "()V"⟩
abbrev cX3_add : ByteArray := prog_5_method_3_code
def yX3_add : MethodName := ⟨RX3, "add", "(IIII)I"⟩
abbrev cX3_inForce : ByteArray := prog_5_method_4_code
def yX3_inForce : MethodName := ⟨RX3, "inForce", "()I"⟩
abbrev cX3_tabulate : ByteArray := prog_5_method_5_code
def yX3_tabulate : MethodName := ⟨RX3, "tabulate", "(I)V"⟩
abbrev cX3_farAt : ByteArray := prog_5_method_6_code
def yX3_farAt : MethodName := ⟨RX3, "farAt", "(III)I"⟩
abbrev cX3_standing : ByteArray := prog_5_method_7_code
def yX3_standing : MethodName := ⟨RX3, "standing", "()I"⟩
abbrev cX3_fitting : ByteArray := prog_5_method_8_code
def yX3_fitting : MethodName := ⟨RX3, "fitting", "(I)I"⟩
abbrev cX3_fits : ByteArray := prog_5_method_9_code
def yX3_fits : MethodName := ⟨RX3, "fits", "(II)Z"⟩
abbrev cX3_question : ByteArray := prog_5_method_10_code
def yX3_question : MethodName := ⟨RX3, "question", "(I)V"⟩
abbrev cX3_atWorst : ByteArray := prog_5_method_11_code
def yX3_atWorst : MethodName := ⟨RX3, "atWorst", "(III)I"⟩
def RX4 : String := "GroupTrees$Past"
def TX4 : u_T := fun k => match k with
  | 0 => ("GroupTrees$Past", "rows", "[I", true)
  | 1 => ("GroupTrees$Past", "next", "I", false)
  | _ => ("GroupTrees$Past", "count", "I", false)
def tyX4 : Nat → FieldType := fun k => match k with
  | 0 => .array .int
  | 1 => .int
  | _ => .int
abbrev wsX40 : List Cond := u_ws RX4 TX4 3
theorem nmX4 : ∀ a, a < 3 → ∀ b, b < 3 → a ≠ b → (TX4 a).2.1 ≠ (TX4 b).2.1 := by decide +kernel
theorem tyX4_ok : ∀ k, k < 3 → parseFieldDescriptor (TX4 k).2.2.1 = some (tyX4 k) := by decide +kernel
abbrev cX4_init : ByteArray := prog_6_method_1_code
def yX4_init : MethodName := ⟨RX4, "<init>", "()V"⟩
abbrev cX4_clear : ByteArray := prog_6_method_2_code
def yX4_clear : MethodName := ⟨RX4, "clear", "()V"⟩
abbrev cX4_remember : ByteArray := prog_6_method_3_code
def yX4_remember : MethodName := ⟨RX4, "remember", "(LGroupTrees$State;)V"⟩
abbrev cX4_recall : ByteArray := prog_6_method_4_code
def yX4_recall : MethodName := ⟨RX4, "recall", "(LGroupTrees$State;)V"⟩
def RX5 : String := "GroupTrees$Plan"
def TX5 : u_T := fun k => match k with
  | 0 => ("GroupTrees$Plan", "nodeName", "[I", true)
  | 1 => ("GroupTrees$Plan", "cost", "[I", true)
  | 2 => ("GroupTrees$Plan", "members", "[I", true)
  | 3 => ("GroupTrees$Plan", "sourceName", "[I", true)
  | 4 => ("GroupTrees$Plan", "sourceNode", "[I", true)
  | 5 => ("GroupTrees$Plan", "eventKind", "[I", true)
  | 6 => ("GroupTrees$Plan", "eventWho", "[I", true)
  | 7 => ("GroupTrees$Plan", "eventTick", "[I", true)
  | 8 => ("GroupTrees$Plan", "sendSource", "[I", true)
  | 9 => ("GroupTrees$Plan", "sendTick", "[I", true)
  | 10 => ("GroupTrees$Plan", "laws", "LGroupTrees$Laws;", true)
  | 11 => ("GroupTrees$Plan", "nodes", "I", false)
  | 12 => ("GroupTrees$Plan", "links", "I", false)
  | 13 => ("GroupTrees$Plan", "sources", "I", false)
  | 14 => ("GroupTrees$Plan", "events", "I", false)
  | 15 => ("GroupTrees$Plan", "sends", "I", false)
  | 16 => ("GroupTrees$Plan", "meeting", "I", false)
  | 17 => ("GroupTrees$Plan", "hold", "I", false)
  | 18 => ("GroupTrees$Plan", "loss", "I", false)
  | _ => ("GroupTrees$Plan", "seed", "I", false)
def tyX5 : Nat → FieldType := fun k => match k with
  | 0 => .array .int
  | 1 => .array .int
  | 2 => .array .int
  | 3 => .array .int
  | 4 => .array .int
  | 5 => .array .int
  | 6 => .array .int
  | 7 => .array .int
  | 8 => .array .int
  | 9 => .array .int
  | 10 => .object "GroupTrees$Laws"
  | 11 => .int
  | 12 => .int
  | 13 => .int
  | 14 => .int
  | 15 => .int
  | 16 => .int
  | 17 => .int
  | 18 => .int
  | _ => .int
abbrev wsX50 : List Cond := u_ws RX5 TX5 20
theorem nmX5 : ∀ a, a < 20 → ∀ b, b < 20 → a ≠ b → (TX5 a).2.1 ≠ (TX5 b).2.1 := by decide +kernel
theorem tyX5_ok : ∀ k, k < 20 → parseFieldDescriptor (TX5 k).2.2.1 = some (tyX5 k) := by decide +kernel
abbrev cX5_init : ByteArray := prog_7_method_1_code
def yX5_init : MethodName := ⟨RX5, "<init>", "()V"⟩
abbrev cX5_clear : ByteArray := prog_7_method_2_code
def yX5_clear : MethodName := ⟨RX5, "clear", "()V"⟩
abbrev cX5_root : ByteArray := prog_7_method_3_code
def yX5_root : MethodName := ⟨RX5, "root", "(I)I"⟩
abbrev cX5_spread : ByteArray := prog_7_method_4_code
def yX5_spread : MethodName := ⟨RX5, "spread", "([III[II)V"⟩
abbrev cX5_relax : ByteArray := prog_7_method_5_code
def yX5_relax : MethodName := ⟨RX5, "relax", "(II[II)Z"⟩
abbrev cX5_reach : ByteArray := prog_7_method_6_code
def yX5_reach : MethodName := ⟨RX5, "reach", "(II)I"⟩
abbrev cX5_price : ByteArray := prog_7_method_7_code
def yX5_price : MethodName := ⟨RX5, "price", "(I)I"⟩
def RX6 : String := "GroupTrees$Reader"
def TX6 : u_T := fun k => match k with
  | 0 => ("GroupTrees$Reader", "tokens", "LGroupTrees$Tokens;", true)
  | 1 => ("GroupTrees$Reader", "pending", "[I", true)
  | 2 => ("GroupTrees$Reader", "ranks", "[I", true)
  | 3 => ("GroupTrees$Reader", "plan", "LGroupTrees$Plan;", false)
  | 4 => ("GroupTrees$Reader", "height", "I", false)
  | 5 => ("GroupTrees$Reader", "told", "I", false)
  | 6 => ("GroupTrees$Reader", "found", "I", false)
  | 7 => ("GroupTrees$Reader", "lines", "I", false)
  | 8 => ("GroupTrees$Reader", "fault", "I", false)
  | _ => ("GroupTrees$Reader", "place", "I", false)
def tyX6 : Nat → FieldType := fun k => match k with
  | 0 => .object "GroupTrees$Tokens"
  | 1 => .array .int
  | 2 => .array .int
  | 3 => .object "GroupTrees$Plan"
  | 4 => .int
  | 5 => .int
  | 6 => .int
  | 7 => .int
  | 8 => .int
  | _ => .int
abbrev wsX60 : List Cond := u_ws RX6 TX6 10
theorem nmX6 : ∀ a, a < 10 → ∀ b, b < 10 → a ≠ b → (TX6 a).2.1 ≠ (TX6 b).2.1 := by decide +kernel
theorem tyX6_ok : ∀ k, k < 10 → parseFieldDescriptor (TX6 k).2.2.1 = some (tyX6 k) := by decide +kernel
abbrev cX6_init : ByteArray := prog_8_method_1_code
def yX6_init : MethodName := ⟨RX6, "<init>", "(LGroupTrees$Tokens;LGroupTrees$Plan;)V"⟩
abbrev cX6_read : ByteArray := prog_8_method_2_code
def yX6_read : MethodName := ⟨RX6, "read", "(LGroupTrees$Plan;I)Z"⟩
abbrev cX6_fail : ByteArray := prog_8_method_3_code
def yX6_fail : MethodName := ⟨RX6, "fail", "(I)Z"⟩
abbrev cX6_stops : ByteArray := prog_8_method_4_code
def yX6_stops : MethodName := ⟨RX6, "stops", "()Z"⟩
abbrev cX6_room : ByteArray := prog_8_method_5_code
def yX6_room : MethodName := ⟨RX6, "room", "(II)Z"⟩
abbrev cX6_once : ByteArray := prog_8_method_6_code
def yX6_once : MethodName := ⟨RX6, "once", "()Z"⟩
abbrev cX6_number : ByteArray := prog_8_method_7_code
def yX6_number : MethodName := ⟨RX6, "number", "(II)Z"⟩
abbrev cX6_newName : ByteArray := prog_8_method_8_code
def yX6_newName : MethodName := ⟨RX6, "newName", "([II)Z"⟩
abbrev cX6_oldName : ByteArray := prog_8_method_9_code
def yX6_oldName : MethodName := ⟨RX6, "oldName", "([II)Z"⟩
abbrev cX6_nodeLine : ByteArray := prog_8_method_10_code
def yX6_nodeLine : MethodName := ⟨RX6, "nodeLine", "()Z"⟩
abbrev cX6_linkLine : ByteArray := prog_8_method_11_code
def yX6_linkLine : MethodName := ⟨RX6, "linkLine", "()Z"⟩
abbrev cX6_member : ByteArray := prog_8_method_12_code
def yX6_member : MethodName := ⟨RX6, "member", "(II)Z"⟩
abbrev cX6_meetLine : ByteArray := prog_8_method_13_code
def yX6_meetLine : MethodName := ⟨RX6, "meetLine", "()Z"⟩
abbrev cX6_sourceLine : ByteArray := prog_8_method_14_code
def yX6_sourceLine : MethodName := ⟨RX6, "sourceLine", "()Z"⟩
abbrev cX6_eventLine : ByteArray := prog_8_method_15_code
def yX6_eventLine : MethodName := ⟨RX6, "eventLine", "()Z"⟩
abbrev cX6_oldLink : ByteArray := prog_8_method_16_code
def yX6_oldLink : MethodName := ⟨RX6, "oldLink", "()Z"⟩
abbrev cX6_sendLine : ByteArray := prog_8_method_17_code
def yX6_sendLine : MethodName := ⟨RX6, "sendLine", "()Z"⟩
abbrev cX6_numberLine : ByteArray := prog_8_method_18_code
def yX6_numberLine : MethodName := ⟨RX6, "numberLine", "()Z"⟩
abbrev cX6_lawLine : ByteArray := prog_8_method_19_code
def yX6_lawLine : MethodName := ⟨RX6, "lawLine", "()Z"⟩
abbrev cX6_formula : ByteArray := prog_8_method_20_code
def yX6_formula : MethodName := ⟨RX6, "formula", "()Z"⟩
abbrev cX6_side : ByteArray := prog_8_method_21_code
def yX6_side : MethodName := ⟨RX6, "side", "()Z"⟩
abbrev cX6_sign : ByteArray := prog_8_method_22_code
def yX6_sign : MethodName := ⟨RX6, "sign", "()Z"⟩
abbrev cX6_knot : ByteArray := prog_8_method_23_code
def yX6_knot : MethodName := ⟨RX6, "knot", "()Z"⟩
abbrev cX6_push : ByteArray := prog_8_method_24_code
def yX6_push : MethodName := ⟨RX6, "push", "(I)Z"⟩
abbrev cX6_release : ByteArray := prog_8_method_25_code
def yX6_release : MethodName := ⟨RX6, "release", "(I)V"⟩
abbrev cX6_topRank : ByteArray := prog_8_method_26_code
def yX6_topRank : MethodName := ⟨RX6, "topRank", "()I"⟩
abbrev cX6_rank : ByteArray := prog_8_method_27_code
def yX6_rank : MethodName := ⟨RX6, "rank", "(I)I"⟩
def RX7 : String := "GroupTrees$State"
def TX7 : u_T := fun k => match k with
  | 0 => ("GroupTrees$State", "switched", "[I", true)
  | 1 => ("GroupTrees$State", "heard", "[I", true)
  | 2 => ("GroupTrees$State", "twice", "[I", true)
  | 3 => ("GroupTrees$State", "missed", "[I", true)
  | 4 => ("GroupTrees$State", "held", "[I", true)
  | 5 => ("GroupTrees$State", "sending", "[I", true)
  | 6 => ("GroupTrees$State", "tick", "I", false)
  | 7 => ("GroupTrees$State", "listening", "I", false)
  | 8 => ("GroupTrees$State", "cut", "I", false)
  | 9 => ("GroupTrees$State", "registers", "I", false)
  | 10 => ("GroupTrees$State", "suppressed", "I", false)
  | 11 => ("GroupTrees$State", "asserts", "I", false)
  | _ => ("GroupTrees$State", "random", "I", false)
def tyX7 : Nat → FieldType := fun k => match k with
  | 0 => .array .int
  | 1 => .array .int
  | 2 => .array .int
  | 3 => .array .int
  | 4 => .array .int
  | 5 => .array .int
  | 6 => .int
  | 7 => .int
  | 8 => .int
  | 9 => .int
  | 10 => .int
  | 11 => .int
  | _ => .int
abbrev wsX70 : List Cond := u_ws RX7 TX7 13
theorem nmX7 : ∀ a, a < 13 → ∀ b, b < 13 → a ≠ b → (TX7 a).2.1 ≠ (TX7 b).2.1 := by decide +kernel
theorem tyX7_ok : ∀ k, k < 13 → parseFieldDescriptor (TX7 k).2.2.1 = some (tyX7 k) := by decide +kernel
abbrev cX7_init : ByteArray := prog_9_method_1_code
def yX7_init : MethodName := ⟨RX7, "<init>", "()V"⟩
abbrev cX7_restart : ByteArray := prog_9_method_2_code
def yX7_restart : MethodName := ⟨RX7, "restart", "(I)V"⟩
abbrev cX7_copyFrom : ByteArray := prog_9_method_3_code
def yX7_copyFrom : MethodName := ⟨RX7, "copyFrom", "(LGroupTrees$State;)V"⟩
abbrev cX7_pack : ByteArray := prog_9_method_4_code
def yX7_pack : MethodName := ⟨RX7, "pack", "([II)V"⟩
abbrev cX7_unpack : ByteArray := prog_9_method_5_code
def yX7_unpack : MethodName := ⟨RX7, "unpack", "([II)V"⟩
abbrev cX7_stopListening : ByteArray := prog_9_method_6_code
def yX7_stopListening : MethodName := ⟨RX7, "stopListening", "(I)V"⟩
abbrev cX7_switchedTo : ByteArray := prog_9_method_7_code
def yX7_switchedTo : MethodName := ⟨RX7, "switchedTo", "(I)I"⟩
abbrev cX7_hold : ByteArray := prog_9_method_8_code
def yX7_hold : MethodName := ⟨RX7, "hold", "(III)V"⟩
abbrev cX7_fade : ByteArray := prog_9_method_9_code
def yX7_fade : MethodName := ⟨RX7, "fade", "()V"⟩
abbrev cX7_linksHeld : ByteArray := prog_9_method_10_code
def yX7_linksHeld : MethodName := ⟨RX7, "linksHeld", "(I)I"⟩
abbrev cX7_heldInAll : ByteArray := prog_9_method_11_code
def yX7_heldInAll : MethodName := ⟨RX7, "heldInAll", "()I"⟩
def RX8 : String := "GroupTrees$Tokens"
def TX8 : u_T := fun k => match k with
  | 0 => ("GroupTrees$Tokens", "tape", "[B", true)
  | 1 => ("GroupTrees$Tokens", "words", "[I", true)
  | 2 => ("GroupTrees$Tokens", "kinds", "[I", true)
  | 3 => ("GroupTrees$Tokens", "places", "[I", true)
  | 4 => ("GroupTrees$Tokens", "values", "[I", true)
  | 5 => ("GroupTrees$Tokens", "end", "I", false)
  | 6 => ("GroupTrees$Tokens", "next", "I", false)
  | 7 => ("GroupTrees$Tokens", "at", "I", false)
  | 8 => ("GroupTrees$Tokens", "size", "I", false)
  | 9 => ("GroupTrees$Tokens", "kind", "I", false)
  | 10 => ("GroupTrees$Tokens", "place", "I", false)
  | _ => ("GroupTrees$Tokens", "value", "I", false)
def tyX8 : Nat → FieldType := fun k => match k with
  | 0 => .array .byte
  | 1 => .array .int
  | 2 => .array .int
  | 3 => .array .int
  | 4 => .array .int
  | 5 => .int
  | 6 => .int
  | 7 => .int
  | 8 => .int
  | 9 => .int
  | 10 => .int
  | _ => .int
abbrev wsX80 : List Cond := u_ws RX8 TX8 12
theorem nmX8 : ∀ a, a < 12 → ∀ b, b < 12 → a ≠ b → (TX8 a).2.1 ≠ (TX8 b).2.1 := by decide +kernel
theorem tyX8_ok : ∀ k, k < 12 → parseFieldDescriptor (TX8 k).2.2.1 = some (tyX8 k) := by decide +kernel
abbrev cX8_init : ByteArray := prog_10_method_1_code
def yX8_init : MethodName := ⟨RX8, "<init>", "()V"⟩
abbrev cX8_append : ByteArray := prog_10_method_2_code
def yX8_append : MethodName := ⟨RX8, "append", "(I)V"⟩
abbrev cX8_begin : ByteArray := prog_10_method_3_code
def yX8_begin : MethodName := ⟨RX8, "begin", "(I)V"⟩
abbrev cX8_step : ByteArray := prog_10_method_4_code
def yX8_step : MethodName := ⟨RX8, "step", "()Z"⟩
abbrev cX8_scan : ByteArray := prog_10_method_5_code
def yX8_scan : MethodName := ⟨RX8, "scan", "()V"⟩
abbrev cX8_isLetter : ByteArray := prog_10_method_6_code
def yX8_isLetter : MethodName := ⟨RX8, "isLetter", "(B)Z"⟩
abbrev cX8_isDigit : ByteArray := prog_10_method_7_code
def yX8_isDigit : MethodName := ⟨RX8, "isDigit", "(B)Z"⟩
abbrev cX8_word : ByteArray := prog_10_method_8_code
def yX8_word : MethodName := ⟨RX8, "word", "()V"⟩
abbrev cX8_number : ByteArray := prog_10_method_9_code
def yX8_number : MethodName := ⟨RX8, "number", "()V"⟩
abbrev cX8_sign : ByteArray := prog_10_method_10_code
def yX8_sign : MethodName := ⟨RX8, "sign", "(B)I"⟩
abbrev cX8_lengthen : ByteArray := prog_10_method_11_code
def yX8_lengthen : MethodName := ⟨RX8, "lengthen", "()V"⟩
def RX9 : String := "GroupTrees"
def TX9 : u_T := fun k => match k with
  | 0 => ("GroupTrees", "tokens", "LGroupTrees$Tokens;", true)
  | 1 => ("GroupTrees", "spare", "LGroupTrees$Plan;", false)
  | 2 => ("GroupTrees", "reader", "LGroupTrees$Reader;", true)
  | 3 => ("GroupTrees", "net", "LGroupTrees$Net;", true)
  | 4 => ("GroupTrees", "course", "LGroupTrees$Course;", true)
  | 5 => ("GroupTrees", "now", "LGroupTrees$State;", true)
  | 6 => ("GroupTrees", "image", "LGroupTrees$State;", true)
  | 7 => ("GroupTrees", "trial", "LGroupTrees$State;", true)
  | 8 => ("GroupTrees", "past", "LGroupTrees$Past;", true)
  | 9 => ("GroupTrees", "notes", "LGroupTrees$Notes;", true)
  | 10 => ("GroupTrees", "row", "[I", true)
  | 11 => ("GroupTrees", "kept", "Z", false)
  | 12 => ("GroupTrees", "fault", "I", false)
  | _ => ("GroupTrees", "faultPlace", "I", false)
def tyX9 : Nat → FieldType := fun k => match k with
  | 0 => .object "GroupTrees$Tokens"
  | 1 => .object "GroupTrees$Plan"
  | 2 => .object "GroupTrees$Reader"
  | 3 => .object "GroupTrees$Net"
  | 4 => .object "GroupTrees$Course"
  | 5 => .object "GroupTrees$State"
  | 6 => .object "GroupTrees$State"
  | 7 => .object "GroupTrees$State"
  | 8 => .object "GroupTrees$Past"
  | 9 => .object "GroupTrees$Notes"
  | 10 => .array .int
  | 11 => .boolean
  | 12 => .int
  | _ => .int
abbrev wsX90 : List Cond := u_ws RX9 TX9 14
theorem nmX9 : ∀ a, a < 14 → ∀ b, b < 14 → a ≠ b → (TX9 a).2.1 ≠ (TX9 b).2.1 := by decide +kernel
theorem tyX9_ok : ∀ k, k < 14 → parseFieldDescriptor (TX9 k).2.2.1 = some (tyX9 k) := by decide +kernel
abbrev cX9_init : ByteArray := prog_1_method_1_code
def yX9_init : MethodName := ⟨RX9, "<init>", "()V"⟩
abbrev cX9_feed : ByteArray := prog_1_method_2_code
def yX9_feed : MethodName := ⟨RX9, "feed", "(IIIII)I"⟩
abbrev cX9_text : ByteArray := prog_1_method_3_code
def yX9_text : MethodName := ⟨RX9, "text", "(I)I"⟩
abbrev cX9_fault : ByteArray := prog_1_method_4_code
def yX9_fault : MethodName := ⟨RX9, "fault", "(I)I"⟩
abbrev cX9_named : ByteArray := prog_1_method_5_code
def yX9_named : MethodName := ⟨RX9, "named", "(II)I"⟩
abbrev cX9_node : ByteArray := prog_1_method_6_code
def yX9_node : MethodName := ⟨RX9, "node", "(II)I"⟩
abbrev cX9_link : ByteArray := prog_1_method_7_code
def yX9_link : MethodName := ⟨RX9, "link", "(II)I"⟩
abbrev cX9_far : ByteArray := prog_1_method_8_code
def yX9_far : MethodName := ⟨RX9, "far", "(II)I"⟩
abbrev cX9_up : ByteArray := prog_1_method_9_code
def yX9_up : MethodName := ⟨RX9, "up", "(III)I"⟩
abbrev cX9_held : ByteArray := prog_1_method_10_code
def yX9_held : MethodName := ⟨RX9, "held", "(III)I"⟩
abbrev cX9_wants : ByteArray := prog_1_method_11_code
def yX9_wants : MethodName := ⟨RX9, "wants", "(II)I"⟩
abbrev cX9_law : ByteArray := prog_1_method_12_code
def yX9_law : MethodName := ⟨RX9, "law", "(III)J"⟩
abbrev cX9_listen : ByteArray := prog_1_method_13_code
def yX9_listen : MethodName := ⟨RX9, "listen", "(I)I"⟩
abbrev cX9_cut : ByteArray := prog_1_method_14_code
def yX9_cut : MethodName := ⟨RX9, "cut", "(I)I"⟩
abbrev cX9_send : ByteArray := prog_1_method_15_code
def yX9_send : MethodName := ⟨RX9, "send", "(I)I"⟩
abbrev cX9_go : ByteArray := prog_1_method_16_code
def yX9_go : MethodName := ⟨RX9, "go", "(I)I"⟩
abbrev cX9_ahead : ByteArray := prog_1_method_17_code
def yX9_ahead : MethodName := ⟨RX9, "ahead", "(II)I"⟩
abbrev cX9_quiet : ByteArray := prog_1_method_18_code
def yX9_quiet : MethodName := ⟨RX9, "quiet", "(I)I"⟩
abbrev cX9_settled : ByteArray := prog_1_method_19_code
def yX9_settled : MethodName := ⟨RX9, "settled", "()I"⟩
abbrev cX9_way : ByteArray := prog_1_method_20_code
def yX9_way : MethodName := ⟨RX9, "way", "(II)I"⟩
abbrev cX9_best : ByteArray := prog_1_method_21_code
def yX9_best : MethodName := ⟨RX9, "best", "(I)I"⟩
abbrev cX9_least : ByteArray := prog_1_method_22_code
def yX9_least : MethodName := ⟨RX9, "least", "(II)I"⟩
abbrev cX9_needed : ByteArray := prog_1_method_23_code
def yX9_needed : MethodName := ⟨RX9, "needed", "(I)I"⟩
abbrev cX9_wide : ByteArray := prog_1_method_24_code
def yX9_wide : MethodName := ⟨RX9, "wide", "(I)I"⟩
abbrev cX9_used : ByteArray := prog_1_method_25_code
def yX9_used : MethodName := ⟨RX9, "used", "(I)I"⟩
abbrev cX9_rests : ByteArray := prog_1_method_26_code
def yX9_rests : MethodName := ⟨RX9, "rests", "(III)I"⟩
abbrev cX9_rest : ByteArray := prog_1_method_27_code
def yX9_rest : MethodName := ⟨RX9, "rest", "(IIII)I"⟩
abbrev cX9_holds : ByteArray := prog_1_method_28_code
def yX9_holds : MethodName := ⟨RX9, "holds", "(II)J"⟩
abbrev cX9_note : ByteArray := prog_1_method_29_code
def yX9_note : MethodName := ⟨RX9, "note", "(IIIZ)I"⟩
abbrev cX9_strike : ByteArray := prog_1_method_30_code
def yX9_strike : MethodName := ⟨RX9, "strike", "(I)I"⟩
abbrev cX9_known : ByteArray := prog_1_method_31_code
def yX9_known : MethodName := ⟨RX9, "known", "(I)Z"⟩
abbrev cX9_costs : ByteArray := prog_1_method_32_code
def yX9_costs : MethodName := ⟨RX9, "costs", "(I)I"⟩
abbrev cX9_ask : ByteArray := prog_1_method_33_code
def yX9_ask : MethodName := ⟨RX9, "ask", "(II)I"⟩
abbrev cX9_chance : ByteArray := prog_1_method_34_code
def yX9_chance : MethodName := ⟨RX9, "chance", "(IIII)I"⟩
abbrev cX9_tried : ByteArray := prog_1_method_35_code
def yX9_tried : MethodName := ⟨RX9, "tried", "(III)I"⟩
abbrev cX9_undo : ByteArray := prog_1_method_36_code
def yX9_undo : MethodName := ⟨RX9, "undo", "()I"⟩
abbrev cX9_keep : ByteArray := prog_1_method_37_code
def yX9_keep : MethodName := ⟨RX9, "keep", "()I"⟩
abbrev cX9_back : ByteArray := prog_1_method_38_code
def yX9_back : MethodName := ⟨RX9, "back", "()I"⟩
abbrev cX9_count : ByteArray := prog_1_method_39_code
def yX9_count : MethodName := ⟨RX9, "count", "(I)I"⟩
abbrev cX9_isNode : ByteArray := prog_1_method_40_code
def yX9_isNode : MethodName := ⟨RX9, "isNode", "(I)Z"⟩
abbrev cX9_isLink : ByteArray := prog_1_method_41_code
def yX9_isLink : MethodName := ⟨RX9, "isLink", "(I)Z"⟩
abbrev cX9_isSource : ByteArray := prog_1_method_42_code
def yX9_isSource : MethodName := ⟨RX9, "isSource", "(I)Z"⟩
abbrev cX9_isTree : ByteArray := prog_1_method_43_code
def yX9_isTree : MethodName := ⟨RX9, "isTree", "(I)Z"⟩
abbrev cX9_arePair : ByteArray := prog_1_method_44_code
def yX9_arePair : MethodName := ⟨RX9, "arePair", "(III)Z"⟩
abbrev cX9_restBits : ByteArray := prog_1_method_45_code
def yX9_restBits : MethodName := ⟨RX9, "restBits", "(III)I"⟩
abbrev cX9_gain : ByteArray := prog_1_method_46_code
def yX9_gain : MethodName := ⟨RX9, "gain", "(III)I"⟩
abbrev cX9_common : ByteArray := prog_1_method_47_code
def yX9_common : MethodName := ⟨RX9, "common", "(II)I"⟩
abbrev cX9_sum : ByteArray := prog_1_method_48_code
def yX9_sum : MethodName := ⟨RX9, "sum", "([I)I"⟩
abbrev cX9_find : ByteArray := prog_1_method_49_code
def yX9_find : MethodName := ⟨RX9, "find", "([III)I"⟩
def RX10 : String := "GroupTreesModel"
def TX10 : u_T := fun k => match k with
  | 0 => ("GroupTreesModel", "tape", "[I", true)
  | 1 => ("GroupTreesModel", "tapeSize", "I", false)
  | 2 => ("GroupTreesModel", "thrown", "I", false)
  | 3 => ("GroupTreesModel", "words", "[I", true)
  | 4 => ("GroupTreesModel", "fault", "I", false)
  | 5 => ("GroupTreesModel", "faultPlace", "I", false)
  | 6 => ("GroupTreesModel", "stop", "I", false)
  | 7 => ("GroupTreesModel", "next", "I", false)
  | 8 => ("GroupTreesModel", "kind", "I", false)
  | 9 => ("GroupTreesModel", "which", "I", false)
  | 10 => ("GroupTreesModel", "at", "I", false)
  | 11 => ("GroupTreesModel", "got", "I", false)
  | 12 => ("GroupTreesModel", "nodes", "I", false)
  | 13 => ("GroupTreesModel", "links", "I", false)
  | 14 => ("GroupTreesModel", "sources", "I", false)
  | 15 => ("GroupTreesModel", "events", "I", false)
  | 16 => ("GroupTreesModel", "sends", "I", false)
  | 17 => ("GroupTreesModel", "knots", "I", false)
  | 18 => ("GroupTreesModel", "nodesRead", "I", false)
  | 19 => ("GroupTreesModel", "linksRead", "I", false)
  | 20 => ("GroupTreesModel", "sourcesRead", "I", false)
  | 21 => ("GroupTreesModel", "eventsRead", "I", false)
  | 22 => ("GroupTreesModel", "sendsRead", "I", false)
  | 23 => ("GroupTreesModel", "knotsRead", "I", false)
  | 24 => ("GroupTreesModel", "meets", "[I", true)
  | 25 => ("GroupTreesModel", "onceTold", "[Z", true)
  | 26 => ("GroupTreesModel", "once", "[I", true)
  | 27 => ("GroupTreesModel", "nodeName", "[I", true)
  | 28 => ("GroupTreesModel", "linkCost", "[I", true)
  | 29 => ("GroupTreesModel", "linkNodes", "[I", true)
  | 30 => ("GroupTreesModel", "sourceName", "[I", true)
  | 31 => ("GroupTreesModel", "sourceNode", "[I", true)
  | 32 => ("GroupTreesModel", "eventWhat", "[I", true)
  | 33 => ("GroupTreesModel", "eventOf", "[I", true)
  | 34 => ("GroupTreesModel", "eventTick", "[I", true)
  | 35 => ("GroupTreesModel", "sendSource", "[I", true)
  | 36 => ("GroupTreesModel", "sendTick", "[I", true)
  | 37 => ("GroupTreesModel", "lawTold", "[Z", true)
  | 38 => ("GroupTreesModel", "from", "[I", true)
  | 39 => ("GroupTreesModel", "to", "[I", true)
  | 40 => ("GroupTreesModel", "knot", "[I", true)
  | 41 => ("GroupTreesModel", "part", "[I", true)
  | 42 => ("GroupTreesModel", "other", "[I", true)
  | 43 => ("GroupTreesModel", "wait", "[I", true)
  | 44 => ("GroupTreesModel", "held", "[I", true)
  | 45 => ("GroupTreesModel", "waits", "I", false)
  | 46 => ("GroupTreesModel", "helds", "I", false)
  | 47 => ("GroupTreesModel", "brackets", "I", false)
  | 48 => ("GroupTreesModel", "counted", "I", false)
  | 49 => ("GroupTreesModel", "wants", "Z", false)
  | 50 => ("GroupTreesModel", "mayNot", "Z", false)
  | 51 => ("GroupTreesModel", "names", "[J", true)
  | 52 => ("GroupTreesModel", "value", "[J", true)
  | 53 => ("GroupTreesModel", "isError", "Z", false)
  | 54 => ("GroupTreesModel", "cutNow", "[I", true)
  | 55 => ("GroupTreesModel", "listens", "[I", true)
  | 56 => ("GroupTreesModel", "switched", "[I", true)
  | 57 => ("GroupTreesModel", "holds1", "[I", true)
  | 58 => ("GroupTreesModel", "heard", "[I", true)
  | 59 => ("GroupTreesModel", "twice", "[I", true)
  | 60 => ("GroupTreesModel", "missed", "[I", true)
  | 61 => ("GroupTreesModel", "registers", "[I", true)
  | 62 => ("GroupTreesModel", "suppressed", "[I", true)
  | 63 => ("GroupTreesModel", "asserts", "[I", true)
  | 64 => ("GroupTreesModel", "tick", "[I", true)
  | 65 => ("GroupTreesModel", "drawn", "J", false)
  | 66 => ("GroupTreesModel", "draws", "Z", false)
  | 67 => ("GroupTreesModel", "noLoss", "Z", false)
  | 68 => ("GroupTreesModel", "noSwitch", "Z", false)
  | 69 => ("GroupTreesModel", "noCut", "Z", false)
  | 70 => ("GroupTreesModel", "short1", "Z", false)
  | 71 => ("GroupTreesModel", "noEvents", "Z", false)
  | 72 => ("GroupTreesModel", "deaf", "I", false)
  | 73 => ("GroupTreesModel", "costOf", "I", false)
  | 74 => ("GroupTreesModel", "costBy", "I", false)
  | 75 => ("GroupTreesModel", "dist", "[I", true)
  | 76 => ("GroupTreesModel", "upNode", "I", false)
  | 77 => ("GroupTreesModel", "joined", "[Z", true)
  | 78 => ("GroupTreesModel", "came", "[I", true)
  | 79 => ("GroupTreesModel", "sentBy", "[I", true)
  | 80 => ("GroupTreesModel", "notedMany", "I", false)
  | 81 => ("GroupTreesModel", "knownTold", "I", false)
  | 82 => ("GroupTreesModel", "noted1", "[I", true)
  | 83 => ("GroupTreesModel", "counts", "[Z", true)
  | 84 => ("GroupTreesModel", "farBy", "[I", true)
  | 85 => ("GroupTreesModel", "undos", "I", false)
  | 86 => ("GroupTreesModel", "undo", "[I", true)
  | 87 => ("GroupTreesModel", "hasImage", "Z", false)
  | 88 => ("GroupTreesModel", "image", "[I", true)
  | 89 => ("GroupTreesModel", "imageTick", "I", false)
  | _ => ("GroupTreesModel", "imageDrawn", "J", false)
def tyX10 : Nat → FieldType := fun k => match k with
  | 0 => .array .int
  | 1 => .int
  | 2 => .int
  | 3 => .array .int
  | 4 => .int
  | 5 => .int
  | 6 => .int
  | 7 => .int
  | 8 => .int
  | 9 => .int
  | 10 => .int
  | 11 => .int
  | 12 => .int
  | 13 => .int
  | 14 => .int
  | 15 => .int
  | 16 => .int
  | 17 => .int
  | 18 => .int
  | 19 => .int
  | 20 => .int
  | 21 => .int
  | 22 => .int
  | 23 => .int
  | 24 => .array .int
  | 25 => .array .boolean
  | 26 => .array .int
  | 27 => .array .int
  | 28 => .array .int
  | 29 => .array .int
  | 30 => .array .int
  | 31 => .array .int
  | 32 => .array .int
  | 33 => .array .int
  | 34 => .array .int
  | 35 => .array .int
  | 36 => .array .int
  | 37 => .array .boolean
  | 38 => .array .int
  | 39 => .array .int
  | 40 => .array .int
  | 41 => .array .int
  | 42 => .array .int
  | 43 => .array .int
  | 44 => .array .int
  | 45 => .int
  | 46 => .int
  | 47 => .int
  | 48 => .int
  | 49 => .boolean
  | 50 => .boolean
  | 51 => .array .long
  | 52 => .array .long
  | 53 => .boolean
  | 54 => .array .int
  | 55 => .array .int
  | 56 => .array .int
  | 57 => .array .int
  | 58 => .array .int
  | 59 => .array .int
  | 60 => .array .int
  | 61 => .array .int
  | 62 => .array .int
  | 63 => .array .int
  | 64 => .array .int
  | 65 => .long
  | 66 => .boolean
  | 67 => .boolean
  | 68 => .boolean
  | 69 => .boolean
  | 70 => .boolean
  | 71 => .boolean
  | 72 => .int
  | 73 => .int
  | 74 => .int
  | 75 => .array .int
  | 76 => .int
  | 77 => .array .boolean
  | 78 => .array .int
  | 79 => .array .int
  | 80 => .int
  | 81 => .int
  | 82 => .array .int
  | 83 => .array .boolean
  | 84 => .array .int
  | 85 => .int
  | 86 => .array .int
  | 87 => .boolean
  | 88 => .array .int
  | 89 => .int
  | _ => .long
abbrev wsX100 : List Cond := u_ws RX10 TX10 91
theorem nmX10 : ∀ a, a < 91 → ∀ b, b < 91 → a ≠ b → (TX10 a).2.1 ≠ (TX10 b).2.1 := by decide +kernel
theorem tyX10_ok : ∀ k, k < 91 → parseFieldDescriptor (TX10 k).2.2.1 = some (tyX10 k) := by decide +kernel
abbrev cX10_init : ByteArray := prog_12_method_1_code
def yX10_init : MethodName := ⟨RX10, "<init>", "()V"⟩
abbrev cX10_thrown : ByteArray := prog_12_method_2_code
def yX10_thrown : MethodName := ⟨RX10, "thrown", "()I"⟩
abbrev cX10_feed : ByteArray := prog_12_method_3_code
def yX10_feed : MethodName := ⟨RX10, "feed", "(IIIII)I"⟩
abbrev cX10_isIn : ByteArray := prog_12_method_4_code
def yX10_isIn : MethodName := ⟨RX10, "isIn", "(III)Z"⟩
abbrev cX10_isOf : ByteArray := prog_12_method_5_code
def yX10_isOf : MethodName := ⟨RX10, "isOf", "(II)Z"⟩
abbrev cX10_wrong : ByteArray := prog_12_method_6_code
def yX10_wrong : MethodName := ⟨RX10, "wrong", "(I)Z"⟩
abbrev cX10_wordAt : ByteArray := prog_12_method_7_code
def yX10_wordAt : MethodName := ⟨RX10, "wordAt", "(II)I"⟩
abbrev cX10_isSmall : ByteArray := prog_12_method_8_code
def yX10_isSmall : MethodName := ⟨RX10, "isSmall", "(I)Z"⟩
abbrev cX10_isDigit : ByteArray := prog_12_method_9_code
def yX10_isDigit : MethodName := ⟨RX10, "isDigit", "(I)Z"⟩
abbrev cX10_token : ByteArray := prog_12_method_10_code
def yX10_token : MethodName := ⟨RX10, "token", "()V"⟩
abbrev cX10_signToken : ByteArray := prog_12_method_11_code
def yX10_signToken : MethodName := ⟨RX10, "signToken", "()V"⟩
abbrev cX10_packed : ByteArray := prog_12_method_12_code
def yX10_packed : MethodName := ⟨RX10, "packed", "(II)I"⟩
abbrev cX10_isKey : ByteArray := prog_12_method_13_code
def yX10_isKey : MethodName := ⟨RX10, "isKey", "(I)Z"⟩
abbrev cX10_isSign : ByteArray := prog_12_method_14_code
def yX10_isSign : MethodName := ⟨RX10, "isSign", "(I)Z"⟩
abbrev cX10_number : ByteArray := prog_12_method_15_code
def yX10_number : MethodName := ⟨RX10, "number", "(II)Z"⟩
abbrev cX10_plain : ByteArray := prog_12_method_17_code
def yX10_plain : MethodName := ⟨RX10, "plain", "()V"⟩
abbrev cX10_copies : ByteArray := prog_12_method_18_code
def yX10_copies : MethodName := ⟨RX10, "copies", "([II)V"⟩
abbrev cX10_keepText : ByteArray := prog_12_method_19_code
def yX10_keepText : MethodName := ⟨RX10, "keepText", "()V"⟩
abbrev cX10_find : ByteArray := prog_12_method_20_code
def yX10_find : MethodName := ⟨RX10, "find", "([IIII)I"⟩
abbrev cX10_newName : ByteArray := prog_12_method_21_code
def yX10_newName : MethodName := ⟨RX10, "newName", "([III)Z"⟩
abbrev cX10_thereIn : ByteArray := prog_12_method_22_code
def yX10_thereIn : MethodName := ⟨RX10, "thereIn", "([III)Z"⟩
abbrev cX10_nodeLine : ByteArray := prog_12_method_23_code
def yX10_nodeLine : MethodName := ⟨RX10, "nodeLine", "()Z"⟩
abbrev cX10_linkLine : ByteArray := prog_12_method_24_code
def yX10_linkLine : MethodName := ⟨RX10, "linkLine", "()Z"⟩
abbrev cX10_meetLine : ByteArray := prog_12_method_25_code
def yX10_meetLine : MethodName := ⟨RX10, "meetLine", "()Z"⟩
abbrev cX10_sourceLine : ByteArray := prog_12_method_26_code
def yX10_sourceLine : MethodName := ⟨RX10, "sourceLine", "()Z"⟩
abbrev cX10_eventLine : ByteArray := prog_12_method_27_code
def yX10_eventLine : MethodName := ⟨RX10, "eventLine", "()Z"⟩
abbrev cX10_sendLine : ByteArray := prog_12_method_28_code
def yX10_sendLine : MethodName := ⟨RX10, "sendLine", "()Z"⟩
abbrev cX10_onceLine : ByteArray := prog_12_method_29_code
def yX10_onceLine : MethodName := ⟨RX10, "onceLine", "(III)Z"⟩
abbrev cX10_lineRead : ByteArray := prog_12_method_30_code
def yX10_lineRead : MethodName := ⟨RX10, "lineRead", "()Z"⟩
abbrev cX10_text : ByteArray := prog_12_method_31_code
def yX10_text : MethodName := ⟨RX10, "text", "(I)I"⟩
abbrev cX10_fault : ByteArray := prog_12_method_32_code
def yX10_fault : MethodName := ⟨RX10, "fault", "(I)I"⟩
abbrev cX10_named : ByteArray := prog_12_method_33_code
def yX10_named : MethodName := ⟨RX10, "named", "(II)I"⟩
abbrev cX10_standing : ByteArray := prog_12_method_34_code
def yX10_standing : MethodName := ⟨RX10, "standing", "(I)I"⟩
abbrev cX10_grown : ByteArray := prog_12_method_35_code
def yX10_grown : MethodName := ⟨RX10, "grown", "(III)V"⟩
abbrev cX10_dropHeld : ByteArray := prog_12_method_36_code
def yX10_dropHeld : MethodName := ⟨RX10, "dropHeld", "()I"⟩
abbrev cX10_bind : ByteArray := prog_12_method_37_code
def yX10_bind : MethodName := ⟨RX10, "bind", "(I)V"⟩
abbrev cX10_isCounted : ByteArray := prog_12_method_38_code
def yX10_isCounted : MethodName := ⟨RX10, "isCounted", "()Z"⟩
abbrev cX10_waitsFor : ByteArray := prog_12_method_39_code
def yX10_waitsFor : MethodName := ⟨RX10, "waitsFor", "(I)V"⟩
abbrev cX10_nameMet : ByteArray := prog_12_method_40_code
def yX10_nameMet : MethodName := ⟨RX10, "nameMet", "()I"⟩
abbrev cX10_leafRead : ByteArray := prog_12_method_41_code
def yX10_leafRead : MethodName := ⟨RX10, "leafRead", "()Z"⟩
abbrev cX10_signs : ByteArray := prog_12_method_42_code
def yX10_signs : MethodName := ⟨RX10, "signs", "()Z"⟩
abbrev cX10_sumRead : ByteArray := prog_12_method_43_code
def yX10_sumRead : MethodName := ⟨RX10, "sumRead", "()Z"⟩
abbrev cX10_bounded : ByteArray := prog_12_method_44_code
def yX10_bounded : MethodName := ⟨RX10, "bounded", "(J)J"⟩
abbrev cX10_compares : ByteArray := prog_12_method_45_code
def yX10_compares : MethodName := ⟨RX10, "compares", "(IJJ)Z"⟩
abbrev cX10_times : ByteArray := prog_12_method_46_code
def yX10_times : MethodName := ⟨RX10, "times", "(JJ)J"⟩
abbrev cX10_valueOf : ByteArray := prog_12_method_47_code
def yX10_valueOf : MethodName := ⟨RX10, "valueOf", "(I)J"⟩
abbrev cX10_begin : ByteArray := prog_12_method_48_code
def yX10_begin : MethodName := ⟨RX10, "begin", "()V"⟩
abbrev cX10_plainTried : ByteArray := prog_12_method_49_code
def yX10_plainTried : MethodName := ⟨RX10, "plainTried", "()V"⟩
abbrev cX10_layTried : ByteArray := prog_12_method_50_code
def yX10_layTried : MethodName := ⟨RX10, "layTried", "()V"⟩
abbrev cX10_isNode : ByteArray := prog_12_method_51_code
def yX10_isNode : MethodName := ⟨RX10, "isNode", "(I)Z"⟩
abbrev cX10_isLink : ByteArray := prog_12_method_52_code
def yX10_isLink : MethodName := ⟨RX10, "isLink", "(I)Z"⟩
abbrev cX10_isTree : ByteArray := prog_12_method_53_code
def yX10_isTree : MethodName := ⟨RX10, "isTree", "(I)Z"⟩
abbrev cX10_isSource : ByteArray := prog_12_method_54_code
def yX10_isSource : MethodName := ⟨RX10, "isSource", "(I)Z"⟩
abbrev cX10_manyOf : ByteArray := prog_12_method_55_code
def yX10_manyOf : MethodName := ⟨RX10, "manyOf", "(I)I"⟩
abbrev cX10_rootOf : ByteArray := prog_12_method_56_code
def yX10_rootOf : MethodName := ⟨RX10, "rootOf", "(I)I"⟩
abbrev cX10_heldAt : ByteArray := prog_12_method_57_code
def yX10_heldAt : MethodName := ⟨RX10, "heldAt", "(IIII)I"⟩
abbrev cX10_heldMany : ByteArray := prog_12_method_58_code
def yX10_heldMany : MethodName := ⟨RX10, "heldMany", "(III)I"⟩
abbrev cX10_costNow : ByteArray := prog_12_method_59_code
def yX10_costNow : MethodName := ⟨RX10, "costNow", "(I)I"⟩
abbrev cX10_layDist : ByteArray := prog_12_method_60_code
def yX10_layDist : MethodName := ⟨RX10, "layDist", "(II)V"⟩
abbrev cX10_farOf : ByteArray := prog_12_method_61_code
def yX10_farOf : MethodName := ⟨RX10, "farOf", "(III)I"⟩
abbrev cX10_lay : ByteArray := prog_12_method_62_code
def yX10_lay : MethodName := ⟨RX10, "lay", "(IIII)V"⟩
abbrev cX10_lawOf : ByteArray := prog_12_method_63_code
def yX10_lawOf : MethodName := ⟨RX10, "lawOf", "(I)J"⟩
abbrev cX10_upLink : ByteArray := prog_12_method_64_code
def yX10_upLink : MethodName := ⟨RX10, "upLink", "(III)I"⟩
abbrev cX10_wantsNow : ByteArray := prog_12_method_65_code
def yX10_wantsNow : MethodName := ⟨RX10, "wantsNow", "(III)Z"⟩
abbrev cX10_number1 : ByteArray := prog_12_method_66_code
def yX10_number1 : MethodName := ⟨RX10, "number1", "(I)I"⟩
abbrev cX10_isLost : ByteArray := prog_12_method_67_code
def yX10_isLost : MethodName := ⟨RX10, "isLost", "()Z"⟩
abbrev cX10_stopsListening : ByteArray := prog_12_method_68_code
def yX10_stopsListening : MethodName := ⟨RX10, "stopsListening", "(II)V"⟩
abbrev cX10_eventGoes : ByteArray := prog_12_method_69_code
def yX10_eventGoes : MethodName := ⟨RX10, "eventGoes", "(II)V"⟩
abbrev cX10_joins : ByteArray := prog_12_method_70_code
def yX10_joins : MethodName := ⟨RX10, "joins", "(I)V"⟩
abbrev cX10_keptFor : ByteArray := prog_12_method_71_code
def yX10_keptFor : MethodName := ⟨RX10, "keptFor", "(III)I"⟩
abbrev cX10_cameTo : ByteArray := prog_12_method_72_code
def yX10_cameTo : MethodName := ⟨RX10, "cameTo", "(IIIII)I"⟩
abbrev cX10_goesDown : ByteArray := prog_12_method_73_code
def yX10_goesDown : MethodName := ⟨RX10, "goesDown", "(III)V"⟩
abbrev cX10_switches : ByteArray := prog_12_method_74_code
def yX10_switches : MethodName := ⟨RX10, "switches", "(II)V"⟩
abbrev cX10_packet : ByteArray := prog_12_method_75_code
def yX10_packet : MethodName := ⟨RX10, "packet", "(II)I"⟩
abbrev cX10_tickGoes : ByteArray := prog_12_method_76_code
def yX10_tickGoes : MethodName := ⟨RX10, "tickGoes", "(I)V"⟩
abbrev cX10_goMany : ByteArray := prog_12_method_77_code
def yX10_goMany : MethodName := ⟨RX10, "goMany", "(I)V"⟩
abbrev cX10_sumOf : ByteArray := prog_12_method_78_code
def yX10_sumOf : MethodName := ⟨RX10, "sumOf", "([II)I"⟩
abbrev cX10_fails : ByteArray := prog_12_method_79_code
def yX10_fails : MethodName := ⟨RX10, "fails", "(I)I"⟩
abbrev cX10_node : ByteArray := prog_12_method_80_code
def yX10_node : MethodName := ⟨RX10, "node", "(II)I"⟩
abbrev cX10_link : ByteArray := prog_12_method_81_code
def yX10_link : MethodName := ⟨RX10, "link", "(II)I"⟩
abbrev cX10_far : ByteArray := prog_12_method_82_code
def yX10_far : MethodName := ⟨RX10, "far", "(II)I"⟩
abbrev cX10_up : ByteArray := prog_12_method_83_code
def yX10_up : MethodName := ⟨RX10, "up", "(III)I"⟩
abbrev cX10_held : ByteArray := prog_12_method_84_code
def yX10_held : MethodName := ⟨RX10, "held", "(III)I"⟩
abbrev cX10_wants : ByteArray := prog_12_method_85_code
def yX10_wants : MethodName := ⟨RX10, "wants", "(II)I"⟩
abbrev cX10_law : ByteArray := prog_12_method_86_code
def yX10_law : MethodName := ⟨RX10, "law", "(III)J"⟩
abbrev cX10_listen : ByteArray := prog_12_method_87_code
def yX10_listen : MethodName := ⟨RX10, "listen", "(I)I"⟩
abbrev cX10_cut : ByteArray := prog_12_method_88_code
def yX10_cut : MethodName := ⟨RX10, "cut", "(I)I"⟩
abbrev cX10_send : ByteArray := prog_12_method_89_code
def yX10_send : MethodName := ⟨RX10, "send", "(I)I"⟩
abbrev cX10_go : ByteArray := prog_12_method_90_code
def yX10_go : MethodName := ⟨RX10, "go", "(I)I"⟩
abbrev cX10_ahead : ByteArray := prog_12_method_91_code
def yX10_ahead : MethodName := ⟨RX10, "ahead", "(II)I"⟩
abbrev cX10_heldBits : ByteArray := prog_12_method_92_code
def yX10_heldBits : MethodName := ⟨RX10, "heldBits", "(II)I"⟩
abbrev cX10_quiet : ByteArray := prog_12_method_93_code
def yX10_quiet : MethodName := ⟨RX10, "quiet", "(I)I"⟩
abbrev cX10_isSettled : ByteArray := prog_12_method_94_code
def yX10_isSettled : MethodName := ⟨RX10, "isSettled", "()Z"⟩
abbrev cX10_settled : ByteArray := prog_12_method_95_code
def yX10_settled : MethodName := ⟨RX10, "settled", "()I"⟩
abbrev cX10_way : ByteArray := prog_12_method_96_code
def yX10_way : MethodName := ⟨RX10, "way", "(II)I"⟩
abbrev cX10_best : ByteArray := prog_12_method_97_code
def yX10_best : MethodName := ⟨RX10, "best", "(I)I"⟩
abbrev cX10_costAll : ByteArray := prog_12_method_98_code
def yX10_costAll : MethodName := ⟨RX10, "costAll", "(I)I"⟩
abbrev cX10_least : ByteArray := prog_12_method_99_code
def yX10_least : MethodName := ⟨RX10, "least", "(II)I"⟩
abbrev cX10_nearOnes : ByteArray := prog_12_method_100_code
def yX10_nearOnes : MethodName := ⟨RX10, "nearOnes", "(II)I"⟩
abbrev cX10_needed : ByteArray := prog_12_method_101_code
def yX10_needed : MethodName := ⟨RX10, "needed", "(I)I"⟩
abbrev cX10_wide : ByteArray := prog_12_method_102_code
def yX10_wide : MethodName := ⟨RX10, "wide", "(I)I"⟩
abbrev cX10_used : ByteArray := prog_12_method_103_code
def yX10_used : MethodName := ⟨RX10, "used", "(I)I"⟩
abbrev cX10_atLeast : ByteArray := prog_12_method_104_code
def yX10_atLeast : MethodName := ⟨RX10, "atLeast", "(I)I"⟩
abbrev cX10_hasBy : ByteArray := prog_12_method_105_code
def yX10_hasBy : MethodName := ⟨RX10, "hasBy", "(IIII)I"⟩
abbrev cX10_restAt : ByteArray := prog_12_method_106_code
def yX10_restAt : MethodName := ⟨RX10, "restAt", "(IIII)I"⟩
abbrev cX10_areTwo : ByteArray := prog_12_method_107_code
def yX10_areTwo : MethodName := ⟨RX10, "areTwo", "(III)Z"⟩
abbrev cX10_rests : ByteArray := prog_12_method_108_code
def yX10_rests : MethodName := ⟨RX10, "rests", "(III)I"⟩
abbrev cX10_rest : ByteArray := prog_12_method_109_code
def yX10_rest : MethodName := ⟨RX10, "rest", "(IIII)I"⟩
abbrev cX10_holds : ByteArray := prog_12_method_110_code
def yX10_holds : MethodName := ⟨RX10, "holds", "(II)J"⟩
abbrev cX10_notes1 : ByteArray := prog_12_method_111_code
def yX10_notes1 : MethodName := ⟨RX10, "notes1", "(IIII)I"⟩
abbrev cX10_note : ByteArray := prog_12_method_112_code
def yX10_note : MethodName := ⟨RX10, "note", "(IIIZ)I"⟩
abbrev cX10_strike : ByteArray := prog_12_method_113_code
def yX10_strike : MethodName := ⟨RX10, "strike", "(I)I"⟩
abbrev cX10_known : ByteArray := prog_12_method_114_code
def yX10_known : MethodName := ⟨RX10, "known", "(I)Z"⟩
abbrev cX10_knownBy : ByteArray := prog_12_method_115_code
def yX10_knownBy : MethodName := ⟨RX10, "knownBy", "()I"⟩
abbrev cX10_fits : ByteArray := prog_12_method_116_code
def yX10_fits : MethodName := ⟨RX10, "fits", "(II)Z"⟩
abbrev cX10_costBits : ByteArray := prog_12_method_117_code
def yX10_costBits : MethodName := ⟨RX10, "costBits", "(I)I"⟩
abbrev cX10_costs : ByteArray := prog_12_method_118_code
def yX10_costs : MethodName := ⟨RX10, "costs", "(I)I"⟩
abbrev cX10_worstBy : ByteArray := prog_12_method_119_code
def yX10_worstBy : MethodName := ⟨RX10, "worstBy", "(II)I"⟩
abbrev cX10_ask : ByteArray := prog_12_method_120_code
def yX10_ask : MethodName := ⟨RX10, "ask", "(II)I"⟩
abbrev cX10_chance : ByteArray := prog_12_method_121_code
def yX10_chance : MethodName := ⟨RX10, "chance", "(IIII)I"⟩
abbrev cX10_tried : ByteArray := prog_12_method_122_code
def yX10_tried : MethodName := ⟨RX10, "tried", "(III)I"⟩
abbrev cX10_put : ByteArray := prog_12_method_123_code
def yX10_put : MethodName := ⟨RX10, "put", "([II)V"⟩
abbrev cX10_take : ByteArray := prog_12_method_124_code
def yX10_take : MethodName := ⟨RX10, "take", "([II)V"⟩
abbrev cX10_remember : ByteArray := prog_12_method_125_code
def yX10_remember : MethodName := ⟨RX10, "remember", "()V"⟩
abbrev cX10_undo : ByteArray := prog_12_method_126_code
def yX10_undo : MethodName := ⟨RX10, "undo", "()I"⟩
abbrev cX10_keep : ByteArray := prog_12_method_127_code
def yX10_keep : MethodName := ⟨RX10, "keep", "()I"⟩
abbrev cX10_back : ByteArray := prog_12_method_128_code
def yX10_back : MethodName := ⟨RX10, "back", "()I"⟩
abbrev cX10_count : ByteArray := prog_12_method_129_code
def yX10_count : MethodName := ⟨RX10, "count", "(I)I"⟩
def RJx145de : String := "java/io/Serializable"
def RJx9f9b0 : String := "java/lang/CharSequence"
def RJxb160c : String := "java/lang/Comparable"
def RJ6 : String := "java/lang/Integer"
abbrev cJ6_bitCount_0f7a4 : ByteArray := prog_18_method_49_code
def yJ6_bitCount_0f7a4 : MethodName := ⟨RJ6, "bitCount", "(I)I"⟩
def RJ9 : String := "java/lang/Math"
abbrev cJ9_max_7cf53 : ByteArray := prog_19_method_65_code
def yJ9_max_7cf53 : MethodName := ⟨RJ9, "max", "(II)I"⟩
abbrev cJ9_max_f86c9 : ByteArray := prog_19_method_66_code
def yJ9_max_f86c9 : MethodName := ⟨RJ9, "max", "(JJ)J"⟩
abbrev cJ9_min_7cf53 : ByteArray := prog_19_method_69_code
def yJ9_min_7cf53 : MethodName := ⟨RJ9, "min", "(II)I"⟩
abbrev cJ9_min_f86c9 : ByteArray := prog_19_method_70_code
def yJ9_min_f86c9 : MethodName := ⟨RJ9, "min", "(JJ)J"⟩
def RJ0 : String := "java/lang/String"
abbrev cJ0_length_8abf5 : ByteArray := prog_21_method_54_code
def yJ0_length_8abf5 : MethodName := ⟨RJ0, "length", "()I"⟩
abbrev cJ0_charAt_5068e : ByteArray := prog_21_method_56_code
def yJ0_charAt_5068e : MethodName := ⟨RJ0, "charAt", "(I)C"⟩
abbrev cJ0_coder_7d493 : ByteArray := prog_21_method_152_code
def yJ0_coder_7d493 : MethodName := ⟨RJ0, "coder", "()B"⟩
abbrev cJ0_isLatin1_aae02 : ByteArray := prog_21_method_154_code
def yJ0_isLatin1_aae02 : MethodName := ⟨RJ0, "isLatin1", "()Z"⟩
abbrev cJ0_checkIndex_df160 : ByteArray := prog_21_method_155_code
def yJ0_checkIndex_df160 : MethodName := ⟨RJ0, "checkIndex", "(II)V"⟩
def RJ1 : String := "java/lang/StringLatin1"
abbrev cJ1_charAt_3b067 : ByteArray := prog_22_method_2_code
def yJ1_charAt_3b067 : MethodName := ⟨RJ1, "charAt", "([BI)C"⟩
def RJ2 : String := "java/lang/StringUTF16"
abbrev cJ2_getChar_3b067 : ByteArray := prog_23_method_5_code
def yJ2_getChar_3b067 : MethodName := ⟨RJ2, "getChar", "([BI)C"⟩
abbrev cJ2_length_9d52b : ByteArray := prog_23_method_6_code
def yJ2_length_9d52b : MethodName := ⟨RJ2, "length", "([B)I"⟩
abbrev cJ2_charAt_3b067 : ByteArray := prog_23_method_83_code
def yJ2_charAt_3b067 : MethodName := ⟨RJ2, "charAt", "([BI)C"⟩
abbrev cJ2_checkIndex_2214a : ByteArray := prog_23_method_91_code
def yJ2_checkIndex_2214a : MethodName := ⟨RJ2, "checkIndex", "(I[B)V"⟩
def RJ10 : String := "java/lang/System"
def RJxfd54e : String := "java/lang/constant/Constable"
def RJx3cf43 : String := "java/lang/constant/ConstantDesc"
def RJ7 : String := "java/util/Arrays"
abbrev cJ7_fill_53178 : ByteArray := prog_28_method_103_code
def yJ7_fill_53178 : MethodName := ⟨RJ7, "fill", "([II)V"⟩
def RJ3 : String := "jdk/internal/util/Preconditions"
abbrev cJ3_checkIndex_8e157 : ByteArray := prog_30_method_11_code
def yJ3_checkIndex_8e157 : MethodName := ⟨RJ3, "checkIndex", "(IILjava/util/function/BiFunction;)I"⟩
def RL : String := "GroupTreesLaw"
abbrev cL_node : ByteArray := method_3_code
def yL_node : MethodName := ⟨RL, "node", "(LGroupTrees;II[J)I"⟩
abbrev cL_law : ByteArray := code
def yL_law : MethodName := ⟨RL, "law", "([I)Z"⟩
abbrev vwCl : List vw_C := [(RX0, TX0, 8), (RX1, TX1, 6), (RX2, TX2, 7), (RX3, TX3, 13), (RX4, TX4, 3), (RX5, TX5, 20), (RX6, TX6, 10), (RX7, TX7, 13), (RX8, TX8, 12), (RX9, TX9, 14), (RX10, TX10, 91)]
end
section
/-! the layout: ids in the order of allocation (by program, out of the constructors): kinds 0 to 10 the classes of vwCl, 11 byte[], 12 int[], 13 long[], 14 boolean[] -/
def lyN : Nat := 128
def lyKb : Nat := 10726655524023561798024956846530362332479126596297179061039078450887286128314272922358689807051465581583063934560756402207396790014227165764951170219821961
def lyLb : Nat := 124797023246953107950822439595964152865761110635665949193713662643674042300980732123035091084644298290138723079472491355282352133995255423745519546755698692855343634721664586713890711803089047874762313422831507832667731492060223816535970955326582000644821426437216620663073809927626524832840858464933786799064891428530153280150876402587740395837766789392070830503754372799433606402978231317367481381151556057843005496981511125546826640671309132697676150831989834393116744258226727841588130148498036052905104796809483888747968448361893553263752243086690198632788731279737077683261336015449422716676535712539027177472
/-- the kind of an id; its length, if it is an array -/
def gK (i : Nat) : Nat := Nat.land (Nat.shiftRight lyKb (4 * i)) 15
def gN (i : Nat) : Nat := Nat.land (Nat.shiftRight lyLb (16 * i)) 65535
/-- the kind of a field: 0 int, 1 long, 2 reference, 3 boolean; how many fields; which are final -/
def fkB (c : Nat) : Nat := match c with
  | 0 => 4010
  | 1 => 170
  | 2 => 9130
  | 3 => 10922
  | 4 => 2
  | 5 => 2796202
  | 6 => 170
  | 7 => 2730
  | 8 => 682
  | 9 => 15379114
  | 10 => 1808848924452757082402460416218110723095754292225638530
  | _ => 0
def fk (c k : Nat) : Nat := Nat.land (Nat.shiftRight (fkB c) (2 * k)) 3
def cN (c : Nat) : Nat := match c with
  | 0 => 8
  | 1 => 6
  | 2 => 7
  | 3 => 13
  | 4 => 3
  | 5 => 20
  | 6 => 10
  | 7 => 13
  | 8 => 12
  | 9 => 14
  | 10 => 91
  | _ => 0
def fnB (c : Nat) : Nat := match c with
  | 0 => 15
  | 1 => 15
  | 2 => 15
  | 3 => 127
  | 4 => 1
  | 5 => 2047
  | 6 => 7
  | 7 => 63
  | 8 => 31
  | 9 => 2045
  | 10 => 421801811132181043193315337
  | _ => 0
def fFin (c k : Nat) : Bool := Nat.land (Nat.shiftRight (fnB c) k) 1 == 1
/-- the references that stand after the constructors, ten bits each: 0 none, id + 1; 1021, 1022, 1023: those that move (GroupTrees.spare, Reader.plan, Net.plan) -/
def rfB (i : Nat) : Nat := match i with
  | 0 => 104040283051233174246998531896322
  | 1 => 7703029092355
  | 7 => 24107664895689204453034442106889
  | 18 => 24719152148
  | 23 => 1097391432706
  | 26 => 1179438699263318602796
  | 27 => 49485459903190805765500211066909
  | 38 => 46214980648
  | 47 => 54813312027
  | 51 => 65364926946924597
  | 58 => 73253930399757372
  | 65 => 81142933852590147
  | 72 => 74
  | 74 => 93476800810953289755
  | 82 => 1031826232462819408993108999041511389640762058308616062827861256410474461274402010240813556448133747584044214677445898750313583067426282333311233477379612549691199766073274808493039051196194452077233742186600346123442696096418068685840936913970734908109052680458993748
  | _ => 0
def rfC (i k : Nat) : Nat := Nat.land (Nat.shiftRight (rfB i) (10 * k)) 1023
def rfV (s r p : Nat) (c : Nat) : Option Nat := match c with
  | 0 => none
  | 1021 => some s
  | 1022 => some r
  | 1023 => some p
  | n + 1 => some n
def Rp (s r p : Nat) : Nat → Nat → Option Nat := fun i k => rfV s r p (rfC i k)
end
section
/-! the abstract machine: its memory, its locals, one instruction, a block, a method -/
/-- the memory: ints (fields and places of arrays of int, byte, boolean), longs, references; by id and place -/
abbrev AM : Type := (Nat → Nat → Int32) × (Nat → Nat → Int64) × (Nat → Nat → Option Nat)
abbrev LV : Type := List (Nat × Value)
abbrev DT : Type := List Value → AM → Option (Option Value × AM)
/-- an instruction, its length, two hints -/
abbrev Ent : Type := Instr × Nat × Nat × Nat
/-- a callee: 0 virtual, 1 static, 2 System.arraycopy, 3 to 6 Math.min, max of ints, of longs; the receiver's kind; how many arguments (the receiver with); what it does -/
abbrev Cal : Type := Nat × Nat × Nat × DT
/-- a block: its place, which locals it reads, its instructions -/
abbrev Blk : Type := Nat × List Nat × List Ent
def u2 {α : Type} (f : Nat → Nat → α) (a k : Nat) (x : α) : Nat → Nat → α := fun b j => if b = a then (if j = k then x else f b j) else f b j
def lk : LV → Nat → Option Value
  | [], _ => none
  | q :: r, i => if q.1 = i then some q.2 else lk r i
def st1 (lv : LV) (i : Nat) (v : Value) : LV := (i, v) :: lv.filter (fun q => !(q.1 == i) && !(q.1 + 1 == i && q.2.category == 2))
def st2 (lv : LV) (i : Nat) (v : Value) : LV := (i, v) :: lv.filter (fun q => !(q.1 == i) && (!(q.1 == i + 1) && !(q.1 + 1 == i && q.2.category == 2)))
def pick (ks : List Nat) (lv : LV) : LV := ks.filterMap (fun i => (lk lv i).map (fun v => (i, v)))
def inB (i : Int32) (n : Nat) : Prop := ¬ i < 0 ∧ i.toNatClampNeg < n
/-- a test that is due at run time; one that a program decides -/
noncomputable def gd {α : Type} (b : Prop) (x : Option α) : Option α := @ite _ b (Classical.propDecidable b) x none
noncomputable def ifc {α : Type} (b : Prop) (x y : Option α) : Option α := @ite _ b (Classical.propDecidable b) x y
def gk {α : Type} (b : Bool) (x : Option α) : Option α := match b with
  | true => x
  | false => none
def isB (x : Int32) : Prop := x = 0 ∨ x = 1
/-- the number minus m -/
def nM (m : Nat) : Int32 := -(nI m)
def cI (n : Int) : Int32 := match n with
  | .ofNat m => nI m
  | .negSucc m => nM (m + 1)
def tgt (pc : Nat) (o : Int) : Nat := ((pc : Int) + o).toNat
def popI {α : Type} (st : List Value) (f : Int32 → List Value → Option α) : Option α := match st with
  | .int x :: r => f x r
  | _ => none
def popL {α : Type} (st : List Value) (f : Int64 → List Value → Option α) : Option α := match st with
  | .long x :: r => f x r
  | _ => none
def popR {α : Type} (st : List Value) (f : Nat → List Value → Option α) : Option α := match st with
  | .ref x :: r => f x r
  | _ => none
def getL {α : Type} (lv : LV) (i : Nat) (f : Value → Option α) : Option α := match lk lv i with
  | some v => f v
  | none => none
def asI {α : Type} (v : Value) (f : Int32 → Option α) : Option α := match v with
  | .int x => f x
  | _ => none
def asL {α : Type} (v : Value) (f : Int64 → Option α) : Option α := match v with
  | .long x => f x
  | _ => none
def asR {α : Type} (v : Value) (f : Nat → Option α) : Option α := match v with
  | .ref x => f x
  | _ => none
def someR {α : Type} (v : Option Nat) (f : Nat → Option α) : Option α := match v with
  | some x => f x
  | none => none
def bM {α : Type} (b : Bool) (x y : Option α) : Option α := match b with
  | true => x
  | false => y
def scR {α β : Type} (o : Option β) (f : β → Option α) : Option α := match o with
  | some q => f q
  | none => none
def f4 {α : Type} (n : Nat) (x1 x2 x3 x0 : Option α) : Option α := match n with
  | 1 => x1
  | 2 => x2
  | 3 => x3
  | _ => x0
noncomputable def swT {α : Type} (k : Nat → Option α) (x : Int32) (pc : Nat) (d : Int) : Int → List Int → Option α
  | _, [] => k (tgt pc d)
  | lo, o :: r => ifc (x = cI lo) (k (tgt pc o)) (swT k x pc d (lo + 1) r)
noncomputable def swL {α : Type} (k : Nat → Option α) (x : Int32) (pc : Nat) (d : Int) : List (Int × Int) → Option α
  | [] => k (tgt pc d)
  | q :: r => ifc (x = cI q.1) (k (tgt pc q.2)) (swL k x pc d r)
def catS (st : List Value) : Nat := (st.map fun v => v.category).sum
noncomputable def cmpZ {α : Type} (c : ClassFile.Cond) (x : Int32) (a b : Option α) : Option α := match c with
  | .eq => ifc (x = 0) a b
  | .ne => ifc (x = 0) b a
  | .lt => ifc (x < 0) a b
  | .ge => ifc (x < 0) b a
  | .gt => ifc (0 < x) a b
  | .le => ifc (0 < x) b a
noncomputable def cmpI {α : Type} (c : ClassFile.Cond) (x y : Int32) (a b : Option α) : Option α := match c with
  | .eq => ifc (x = y) a b
  | .ne => ifc (x = y) b a
  | .lt => ifc (x < y) a b
  | .ge => ifc (x < y) b a
  | .gt => ifc (y < x) a b
  | .le => ifc (y < x) b a
/-- what a callee leaves: its answer by its kind; the references stay -/
noncomputable def crV {α : Type} (o : Option (Option Value × AM)) (M : AM) (f : (Nat → Nat → Int32) → (Nat → Nat → Int64) → Option α) : Option α := match o with
  | some (none, M') => @ite _ (M'.2.2 = M.2.2) (Classical.propDecidable _) (f M'.1 M'.2.1) none
  | _ => none
noncomputable def crI {α : Type} (o : Option (Option Value × AM)) (M : AM) (f : Int32 → (Nat → Nat → Int32) → (Nat → Nat → Int64) → Option α) : Option α := match o with
  | some (some (.int x), M') => @ite _ (M'.2.2 = M.2.2) (Classical.propDecidable _) (f x M'.1 M'.2.1) none
  | _ => none
noncomputable def crL {α : Type} (o : Option (Option Value × AM)) (M : AM) (f : Int64 → (Nat → Nat → Int32) → (Nat → Nat → Int64) → Option α) : Option α := match o with
  | some (some (.long x), M') => @ite _ (M'.2.2 = M.2.2) (Classical.propDecidable _) (f x M'.1 M'.2.1) none
  | _ => none
/-- the same of a callee that moves references among those that may -/
noncomputable def rpOf (R : Nat → Nat → Option Nat) : Option (Nat × Nat × Nat) := @dite _ (∃ q : Nat × Nat × Nat, R = Rp q.1 q.2.1 q.2.2) (Classical.propDecidable _) (fun h => some h.choose) (fun _ => none)
noncomputable def cmV {α : Type} (o : Option (Option Value × AM)) (f : (Nat → Nat → Int32) → (Nat → Nat → Int64) → Nat → Nat → Nat → Option α) : Option α := match o with
  | some (none, M') => (match rpOf M'.2.2 with
    | some q => f M'.1 M'.2.1 q.1 q.2.1 q.2.2
    | none => none)
  | _ => none
noncomputable def cmI {α : Type} (o : Option (Option Value × AM)) (f : Int32 → (Nat → Nat → Int32) → (Nat → Nat → Int64) → Nat → Nat → Nat → Option α) : Option α := match o with
  | some (some (.int x), M') => (match rpOf M'.2.2 with
    | some q => f x M'.1 M'.2.1 q.1 q.2.1 q.2.2
    | none => none)
  | _ => none
def cpy2 (f : Nat → Nat → Int32) (a sp b dp n : Nat) : Nat → Nat → Int32 := fun c j => if c = b then (if dp ≤ j ∧ j < dp + n then f a (sp + (j - dp)) else f c j) else f c j
def mnI (x y : Int32) : Int32 := if y < x then y else x
def mxI (x y : Int32) : Int32 := if x < y then y else x
def mnL (x y : Int64) : Int64 := if y < x then y else x
def mxL (x y : Int64) : Int64 := if y < x then x else y
def rcv (c : Nat) (as : List Value) : Bool := match as with
  | .ref a :: _ => gK a == c && Nat.blt a lyN
  | _ => false
def obj (c a : Nat) : Bool := gK a == c && Nat.blt a lyN
/-- the script: an array that is read alone, its id -/
def idS : Nat := 1000
/-- a method's own: how many locals, what it answers (0 nothing, 1 int, 2 long, 3 boolean), its callees, its blocks, the script -/
abbrev MC : Type := Nat × Nat × List Cal × List Blk × Option (Nat × (Nat → Int32))
/-- one instruction: nx: it goes on behind it; k: it jumps; rt: it answers -/
noncomputable def i1 {α : Type} (C : MC) (k : Nat → LV → List Value → AM → Option α) (rt : Option Value → AM → Option α) (nx : LV → List Value → AM → Option α) (pc : Nat) (i : Instr) (h1 h2 : Nat) (lv : LV) (st : List Value) (M : AM) : Option α :=
  match i with
  | .iconst n => nx lv (.int (cI n) :: st) M
  | .bipush n => nx lv (.int (cI n) :: st) M
  | .sipush n => nx lv (.int (cI n) :: st) M
  | .lconst n => nx lv (.long (lN n.val) :: st) M
  | .ldc _ => nx lv (.int (nI h1) :: st) M
  | .ldc_w _ => nx lv (.int (nI h1) :: st) M
  | .ldc2_w _ => nx lv (.long (lN h1) :: st) M
  | .iload_n n => getL lv n.val fun v => asI v fun x => nx lv (.int x :: st) M
  | .iload n => getL lv n fun v => asI v fun x => nx lv (.int x :: st) M
  | .lload_n n => getL lv n.val fun v => asL v fun x => nx lv (.long x :: st) M
  | .lload n => getL lv n fun v => asL v fun x => nx lv (.long x :: st) M
  | .aload_n n => getL lv n.val fun v => asR v fun x => nx lv (.ref x :: st) M
  | .aload n => getL lv n fun v => asR v fun x => nx lv (.ref x :: st) M
  | .istore_n n => popI st fun x st => gk (Nat.blt n.val C.1) (nx (st1 lv n.val (.int x)) st M)
  | .istore n => popI st fun x st => gk (Nat.blt n C.1) (nx (st1 lv n (.int x)) st M)
  | .lstore_n n => popL st fun x st => gk (Nat.blt (n.val + 1) C.1) (nx (st2 lv n.val (.long x)) st M)
  | .lstore n => popL st fun x st => gk (Nat.blt (n + 1) C.1) (nx (st2 lv n (.long x)) st M)
  | .astore_n n => popR st fun x st => gk (Nat.blt n.val C.1) (nx (st1 lv n.val (.ref x)) st M)
  | .astore n => popR st fun x st => gk (Nat.blt n C.1) (nx (st1 lv n (.ref x)) st M)
  | .iinc n c => getL lv n fun v => asI v fun x => gk (Nat.blt n C.1) (nx (st1 lv n (.int (x + cI c))) st M)
  | .iadd => popI st fun y st => popI st fun x st => nx lv (.int (x + y) :: st) M
  | .isub => popI st fun y st => popI st fun x st => nx lv (.int (x - y) :: st) M
  | .imul => popI st fun y st => popI st fun x st => nx lv (.int (x * y) :: st) M
  | .iand => popI st fun y st => popI st fun x st => nx lv (.int (x &&& y) :: st) M
  | .ior => popI st fun y st => popI st fun x st => nx lv (.int (x ||| y) :: st) M
  | .ixor => popI st fun y st => popI st fun x st => nx lv (.int (x ^^^ y) :: st) M
  | .ishl => popI st fun y st => popI st fun x st => nx lv (.int (x <<< (y &&& 31)) :: st) M
  | .ishr => popI st fun y st => popI st fun x st => nx lv (.int (x >>> (y &&& 31)) :: st) M
  | .iushr => popI st fun y st => popI st fun x st => nx lv (.int (x.toUInt32 >>> (y.toUInt32 &&& Int32.toUInt32 31)).toInt32 :: st) M
  | .idiv => popI st fun y st => popI st fun x st => gd (y ≠ 0) (nx lv (.int (x / y) :: st) M)
  | .irem => popI st fun y st => popI st fun x st => gd (y ≠ 0) (nx lv (.int (x - x / y * y) :: st) M)
  | .ladd => popL st fun y st => popL st fun x st => nx lv (.long (x + y) :: st) M
  | .lsub => popL st fun y st => popL st fun x st => nx lv (.long (x - y) :: st) M
  | .lmul => popL st fun y st => popL st fun x st => nx lv (.long (x * y) :: st) M
  | .land => popL st fun y st => popL st fun x st => nx lv (.long (x &&& y) :: st) M
  | .ldiv => popL st fun y st => popL st fun x st => gd (y ≠ 0) (nx lv (.long (x / y) :: st) M)
  | .lrem => popL st fun y st => popL st fun x st => gd (y ≠ 0) (nx lv (.long (x - x / y * y) :: st) M)
  | .lneg => popL st fun x st => nx lv (.long (-x) :: st) M
  | .lcmp => popL st fun y st => popL st fun x st => nx lv (.int (lg_cmp x y) :: st) M
  | .i2l => popI st fun x st => nx lv (.long x.toInt64 :: st) M
  | .l2i => popL st fun x st => nx lv (.int x.toInt32 :: st) M
  | .i2b => popI st fun x st => nx lv (.int x.toInt8.toInt32 :: st) M
  | .dup => (match st with
    | v :: st => gk (Nat.beq v.category 1) (nx lv (v :: v :: st) M)
    | _ => none)
  | .pop => (match st with
    | v :: st => gk (Nat.beq v.category 1) (nx lv st M)
    | _ => none)
  | .dup2 => (match st with
    | v :: w :: st => gk (Nat.beq v.category 1 && Nat.beq w.category 1) (nx lv (v :: w :: v :: w :: st) M)
    | _ => none)
  | .goto _ => k h1 lv st M
  | .ifCond c _ => popI st fun x st => cmpZ c x (k h1 lv st M) (nx lv st M)
  | .if_icmp c _ => popI st fun y st => popI st fun x st => cmpI c x y (k h1 lv st M) (nx lv st M)
  | .tableswitch d lo _ os => popI st fun x st => swT (fun t => k t lv st M) x pc d lo os.toList
  | .lookupswitch d ps => popI st fun x st => swL (fun t => k t lv st M) x pc d ps.toList
  | .getfield _ => popR st fun a st => gk (obj h1 a && Nat.blt h2 (cN h1)) (f4 (fk h1 h2) (nx lv (.long (M.2.1 a h2) :: st) M) (someR (M.2.2 a h2) fun b => nx lv (.ref b :: st) M) (nx lv (.int (M.1 a h2) :: st) M) (nx lv (.int (M.1 a h2) :: st) M))
  | .putfield _ => gk (Nat.blt h2 (cN h1) && !fFin h1 h2) (f4 (fk h1 h2)
    (popL st fun x st => popR st fun a st => gk (obj h1 a) (nx lv st (M.1, u2 M.2.1 a h2 x, M.2.2)))
    (popR st fun x st => popR st fun a st => gk (obj h1 a) (nx lv st (M.1, M.2.1, u2 M.2.2 a h2 (some x))))
    (popI st fun x st => popR st fun a st => gk (obj h1 a) (gd (isB x) (nx lv st (u2 M.1 a h2 x, M.2.1, M.2.2))))
    (popI st fun x st => popR st fun a st => gk (obj h1 a) (nx lv st (u2 M.1 a h2 x, M.2.1, M.2.2))))
  | .iaload => popI st fun j st => popR st fun a st => bM (Nat.beq a idS) (scR C.2.2.2.2 fun q => gd (inB j q.1) (nx lv (.int (q.2 j.toNatClampNeg) :: st) M))
    (gk (obj 12 a) (gd (inB j (gN a)) (nx lv (.int (M.1 a j.toNatClampNeg) :: st) M)))
  | .baload => popI st fun j st => popR st fun a st => gk (obj 11 a || obj 14 a) (gd (inB j (gN a)) (nx lv (.int (M.1 a j.toNatClampNeg) :: st) M))
  | .laload => popI st fun j st => popR st fun a st => gk (obj 13 a) (gd (inB j (gN a)) (nx lv (.long (M.2.1 a j.toNatClampNeg) :: st) M))
  | .iastore => popI st fun x st => popI st fun j st => popR st fun a st => gk (obj 12 a) (gd (inB j (gN a)) (nx lv st (u2 M.1 a j.toNatClampNeg x, M.2.1, M.2.2)))
  | .bastore => popI st fun x st => popI st fun j st => popR st fun a st => bM (obj 11 a) (gd (inB j (gN a)) (nx lv st (u2 M.1 a j.toNatClampNeg x.toInt8.toInt32, M.2.1, M.2.2)))
    (gk (obj 14 a) (gd (inB j (gN a)) (nx lv st (u2 M.1 a j.toNatClampNeg (x &&& 1), M.2.1, M.2.2))))
  | .lastore => popL st fun x st => popI st fun j st => popR st fun a st => gk (obj 13 a) (gd (inB j (gN a)) (nx lv st (M.1, u2 M.2.1 a j.toNatClampNeg x, M.2.2)))
  | .arraylength => popR st fun a st => bM (Nat.beq a idS) (scR C.2.2.2.2 fun q => nx lv (.int (nI q.1) :: st) M)
    (gk (obj 11 a || (obj 12 a || (obj 13 a || obj 14 a))) (nx lv (.int (nI (gN a)) :: st) M))
  | .invokevirtual _ => (match C.2.2.1[h1]? with
    | some (0, c, n, D) => gk (Nat.ble n st.length && rcv c (st.take n).reverse && Nat.ble (catS (st.drop n)) 8) (match h2 with
      | 0 => crV (D (st.take n).reverse M) M fun i l => nx lv (st.drop n) (i, l, M.2.2)
      | 1 => crI (D (st.take n).reverse M) M fun x i l => nx lv (.int x :: st.drop n) (i, l, M.2.2)
      | 2 => crL (D (st.take n).reverse M) M fun x i l => nx lv (.long x :: st.drop n) (i, l, M.2.2)
      | 3 => cmV (D (st.take n).reverse M) fun i l s r p => nx lv (st.drop n) (i, l, Rp s r p)
      | _ => cmI (D (st.take n).reverse M) fun x i l s r p => nx lv (.int x :: st.drop n) (i, l, Rp s r p))
    | _ => none)
  | .invokestatic _ => (match C.2.2.1[h1]? with
    | some (1, _, n, D) => gk (Nat.ble n st.length && Nat.ble (catS (st.drop n)) 8) (match h2 with
      | 0 => crV (D (st.take n).reverse M) M fun i l => nx lv (st.drop n) (i, l, M.2.2)
      | 1 => crI (D (st.take n).reverse M) M fun x i l => nx lv (.int x :: st.drop n) (i, l, M.2.2)
      | _ => crL (D (st.take n).reverse M) M fun x i l => nx lv (.long x :: st.drop n) (i, l, M.2.2))
    | some (2, _, _, _) => popI st fun n st => popI st fun dp st => popR st fun b st => popI st fun sp st => popR st fun a st =>
      gk (obj 12 a && obj 12 b && Nat.ble (catS st) 8) (gd (¬ sp < 0 ∧ ¬ dp < 0 ∧ ¬ n < 0 ∧ sp.toNatClampNeg + n.toNatClampNeg ≤ gN a ∧ dp.toNatClampNeg + n.toNatClampNeg ≤ gN b)
        (nx lv st (cpy2 M.1 a sp.toNatClampNeg b dp.toNatClampNeg n.toNatClampNeg, M.2.1, M.2.2)))
    | some (3, _, _, _) => popI st fun y st => popI st fun x st => gk (Nat.ble (catS st) 8) (nx lv (.int (mnI x y) :: st) M)
    | some (4, _, _, _) => popI st fun y st => popI st fun x st => gk (Nat.ble (catS st) 8) (nx lv (.int (mxI x y) :: st) M)
    | some (5, _, _, _) => popL st fun y st => popL st fun x st => gk (Nat.ble (catS st) 8) (nx lv (.long (mnL x y) :: st) M)
    | some (6, _, _, _) => popL st fun y st => popL st fun x st => gk (Nat.ble (catS st) 8) (nx lv (.long (mxL x y) :: st) M)
    | _ => none)
  | .return_ => gk (Nat.beq C.2.1 0 && st.isEmpty) (rt none M)
  | .ireturn => popI st fun x st => gk (st.isEmpty && (Nat.beq C.2.1 1 || Nat.beq C.2.1 3)) (bM (Nat.beq C.2.1 3) (gd (isB x) (rt (some (.int x)) M)) (rt (some (.int x)) M))
  | .lreturn => popL st fun x st => gk (st.isEmpty && Nat.beq C.2.1 2) (rt (some (.long x)) M)
  | _ => none
noncomputable def exB {α : Type} (C : MC) (k : Nat → LV → List Value → AM → Option α) (rt : Option Value → AM → Option α) : List Ent → Nat → LV → List Value → AM → Option α
  | [], pc, lv, st, M => k pc lv st M
  | e :: is, pc, lv, st, M => i1 C k rt (fun lv st M => exB C k rt is (pc + e.2.1) lv st M) pc e.1 e.2.2.1 e.2.2.2 lv st M
def bAt : List Blk → Nat → Option (List Nat × List Ent)
  | [], _ => none
  | b :: r, pc => if b.1 = pc then some b.2 else bAt r pc
noncomputable def iF (C : MC) : Nat → Nat → LV → List Value → AM → Option (Option Value × AM)
  | 0, _, _, _, _ => none
  | n + 1, pc, lv, st, M => match bAt C.2.2.2.1 pc with
    | none => none
    | some b => exB C (iF C n) (fun v M => some (v, M)) b.2 pc (pick b.1 lv) st M
/-- a method from a block on, to its end -/
noncomputable def it (C : MC) (pc : Nat) (lv : LV) (st : List Value) (M : AM) : Option (Option Value × AM) :=
  @dite _ (∃ n, (iF C n pc lv st M).isSome = true) (Classical.propDecidable _) (fun h => iF C h.choose pc lv st M) (fun _ => none)
end
section
/-! 'it' goes on as its block says: it_eq, and the equations of regions: it_ev -/
section
variable {α β : Type}
theorem gd_bind (b : Prop) (x : Option α) (g : α → Option β) : (gd b x).bind g = gd b (x.bind g) := by
  unfold gd
  by_cases h : b <;> simp [h]
theorem ifc_bind (b : Prop) (x y : Option α) (g : α → Option β) : (ifc b x y).bind g = ifc b (x.bind g) (y.bind g) := by
  unfold ifc
  by_cases h : b <;> simp [h]
theorem gk_bind (b : Bool) (x : Option α) (g : α → Option β) : (gk b x).bind g = gk b (x.bind g) := by cases b <;> rfl
theorem popI_bind (st : List Value) (f : Int32 → List Value → Option α) (g : α → Option β) : (popI st f).bind g = popI st (fun x r => (f x r).bind g) := by
  unfold popI; split <;> rfl
theorem popL_bind (st : List Value) (f : Int64 → List Value → Option α) (g : α → Option β) : (popL st f).bind g = popL st (fun x r => (f x r).bind g) := by
  unfold popL; split <;> rfl
theorem popR_bind (st : List Value) (f : Nat → List Value → Option α) (g : α → Option β) : (popR st f).bind g = popR st (fun x r => (f x r).bind g) := by
  unfold popR; split <;> rfl
theorem getL_bind (lv : LV) (i : Nat) (f : Value → Option α) (g : α → Option β) : (getL lv i f).bind g = getL lv i (fun v => (f v).bind g) := by
  unfold getL; split <;> rfl
theorem asI_bind (v : Value) (f : Int32 → Option α) (g : α → Option β) : (asI v f).bind g = asI v (fun x => (f x).bind g) := by
  unfold asI; split <;> rfl
theorem asL_bind (v : Value) (f : Int64 → Option α) (g : α → Option β) : (asL v f).bind g = asL v (fun x => (f x).bind g) := by
  unfold asL; split <;> rfl
theorem asR_bind (v : Value) (f : Nat → Option α) (g : α → Option β) : (asR v f).bind g = asR v (fun x => (f x).bind g) := by
  unfold asR; split <;> rfl
theorem someR_bind (v : Option Nat) (f : Nat → Option α) (g : α → Option β) : (someR v f).bind g = someR v (fun x => (f x).bind g) := by
  unfold someR; split <;> rfl
theorem bM_bind (b : Bool) (x y : Option α) (g : α → Option β) : (bM b x y).bind g = bM b (x.bind g) (y.bind g) := by cases b <;> rfl
theorem scR_bind {γ : Type} (o : Option γ) (f : γ → Option α) (g : α → Option β) : (scR o f).bind g = scR o (fun q => (f q).bind g) := by cases o <;> rfl
theorem f4_bind (n : Nat) (x1 x2 x3 x0 : Option α) (g : α → Option β) : (f4 n x1 x2 x3 x0).bind g = f4 n (x1.bind g) (x2.bind g) (x3.bind g) (x0.bind g) := by
  unfold f4; split <;> rfl
theorem ite_bind (c : Prop) (d : Decidable c) (a b : Option α) (g : α → Option β) : (@ite _ c d a b).bind g = @ite _ c d (a.bind g) (b.bind g) := by
  by_cases h : c <;> simp [h]
theorem swT_bind (k : Nat → Option α) (x : Int32) (pc : Nat) (d : Int) (g : α → Option β) : ∀ (os : List Int) (lo : Int), (swT k x pc d lo os).bind g = swT (fun t => (k t).bind g) x pc d lo os
  | [], lo => rfl
  | o :: r, lo => by
    unfold swT
    rw [ifc_bind, swT_bind k x pc d g r (lo + 1)]
theorem swL_bind (k : Nat → Option α) (x : Int32) (pc : Nat) (d : Int) (g : α → Option β) : ∀ (ps : List (Int × Int)), (swL k x pc d ps).bind g = swL (fun t => (k t).bind g) x pc d ps
  | [] => rfl
  | o :: r => by
    unfold swL
    rw [ifc_bind, swL_bind k x pc d g r]
theorem cmpZ_bind (c : ClassFile.Cond) (x : Int32) (a b : Option α) (g : α → Option β) : (cmpZ c x a b).bind g = cmpZ c x (a.bind g) (b.bind g) := by
  cases c <;> simp only [cmpZ, ifc_bind]
theorem cmpI_bind (c : ClassFile.Cond) (x y : Int32) (a b : Option α) (g : α → Option β) : (cmpI c x y a b).bind g = cmpI c x y (a.bind g) (b.bind g) := by
  cases c <;> simp only [cmpI, ifc_bind]
theorem crV_bind (o : Option (Option Value × AM)) (M : AM) (f : (Nat → Nat → Int32) → (Nat → Nat → Int64) → Option α) (g : α → Option β) : (crV o M f).bind g = crV o M (fun i l => (f i l).bind g) := by
  unfold crV; split <;> first | rw [ite_bind]; rfl | rfl
theorem crI_bind (o : Option (Option Value × AM)) (M : AM) (f : Int32 → (Nat → Nat → Int32) → (Nat → Nat → Int64) → Option α) (g : α → Option β) : (crI o M f).bind g = crI o M (fun x i l => (f x i l).bind g) := by
  unfold crI; split <;> first | rw [ite_bind]; rfl | rfl
theorem crL_bind (o : Option (Option Value × AM)) (M : AM) (f : Int64 → (Nat → Nat → Int32) → (Nat → Nat → Int64) → Option α) (g : α → Option β) : (crL o M f).bind g = crL o M (fun x i l => (f x i l).bind g) := by
  unfold crL; split <;> first | rw [ite_bind]; rfl | rfl
theorem cmV_bind (o : Option (Option Value × AM)) (f : (Nat → Nat → Int32) → (Nat → Nat → Int64) → Nat → Nat → Nat → Option α) (g : α → Option β) : (cmV o f).bind g = cmV o (fun i l s r p => (f i l s r p).bind g) := by
  unfold cmV; split <;> first | (split <;> rfl) | rfl
theorem cmI_bind (o : Option (Option Value × AM)) (f : Int32 → (Nat → Nat → Int32) → (Nat → Nat → Int64) → Nat → Nat → Nat → Option α) (g : α → Option β) : (cmI o f).bind g = cmI o (fun x i l s r p => (f x i l s r p).bind g) := by
  unfold cmI; split <;> first | (split <;> rfl) | rfl
set_option maxHeartbeats 4000000 in
theorem i1_bind (C : MC) (k : Nat → LV → List Value → AM → Option α) (rt : Option Value → AM → Option α) (nx : LV → List Value → AM → Option α) (g : α → Option β) (pc : Nat) (i : Instr) (h1 h2 : Nat) (lv : LV) (st : List Value) (M : AM) :
    (i1 C k rt nx pc i h1 h2 lv st M).bind g = i1 C (fun pc lv st M => (k pc lv st M).bind g) (fun v M => (rt v M).bind g) (fun lv st M => (nx lv st M).bind g) pc i h1 h2 lv st M := by
  cases i <;> simp only [i1, bM_bind, scR_bind, f4_bind, popI_bind, popL_bind, popR_bind, getL_bind, asI_bind, asL_bind, asR_bind, someR_bind, gd_bind, gk_bind, swT_bind, swL_bind, cmpZ_bind, cmpI_bind, Option.bind_none] <;>
    (repeat' (first | rfl | (split <;> simp only [gd_bind, gk_bind, popI_bind, popL_bind, popR_bind, someR_bind, crV_bind, crI_bind, crL_bind, cmV_bind, cmI_bind, Option.bind_none])))
end
abbrev JS : Type := Nat × LV × List Value × AM
abbrev RS : Type := Option Value × AM
noncomputable def exS (C : MC) (is : List Ent) (pc : Nat) (lv : LV) (st : List Value) (M : AM) : Option (JS ⊕ RS) := exB C (fun pc lv st M => some (.inl (pc, lv, st, M))) (fun v M => some (.inr (v, M))) is pc lv st M
theorem exB_bind {α β : Type} (C : MC) (k : Nat → LV → List Value → AM → Option α) (rt : Option Value → AM → Option α) (g : α → Option β) : ∀ (is : List Ent) (pc : Nat) (lv : LV) (st : List Value) (M : AM),
    (exB C k rt is pc lv st M).bind g = exB C (fun pc lv st M => (k pc lv st M).bind g) (fun v M => (rt v M).bind g) is pc lv st M
  | [], _, _, _, _ => rfl
  | e :: is, pc, lv, st, M => by
    unfold exB
    rw [i1_bind]
    congr 1
    funext lv st M
    exact exB_bind C k rt g is _ lv st M
theorem exB_S {β : Type} (C : MC) (k : Nat → LV → List Value → AM → Option β) (rt : Option Value → AM → Option β) (is : List Ent) (pc : Nat) (lv : LV) (st : List Value) (M : AM) :
    exB C k rt is pc lv st M = (exS C is pc lv st M).bind (Sum.elim (fun q => k q.1 q.2.1 q.2.2.1 q.2.2.2) (fun q => rt q.1 q.2)) := by
  unfold exS
  rw [exB_bind]
  rfl
theorem iF_mono (C : MC) : ∀ (n : Nat) (pc : Nat) (lv : LV) (st : List Value) (M : AM) (r : RS), iF C n pc lv st M = some r → iF C (n + 1) pc lv st M = some r
  | 0, _, _, _, _, _, h => by simp [iF] at h
  | n + 1, pc, lv, st, M, r, h => by
    unfold iF at h ⊢
    split at h
    · cases h
    · rw [exB_S] at h ⊢
      obtain ⟨o, h1, h2⟩ := Option.bind_eq_some_iff.mp h
      rw [h1]
      cases o with
      | inl q => exact iF_mono C n _ _ _ _ _ h2
      | inr q => exact h2
theorem iF_le (C : MC) {n m : Nat} (hm : n ≤ m) {pc : Nat} {lv : LV} {st : List Value} {M : AM} {r : RS} (h : iF C n pc lv st M = some r) : iF C m pc lv st M = some r := by
  induction hm with
  | refl => exact h
  | step _ ih => exact iF_mono C _ _ _ _ _ _ ih
theorem it_iff (C : MC) (pc : Nat) (lv : LV) (st : List Value) (M : AM) (r : RS) : it C pc lv st M = some r ↔ ∃ n, iF C n pc lv st M = some r := by
  unfold it
  constructor
  · intro h
    split at h
    · exact ⟨_, h⟩
    · cases h
  · rintro ⟨n, h⟩
    have hx : ∃ n, (iF C n pc lv st M).isSome = true := ⟨n, by rw [h]; rfl⟩
    rw [dif_pos hx]
    obtain ⟨r2, h2⟩ := Option.isSome_iff_exists.mp hx.choose_spec
    rw [h2]
    have a := iF_le C (Nat.le_max_left n hx.choose) h
    have b := iF_le C (Nat.le_max_right n hx.choose) h2
    rw [← a, b]
theorem it_eq (C : MC) (pc : Nat) (lv : LV) (st : List Value) (M : AM) : it C pc lv st M = match bAt C.2.2.2.1 pc with
    | none => none
    | some b => exB C (it C) (fun v M => some (v, M)) b.2 pc (pick b.1 lv) st M := by
  apply Option.ext
  intro r
  rw [it_iff]
  constructor
  · rintro ⟨n, h⟩
    cases n with
    | zero => simp [iF] at h
    | succ n =>
      unfold iF at h
      split at h
      · cases h
      · rename_i b hb
        rw [exB_S] at h
        rw [hb]
        show exB C (it C) _ b.2 pc (pick b.1 lv) st M = some r
        rw [exB_S]
        obtain ⟨o, h1, h2⟩ := Option.bind_eq_some_iff.mp h
        rw [h1]
        cases o with
        | inl q => exact (it_iff C _ _ _ _ _).mpr ⟨n, h2⟩
        | inr q => exact h2
  · intro h
    split at h
    · cases h
    · rename_i b hb
      rw [exB_S] at h
      obtain ⟨o, h1, h2⟩ := Option.bind_eq_some_iff.mp h
      cases o with
      | inl q =>
        obtain ⟨n, h3⟩ := (it_iff C _ _ _ _ _).mp h2
        refine ⟨n + 1, ?_⟩
        unfold iF
        rw [hb]
        show exB C (iF C n) _ b.2 pc (pick b.1 lv) st M = some r
        rw [exB_S, h1]
        exact h3
      | inr q =>
        refine ⟨1, ?_⟩
        unfold iF
        rw [hb]
        show exB C (iF C 0) _ b.2 pc (pick b.1 lv) st M = some r
        rw [exB_S, h1]
        exact h2
/-- which locals a block reads -/
def lvAt (C : MC) (pc : Nat) (lv : LV) : LV := match bAt C.2.2.2.1 pc with
  | some b => pick b.1 lv
  | none => lv
/-- a region: from a block on, until one of the stops (or n blocks) -/
noncomputable def ev (C : MC) (stops : List Nat) : Nat → Nat → LV → List Value → AM → Option RS
  | 0, pc, lv, st, M => it C pc (lvAt C pc lv) st M
  | n + 1, pc, lv, st, M => match bAt C.2.2.2.1 pc with
    | none => none
    | some b => exB C (fun pc lv st M => bM (stops.contains pc) (it C pc (lvAt C pc lv) st M) (ev C stops n pc lv st M)) (fun v M => some (v, M)) b.2 pc (pick b.1 lv) st M
theorem lk_pick : ∀ (ks : List Nat) (lv : LV) (i : Nat), i ∈ ks → lk (pick ks lv) i = lk lv i := by
  intro ks lv i h
  induction ks with
  | nil => cases h
  | cons a r ih =>
    unfold pick
    rw [List.filterMap_cons]
    by_cases ha : a = i
    · subst ha
      cases hl : lk lv a with
      | none =>
        simp only [Option.map_none]
        by_cases hr : a ∈ r
        · exact (ih hr).trans hl
        · have : ∀ (l : List Nat), a ∉ l → lk (l.filterMap (fun i => (lk lv i).map (fun v => (i, v)))) a = none := by
            intro l hn
            induction l with
            | nil => rfl
            | cons b l ihl =>
              rw [List.filterMap_cons]
              cases hb : lk lv b with
              | none => exact ihl (fun q => hn (List.mem_cons_of_mem _ q))
              | some w =>
                simp only [Option.map_some, lk]
                rw [if_neg (fun q => hn (by rw [← q]; exact List.mem_cons_self))]
                exact ihl (fun q => hn (List.mem_cons_of_mem _ q))
          exact this r hr
      | some v => simp [lk]
    · have hr : i ∈ r := by
        rcases List.mem_cons.mp h with q | q
        · exact absurd q.symm ha
        · exact q
      cases hl : lk lv a with
      | none => exact ih hr
      | some v =>
        simp only [Option.map_some, lk]
        rw [if_neg ha]
        exact ih hr
theorem fm_congr {α β : Type} {f g : α → Option β} : ∀ {l : List α}, (∀ a, a ∈ l → f a = g a) → l.filterMap f = l.filterMap g
  | [], _ => rfl
  | a :: r, h => by
    rw [List.filterMap_cons, List.filterMap_cons, h a List.mem_cons_self, fm_congr (fun b hb => h b (List.mem_cons_of_mem _ hb))]
theorem pick_pick (ks : List Nat) (lv : LV) : pick ks (pick ks lv) = pick ks lv := by
  show ks.filterMap _ = ks.filterMap _
  apply fm_congr
  intro i hi
  rw [lk_pick ks lv i hi]
theorem it_lv (C : MC) (pc : Nat) (lv : LV) (st : List Value) (M : AM) : it C pc (lvAt C pc lv) st M = it C pc lv st M := by
  rw [it_eq, it_eq C pc lv]
  unfold lvAt
  cases bAt C.2.2.2.1 pc with
  | none => rfl
  | some b => simp only [pick_pick]
theorem ev_it (C : MC) (stops : List Nat) : ∀ (n : Nat) (pc : Nat) (lv : LV) (st : List Value) (M : AM), ev C stops n pc lv st M = it C pc lv st M
  | 0, pc, lv, st, M => it_lv C pc lv st M
  | n + 1, pc, lv, st, M => by
    rw [it_eq]
    unfold ev
    have hk : (fun pc lv st M => bM (stops.contains pc) (it C pc (lvAt C pc lv) st M) (ev C stops n pc lv st M)) = it C := by
      funext pc lv st M
      rw [it_lv, ev_it C stops n pc lv st M]
      cases stops.contains pc <;> rfl
    rw [hk]
/-- what a method does -/
noncomputable def mD (C : MC) : DT := fun As M => gk (Nat.ble (lg_sl As).length C.1) (it C 0 (lv_args 0 As) [] M)
theorem mD_it {C : MC} {As : List Value} {M : AM} (h : Nat.ble (lg_sl As).length C.1 = true) : mD C As M = it C 0 (lv_args 0 As) [] M := by
  unfold mD
  rw [h]
  rfl
end
section
/-! the methods: their blocks, their functions (by program) -/
noncomputable def C_Tokens_append : MC := (3, 0, [], [(0, [0, 1], [(.bipush 24, 2, 0, 0), (.istore_n 2, 1, 0, 0)]),
  (3, [0, 1, 2], [(.iload_n 2, 1, 0, 0), (.ifCond .lt 42, 3, 46, 0), (.aload_n 0, 1, 0, 0), (.getfield 38, 3, 8, 8), (.sipush 700, 3, 0, 0), (.if_icmp .ge 32, 3, 46, 0), (.aload_n 0, 1, 0, 0), (.getfield 9, 3, 8, 0), (.aload_n 0, 1, 0, 0), (.getfield 38, 3, 8, 8), (.iload_n 1, 1, 0, 0), (.iload_n 2, 1, 0, 0), (.ishr, 1, 0, 0), (.i2b, 1, 0, 0), (.bastore, 1, 0, 0), (.aload_n 0, 1, 0, 0), (.dup, 1, 0, 0), (.getfield 38, 3, 8, 8), (.iconst 1, 1, 0, 0), (.iadd, 1, 0, 0), (.putfield 38, 3, 8, 8), (.iinc 2 (-8), 3, 0, 0), (.goto (-40), 3, 3, 0)]),
  (46, [], [(.return_, 1, 0, 0)])], none)
noncomputable def Tokens_append (x1 : Int32) (M : AM) : Option (Option Value × AM) := mD C_Tokens_append [.ref 1, .int x1] M
noncomputable def Tokens_append_3 (x1 : Int32) (x2 : Int32) (M : AM) : Option (Option Value × AM) := it C_Tokens_append 3 [(0, .ref 1), (1, .int x1), (2, .int x2)] [] M
noncomputable def C_GT_feed : MC := (6, 1, [(0, 8, 2, mD C_Tokens_append)], [(0, [0, 1, 2, 3, 4, 5], [(.aload_n 0, 1, 0, 0), (.getfield 14, 3, 9, 0), (.getfield 94, 3, 8, 8), (.bipush 20, 2, 0, 0), (.iadd, 1, 0, 0), (.sipush 700, 3, 0, 0), (.if_icmp .le 5, 3, 18, 0), (.iconst (-1), 1, 0, 0), (.ireturn, 1, 0, 0)]),
  (18, [0, 1, 2, 3, 4, 5], [(.aload_n 0, 1, 0, 0), (.getfield 14, 3, 9, 0), (.iload_n 1, 1, 0, 0), (.invokevirtual 97, 3, 0, 0), (.aload_n 0, 1, 0, 0), (.getfield 14, 3, 9, 0), (.iload_n 2, 1, 0, 0), (.invokevirtual 97, 3, 0, 0), (.aload_n 0, 1, 0, 0), (.getfield 14, 3, 9, 0), (.iload_n 3, 1, 0, 0), (.invokevirtual 97, 3, 0, 0), (.aload_n 0, 1, 0, 0), (.getfield 14, 3, 9, 0), (.iload 4, 2, 0, 0), (.invokevirtual 97, 3, 0, 0), (.aload_n 0, 1, 0, 0), (.getfield 14, 3, 9, 0), (.iload 5, 2, 0, 0), (.invokevirtual 97, 3, 0, 0), (.aload_n 0, 1, 0, 0), (.getfield 14, 3, 9, 0), (.getfield 94, 3, 8, 8), (.ireturn, 1, 0, 0)])], none)
noncomputable def GT_feed (x1 : Int32) (x2 : Int32) (x3 : Int32) (x4 : Int32) (x5 : Int32) (M : AM) : Option (Option Value × AM) := mD C_GT_feed [.ref 0, .int x1, .int x2, .int x3, .int x4, .int x5] M
noncomputable def C_Jarr_fill : MC := (4, 0, [], [(0, [0, 1], [(.iconst 0, 1, 0, 0), (.istore_n 2, 1, 0, 0), (.aload_n 0, 1, 0, 0), (.arraylength, 1, 0, 0), (.istore_n 3, 1, 0, 0)]),
  (5, [0, 1, 2, 3], [(.iload_n 2, 1, 0, 0), (.iload_n 3, 1, 0, 0), (.if_icmp .ge 13, 3, 20, 0), (.aload_n 0, 1, 0, 0), (.iload_n 2, 1, 0, 0), (.iload_n 1, 1, 0, 0), (.iastore, 1, 0, 0), (.iinc 2 1, 3, 0, 0), (.goto (-12), 3, 5, 0)]),
  (20, [], [(.return_, 1, 0, 0)])], none)
noncomputable def Jarr_fill (o0 : Nat) (x1 : Int32) (M : AM) : Option (Option Value × AM) := mD C_Jarr_fill [.ref o0, .int x1] M
noncomputable def Jarr_fill_5 (o0 : Nat) (x1 : Int32) (x2 : Int32) (x3 : Int32) (M : AM) : Option (Option Value × AM) := it C_Jarr_fill 5 [(0, .ref o0), (1, .int x1), (2, .int x2), (3, .int x3)] [] M
noncomputable def C_Laws_forget : MC := (1, 0, [(1, 0, 2, mD C_Jarr_fill)], [(0, [0], [(.aload_n 0, 1, 0, 0), (.getfield 18, 3, 1, 2), (.iconst 0, 1, 0, 0), (.invokestatic 31, 3, 0, 0), (.aload_n 0, 1, 0, 0), (.getfield 21, 3, 1, 3), (.iconst 0, 1, 0, 0), (.invokestatic 31, 3, 0, 0), (.aload_n 0, 1, 0, 0), (.iconst 0, 1, 0, 0), (.putfield 24, 3, 1, 4), (.aload_n 0, 1, 0, 0), (.iconst 0, 1, 0, 0), (.putfield 28, 3, 1, 5), (.return_, 1, 0, 0)])], none)
noncomputable def Laws_forget (o0 : Nat) (M : AM) : Option (Option Value × AM) := mD C_Laws_forget [.ref o0] M
noncomputable def C_Plan_clear : MC := (1, 0, [(0, 1, 1, mD C_Laws_forget)], [(0, [0], [(.aload_n 0, 1, 0, 0), (.getfield 45, 3, 5, 10), (.invokevirtual 77, 3, 0, 0), (.aload_n 0, 1, 0, 0), (.iconst 0, 1, 0, 0), (.putfield 49, 3, 5, 11), (.aload_n 0, 1, 0, 0), (.iconst 0, 1, 0, 0), (.putfield 53, 3, 5, 12), (.aload_n 0, 1, 0, 0), (.iconst 0, 1, 0, 0), (.putfield 56, 3, 5, 13), (.aload_n 0, 1, 0, 0), (.iconst 0, 1, 0, 0), (.putfield 59, 3, 5, 14), (.aload_n 0, 1, 0, 0), (.iconst 0, 1, 0, 0), (.putfield 62, 3, 5, 15), (.aload_n 0, 1, 0, 0), (.iconst 0, 1, 0, 0), (.putfield 65, 3, 5, 16), (.aload_n 0, 1, 0, 0), (.iconst 4, 1, 0, 0), (.putfield 68, 3, 5, 17), (.aload_n 0, 1, 0, 0), (.iconst 0, 1, 0, 0), (.putfield 71, 3, 5, 18), (.aload_n 0, 1, 0, 0), (.iconst 0, 1, 0, 0), (.putfield 74, 3, 5, 19), (.return_, 1, 0, 0)])], none)
noncomputable def Plan_clear (o0 : Nat) (M : AM) : Option (Option Value × AM) := mD C_Plan_clear [.ref o0] M
noncomputable def C_Tokens_isLetter : MC := (1, 3, [], [(0, [0], [(.iload_n 0, 1, 0, 0), (.bipush 97, 2, 0, 0), (.if_icmp .lt 13, 3, 16, 0), (.iload_n 0, 1, 0, 0), (.bipush 122, 2, 0, 0), (.if_icmp .gt 7, 3, 16, 0), (.iconst 1, 1, 0, 0), (.goto 4, 3, 17, 0)]),
  (16, [], [(.iconst 0, 1, 0, 0)]),
  (17, [], [(.ireturn, 1, 0, 0)])], none)
noncomputable def Tokens_isLetter (x0 : Int32) (M : AM) : Option (Option Value × AM) := mD C_Tokens_isLetter [.int x0] M
noncomputable def C_GT_find : MC := (4, 1, [], [(0, [0, 1, 2], [(.iconst 0, 1, 0, 0), (.istore_n 3, 1, 0, 0)]),
  (2, [0, 1, 2, 3], [(.iload_n 3, 1, 0, 0), (.iload_n 1, 1, 0, 0), (.if_icmp .ge 24, 3, 28, 0), (.iload_n 3, 1, 0, 0), (.aload_n 0, 1, 0, 0), (.arraylength, 1, 0, 0), (.if_icmp .ge 18, 3, 28, 0), (.aload_n 0, 1, 0, 0), (.iload_n 3, 1, 0, 0), (.iaload, 1, 0, 0), (.iload_n 2, 1, 0, 0), (.if_icmp .ne 5, 3, 22, 0), (.iload_n 3, 1, 0, 0), (.ireturn, 1, 0, 0)]),
  (22, [0, 1, 2, 3], [(.iinc 3 1, 3, 0, 0), (.goto (-23), 3, 2, 0)]),
  (28, [], [(.iconst (-1), 1, 0, 0), (.ireturn, 1, 0, 0)])], none)
noncomputable def GT_find (o0 : Nat) (x1 : Int32) (x2 : Int32) (M : AM) : Option (Option Value × AM) := mD C_GT_find [.ref o0, .int x1, .int x2] M
noncomputable def GT_find_2 (o0 : Nat) (x1 : Int32) (x2 : Int32) (x3 : Int32) (M : AM) : Option (Option Value × AM) := it C_GT_find 2 [(0, .ref o0), (1, .int x1), (2, .int x2), (3, .int x3)] [] M
noncomputable def C_Tokens_word : MC := (3, 0, [(1, 0, 1, mD C_Tokens_isLetter), (1, 0, 3, mD C_GT_find)], [(0, [0], [(.aload_n 0, 1, 0, 0), (.iconst 0, 1, 0, 0), (.putfield 47, 3, 8, 11), (.iconst 0, 1, 0, 0), (.istore_n 1, 1, 0, 0)]),
  (7, [0, 1], [(.aload_n 0, 1, 0, 0), (.getfield 32, 3, 8, 6), (.aload_n 0, 1, 0, 0), (.getfield 28, 3, 8, 5), (.if_icmp .ge 59, 3, 74, 0), (.aload_n 0, 1, 0, 0), (.getfield 9, 3, 8, 0), (.aload_n 0, 1, 0, 0), (.getfield 32, 3, 8, 6), (.baload, 1, 0, 0), (.invokestatic 75, 3, 0, 1), (.ifCond .eq 44, 3, 74, 0), (.aload_n 0, 1, 0, 0), (.aload_n 0, 1, 0, 0), (.getfield 47, 3, 8, 11), (.iconst 5, 1, 0, 0), (.ishl, 1, 0, 0), (.aload_n 0, 1, 0, 0), (.getfield 9, 3, 8, 0), (.aload_n 0, 1, 0, 0), (.getfield 32, 3, 8, 6), (.baload, 1, 0, 0), (.bipush 97, 2, 0, 0), (.isub, 1, 0, 0), (.iconst 1, 1, 0, 0), (.iadd, 1, 0, 0), (.ior, 1, 0, 0), (.putfield 47, 3, 8, 11), (.iinc 1 1, 3, 0, 0), (.aload_n 0, 1, 0, 0), (.dup, 1, 0, 0), (.getfield 32, 3, 8, 6), (.iconst 1, 1, 0, 0), (.iadd, 1, 0, 0), (.putfield 32, 3, 8, 6), (.goto (-64), 3, 7, 0)]),
  (74, [0, 1], [(.iload_n 1, 1, 0, 0), (.bipush 6, 2, 0, 0), (.if_icmp .le 10, 3, 87, 0), (.aload_n 0, 1, 0, 0), (.bipush 42, 2, 0, 0), (.putfield 41, 3, 8, 9), (.return_, 1, 0, 0)]),
  (87, [0, 1], [(.aload_n 0, 1, 0, 0), (.dup, 1, 0, 0), (.getfield 47, 3, 8, 11), (.iconst 5, 1, 0, 0), (.bipush 6, 2, 0, 0), (.iload_n 1, 1, 0, 0), (.isub, 1, 0, 0), (.imul, 1, 0, 0), (.ishl, 1, 0, 0), (.putfield 47, 3, 8, 11), (.aload_n 0, 1, 0, 0), (.getfield 15, 3, 8, 1), (.bipush 26, 2, 0, 0), (.aload_n 0, 1, 0, 0), (.getfield 47, 3, 8, 11), (.invokestatic 95, 3, 1, 1), (.istore_n 2, 1, 0, 0), (.aload_n 0, 1, 0, 0), (.iload_n 2, 1, 0, 0), (.ifCond .ge 8, 3, 126, 0), (.bipush 26, 2, 0, 0), (.goto 4, 3, 127, 0)]),
  (126, [2], [(.iload_n 2, 1, 0, 0)]),
  (127, [], [(.putfield 41, 3, 8, 9), (.return_, 1, 0, 0)])], none)
noncomputable def Tokens_word (M : AM) : Option (Option Value × AM) := mD C_Tokens_word [.ref 1] M
noncomputable def Tokens_word_7 (x1 : Int32) (M : AM) : Option (Option Value × AM) := it C_Tokens_word 7 [(0, .ref 1), (1, .int x1)] [] M
noncomputable def Tokens_word_74 (x1 : Int32) (M : AM) : Option (Option Value × AM) := it C_Tokens_word 74 [(0, .ref 1), (1, .int x1)] [] M
noncomputable def C_Tokens_isDigit : MC := (1, 3, [], [(0, [0], [(.iload_n 0, 1, 0, 0), (.bipush 48, 2, 0, 0), (.if_icmp .lt 13, 3, 16, 0), (.iload_n 0, 1, 0, 0), (.bipush 57, 2, 0, 0), (.if_icmp .gt 7, 3, 16, 0), (.iconst 1, 1, 0, 0), (.goto 4, 3, 17, 0)]),
  (16, [], [(.iconst 0, 1, 0, 0)]),
  (17, [], [(.ireturn, 1, 0, 0)])], none)
noncomputable def Tokens_isDigit (x0 : Int32) (M : AM) : Option (Option Value × AM) := mD C_Tokens_isDigit [.int x0] M
noncomputable def C_Tokens_number : MC := (1, 0, [(1, 0, 1, mD C_Tokens_isDigit), (3, 0, 0, fun _ _ => none)], [(0, [0], [(.aload_n 0, 1, 0, 0), (.bipush 27, 2, 0, 0), (.putfield 41, 3, 8, 9), (.aload_n 0, 1, 0, 0), (.iconst 0, 1, 0, 0), (.putfield 47, 3, 8, 11)]),
  (11, [0], [(.aload_n 0, 1, 0, 0), (.getfield 32, 3, 8, 6), (.aload_n 0, 1, 0, 0), (.getfield 28, 3, 8, 5), (.if_icmp .ge 60, 3, 79, 0), (.aload_n 0, 1, 0, 0), (.getfield 9, 3, 8, 0), (.aload_n 0, 1, 0, 0), (.getfield 32, 3, 8, 6), (.baload, 1, 0, 0), (.invokestatic 82, 3, 0, 1), (.ifCond .eq 45, 3, 79, 0), (.aload_n 0, 1, 0, 0), (.aload_n 0, 1, 0, 0), (.getfield 47, 3, 8, 11), (.bipush 10, 2, 0, 0), (.imul, 1, 0, 0), (.aload_n 0, 1, 0, 0), (.getfield 9, 3, 8, 0), (.aload_n 0, 1, 0, 0), (.getfield 32, 3, 8, 6), (.baload, 1, 0, 0), (.iadd, 1, 0, 0), (.bipush 48, 2, 0, 0), (.isub, 1, 0, 0), (.ldc 99, 2, 1000000, 0), (.invokestatic 62, 3, 1, 0), (.putfield 47, 3, 8, 11), (.aload_n 0, 1, 0, 0), (.dup, 1, 0, 0), (.getfield 32, 3, 8, 6), (.iconst 1, 1, 0, 0), (.iadd, 1, 0, 0), (.putfield 32, 3, 8, 6), (.goto (-65), 3, 11, 0)]),
  (79, [], [(.return_, 1, 0, 0)])], none)
noncomputable def Tokens_number (M : AM) : Option (Option Value × AM) := mD C_Tokens_number [.ref 1] M
noncomputable def Tokens_number_11 (M : AM) : Option (Option Value × AM) := it C_Tokens_number 11 [(0, .ref 1)] [] M
noncomputable def C_Tokens_sign : MC := (1, 1, [], [(0, [0], [(.iload_n 0, 1, 0, 0), (.tableswitch 137 40 62 #[110, 113, 122, 116, 137, 119, 137, 125, 137, 137, 137, 137, 137, 137, 137, 137, 137, 137, 137, 107, 128, 131, 134], 107, 0, 0)]),
  (108, [], [(.bipush 28, 2, 0, 0), (.ireturn, 1, 0, 0)]),
  (111, [], [(.bipush 29, 2, 0, 0), (.ireturn, 1, 0, 0)]),
  (114, [], [(.bipush 30, 2, 0, 0), (.ireturn, 1, 0, 0)]),
  (117, [], [(.bipush 31, 2, 0, 0), (.ireturn, 1, 0, 0)]),
  (120, [], [(.bipush 32, 2, 0, 0), (.ireturn, 1, 0, 0)]),
  (123, [], [(.bipush 33, 2, 0, 0), (.ireturn, 1, 0, 0)]),
  (126, [], [(.bipush 34, 2, 0, 0), (.ireturn, 1, 0, 0)]),
  (129, [], [(.bipush 35, 2, 0, 0), (.ireturn, 1, 0, 0)]),
  (132, [], [(.bipush 37, 2, 0, 0), (.ireturn, 1, 0, 0)]),
  (135, [], [(.bipush 40, 2, 0, 0), (.ireturn, 1, 0, 0)]),
  (138, [], [(.bipush 42, 2, 0, 0), (.ireturn, 1, 0, 0)])], none)
noncomputable def Tokens_sign (x0 : Int32) (M : AM) : Option (Option Value × AM) := mD C_Tokens_sign [.int x0] M
noncomputable def Tokens_sign_138 (M : AM) : Option (Option Value × AM) := it C_Tokens_sign 138 [] [] M
noncomputable def C_Tokens_lengthen : MC := (1, 0, [], [(0, [0], [(.aload_n 0, 1, 0, 0), (.getfield 32, 3, 8, 6), (.aload_n 0, 1, 0, 0), (.getfield 28, 3, 8, 5), (.if_icmp .ge 21, 3, 29, 0), (.aload_n 0, 1, 0, 0), (.getfield 41, 3, 8, 9), (.bipush 35, 2, 0, 0), (.if_icmp .eq 13, 3, 30, 0), (.aload_n 0, 1, 0, 0), (.getfield 41, 3, 8, 9), (.bipush 40, 2, 0, 0), (.if_icmp .eq 4, 3, 30, 0)]),
  (29, [], [(.return_, 1, 0, 0)]),
  (30, [0], [(.aload_n 0, 1, 0, 0), (.getfield 9, 3, 8, 0), (.aload_n 0, 1, 0, 0), (.getfield 32, 3, 8, 6), (.baload, 1, 0, 0), (.bipush 61, 2, 0, 0), (.if_icmp .ne 36, 3, 77, 0), (.aload_n 0, 1, 0, 0), (.aload_n 0, 1, 0, 0), (.getfield 41, 3, 8, 9), (.bipush 35, 2, 0, 0), (.if_icmp .ne 8, 3, 59, 0), (.bipush 36, 2, 0, 0), (.goto 5, 3, 61, 0)]),
  (59, [0], [(.bipush 39, 2, 0, 0)]),
  (61, [0], [(.putfield 41, 3, 8, 9), (.aload_n 0, 1, 0, 0), (.dup, 1, 0, 0), (.getfield 32, 3, 8, 6), (.iconst 1, 1, 0, 0), (.iadd, 1, 0, 0), (.putfield 32, 3, 8, 6), (.goto 42, 3, 116, 0)]),
  (77, [0], [(.aload_n 0, 1, 0, 0), (.getfield 9, 3, 8, 0), (.aload_n 0, 1, 0, 0), (.getfield 32, 3, 8, 6), (.baload, 1, 0, 0), (.bipush 62, 2, 0, 0), (.if_icmp .ne 28, 3, 116, 0), (.aload_n 0, 1, 0, 0), (.getfield 41, 3, 8, 9), (.bipush 35, 2, 0, 0), (.if_icmp .ne 19, 3, 116, 0), (.aload_n 0, 1, 0, 0), (.bipush 38, 2, 0, 0), (.putfield 41, 3, 8, 9), (.aload_n 0, 1, 0, 0), (.dup, 1, 0, 0), (.getfield 32, 3, 8, 6), (.iconst 1, 1, 0, 0), (.iadd, 1, 0, 0), (.putfield 32, 3, 8, 6)]),
  (116, [], [(.return_, 1, 0, 0)])], none)
noncomputable def Tokens_lengthen (M : AM) : Option (Option Value × AM) := mD C_Tokens_lengthen [.ref 1] M
noncomputable def Tokens_lengthen_30 (M : AM) : Option (Option Value × AM) := it C_Tokens_lengthen 30 [(0, .ref 1)] [] M
noncomputable def C_Tokens_scan : MC := (1, 0, [(1, 0, 1, mD C_Tokens_isLetter), (0, 8, 1, mD C_Tokens_word), (1, 0, 1, mD C_Tokens_isDigit), (0, 8, 1, mD C_Tokens_number), (1, 0, 1, mD C_Tokens_sign), (0, 8, 1, mD C_Tokens_lengthen)], [(0, [0], [(.aload_n 0, 1, 0, 0), (.getfield 32, 3, 8, 6), (.aload_n 0, 1, 0, 0), (.getfield 28, 3, 8, 5), (.if_icmp .ge 44, 3, 52, 0), (.aload_n 0, 1, 0, 0), (.getfield 9, 3, 8, 0), (.aload_n 0, 1, 0, 0), (.getfield 32, 3, 8, 6), (.baload, 1, 0, 0), (.bipush 32, 2, 0, 0), (.if_icmp .eq 17, 3, 39, 0), (.aload_n 0, 1, 0, 0), (.getfield 9, 3, 8, 0), (.aload_n 0, 1, 0, 0), (.getfield 32, 3, 8, 6), (.baload, 1, 0, 0), (.bipush 10, 2, 0, 0), (.if_icmp .ne 16, 3, 52, 0)]),
  (39, [0], [(.aload_n 0, 1, 0, 0), (.dup, 1, 0, 0), (.getfield 32, 3, 8, 6), (.iconst 1, 1, 0, 0), (.iadd, 1, 0, 0), (.putfield 32, 3, 8, 6), (.goto (-49), 3, 0, 0)]),
  (52, [0], [(.aload_n 0, 1, 0, 0), (.aload_n 0, 1, 0, 0), (.getfield 32, 3, 8, 6), (.putfield 44, 3, 8, 10), (.aload_n 0, 1, 0, 0), (.getfield 32, 3, 8, 6), (.aload_n 0, 1, 0, 0), (.getfield 28, 3, 8, 5), (.if_icmp .lt 12, 3, 80, 0), (.aload_n 0, 1, 0, 0), (.bipush 41, 2, 0, 0), (.putfield 41, 3, 8, 9), (.goto 77, 3, 154, 0)]),
  (80, [0], [(.aload_n 0, 1, 0, 0), (.getfield 9, 3, 8, 0), (.aload_n 0, 1, 0, 0), (.getfield 32, 3, 8, 6), (.baload, 1, 0, 0), (.invokestatic 75, 3, 0, 1), (.ifCond .eq 10, 3, 102, 0), (.aload_n 0, 1, 0, 0), (.invokevirtual 79, 3, 1, 0), (.goto 55, 3, 154, 0)]),
  (102, [0], [(.aload_n 0, 1, 0, 0), (.getfield 9, 3, 8, 0), (.aload_n 0, 1, 0, 0), (.getfield 32, 3, 8, 6), (.baload, 1, 0, 0), (.invokestatic 82, 3, 2, 1), (.ifCond .eq 10, 3, 124, 0), (.aload_n 0, 1, 0, 0), (.invokevirtual 85, 3, 3, 0), (.goto 33, 3, 154, 0)]),
  (124, [0], [(.aload_n 0, 1, 0, 0), (.aload_n 0, 1, 0, 0), (.getfield 9, 3, 8, 0), (.aload_n 0, 1, 0, 0), (.getfield 32, 3, 8, 6), (.baload, 1, 0, 0), (.invokestatic 88, 3, 4, 1), (.putfield 41, 3, 8, 9), (.aload_n 0, 1, 0, 0), (.dup, 1, 0, 0), (.getfield 32, 3, 8, 6), (.iconst 1, 1, 0, 0), (.iadd, 1, 0, 0), (.putfield 32, 3, 8, 6), (.aload_n 0, 1, 0, 0), (.invokevirtual 92, 3, 5, 0)]),
  (154, [], [(.return_, 1, 0, 0)])], none)
noncomputable def Tokens_scan (M : AM) : Option (Option Value × AM) := mD C_Tokens_scan [.ref 1] M
noncomputable def Tokens_scan_52 (M : AM) : Option (Option Value × AM) := it C_Tokens_scan 52 [(0, .ref 1)] [] M
noncomputable def Tokens_scan_0 (M : AM) : Option (Option Value × AM) := it C_Tokens_scan 0 [(0, .ref 1)] [] M
noncomputable def C_Tokens_step : MC := (1, 3, [], [(0, [0], [(.aload_n 0, 1, 0, 0), (.getfield 35, 3, 8, 7), (.sipush 700, 3, 0, 0), (.if_icmp .ge 12, 3, 19, 0), (.aload_n 0, 1, 0, 0), (.getfield 41, 3, 8, 9), (.bipush 41, 2, 0, 0), (.if_icmp .ne 10, 3, 26, 0)]),
  (19, [0], [(.aload_n 0, 1, 0, 0), (.getfield 35, 3, 8, 7), (.ifCond .ge 13, 3, 36, 0)]),
  (26, [0], [(.aload_n 0, 1, 0, 0), (.dup, 1, 0, 0), (.getfield 35, 3, 8, 7), (.iconst 1, 1, 0, 0), (.iadd, 1, 0, 0), (.putfield 35, 3, 8, 7)]),
  (36, [0], [(.aload_n 0, 1, 0, 0), (.aload_n 0, 1, 0, 0), (.getfield 19, 3, 8, 2), (.aload_n 0, 1, 0, 0), (.getfield 35, 3, 8, 7), (.iaload, 1, 0, 0), (.putfield 41, 3, 8, 9), (.aload_n 0, 1, 0, 0), (.aload_n 0, 1, 0, 0), (.getfield 22, 3, 8, 3), (.aload_n 0, 1, 0, 0), (.getfield 35, 3, 8, 7), (.iaload, 1, 0, 0), (.putfield 44, 3, 8, 10), (.aload_n 0, 1, 0, 0), (.aload_n 0, 1, 0, 0), (.getfield 25, 3, 8, 4), (.aload_n 0, 1, 0, 0), (.getfield 35, 3, 8, 7), (.iaload, 1, 0, 0), (.putfield 47, 3, 8, 11), (.iconst 1, 1, 0, 0), (.ireturn, 1, 0, 0)])], none)
noncomputable def Tokens_step (M : AM) : Option (Option Value × AM) := mD C_Tokens_step [.ref 1] M
noncomputable def Tokens_step_36 (M : AM) : Option (Option Value × AM) := it C_Tokens_step 36 [(0, .ref 1)] [] M
noncomputable def C_Tokens_begin : MC := (3, 0, [(3, 0, 0, fun _ _ => none), (0, 8, 1, mD C_Tokens_scan), (0, 8, 1, mD C_Tokens_step)], [(0, [0, 1], [(.aload_n 0, 1, 0, 0), (.iload_n 1, 1, 0, 0), (.aload_n 0, 1, 0, 0), (.getfield 38, 3, 8, 8), (.invokestatic 62, 3, 0, 0), (.putfield 28, 3, 8, 5), (.aload_n 0, 1, 0, 0), (.iconst 0, 1, 0, 0), (.putfield 32, 3, 8, 6), (.aload_n 0, 1, 0, 0), (.bipush 42, 2, 0, 0), (.putfield 41, 3, 8, 9), (.iconst 0, 1, 0, 0), (.istore_n 2, 1, 0, 0)]),
  (25, [0, 2], [(.iload_n 2, 1, 0, 0), (.sipush 700, 3, 0, 0), (.if_icmp .gt 52, 3, 81, 0), (.aload_n 0, 1, 0, 0), (.getfield 41, 3, 8, 9), (.bipush 41, 2, 0, 0), (.if_icmp .eq 43, 3, 81, 0), (.aload_n 0, 1, 0, 0), (.invokevirtual 68, 3, 1, 0), (.aload_n 0, 1, 0, 0), (.getfield 19, 3, 8, 2), (.iload_n 2, 1, 0, 0), (.aload_n 0, 1, 0, 0), (.getfield 41, 3, 8, 9), (.iastore, 1, 0, 0), (.aload_n 0, 1, 0, 0), (.getfield 22, 3, 8, 3), (.iload_n 2, 1, 0, 0), (.aload_n 0, 1, 0, 0), (.getfield 44, 3, 8, 10), (.iastore, 1, 0, 0), (.aload_n 0, 1, 0, 0), (.getfield 25, 3, 8, 4), (.iload_n 2, 1, 0, 0), (.aload_n 0, 1, 0, 0), (.getfield 47, 3, 8, 11), (.iastore, 1, 0, 0), (.iinc 2 1, 3, 0, 0), (.goto (-53), 3, 25, 0)]),
  (81, [0], [(.aload_n 0, 1, 0, 0), (.iconst (-1), 1, 0, 0), (.putfield 35, 3, 8, 7), (.aload_n 0, 1, 0, 0), (.invokevirtual 71, 3, 2, 1), (.pop, 1, 0, 0), (.return_, 1, 0, 0)])], none)
noncomputable def Tokens_begin (x1 : Int32) (M : AM) : Option (Option Value × AM) := mD C_Tokens_begin [.ref 1, .int x1] M
noncomputable def Tokens_begin_25 (x2 : Int32) (M : AM) : Option (Option Value × AM) := it C_Tokens_begin 25 [(0, .ref 1), (2, .int x2)] [] M
noncomputable def C_Reader_fail : MC := (2, 3, [], [(0, [0, 1], [(.aload_n 0, 1, 0, 0), (.iload_n 1, 1, 0, 0), (.putfield 31, 3, 6, 8), (.aload_n 0, 1, 0, 0), (.aload_n 0, 1, 0, 0), (.getfield 37, 3, 6, 0), (.getfield 91, 3, 8, 10), (.putfield 34, 3, 6, 9), (.iconst 0, 1, 0, 0), (.ireturn, 1, 0, 0)])], none)
noncomputable def Reader_fail (x1 : Int32) (M : AM) : Option (Option Value × AM) := mD C_Reader_fail [.ref 23, .int x1] M
noncomputable def C_Reader_room : MC := (3, 3, [(0, 8, 1, mD C_Tokens_step), (0, 6, 2, mD C_Reader_fail)], [(0, [0, 1, 2], [(.iload_n 1, 1, 0, 0), (.iload_n 2, 1, 0, 0), (.if_icmp .ge 13, 3, 15, 0), (.aload_n 0, 1, 0, 0), (.getfield 37, 3, 6, 0), (.invokevirtual 92, 3, 0, 1), (.goto 8, 3, 20, 0)]),
  (15, [0], [(.aload_n 0, 1, 0, 0), (.iconst 2, 1, 0, 0), (.invokevirtual 84, 3, 1, 1)]),
  (20, [], [(.ireturn, 1, 0, 0)])], none)
noncomputable def Reader_room (x1 : Int32) (x2 : Int32) (M : AM) : Option (Option Value × AM) := mD C_Reader_room [.ref 23, .int x1, .int x2] M
noncomputable def C_Reader_newName : MC := (3, 3, [(0, 6, 2, mD C_Reader_fail), (1, 0, 3, mD C_GT_find), (0, 8, 1, mD C_Tokens_step)], [(0, [0, 1, 2], [(.aload_n 0, 1, 0, 0), (.getfield 37, 3, 6, 0), (.getfield 56, 3, 8, 9), (.bipush 26, 2, 0, 0), (.if_icmp .eq 9, 3, 18, 0), (.aload_n 0, 1, 0, 0), (.iconst 1, 1, 0, 0), (.invokevirtual 84, 3, 0, 1), (.ireturn, 1, 0, 0)]),
  (18, [0, 1, 2], [(.aload_n 1, 1, 0, 0), (.iload_n 2, 1, 0, 0), (.aload_n 0, 1, 0, 0), (.getfield 37, 3, 6, 0), (.getfield 95, 3, 8, 11), (.invokestatic 98, 3, 1, 1), (.ifCond .lt 9, 3, 39, 0), (.aload_n 0, 1, 0, 0), (.iconst 3, 1, 0, 0), (.invokevirtual 84, 3, 0, 1), (.ireturn, 1, 0, 0)]),
  (39, [0, 1, 2], [(.iload_n 2, 1, 0, 0), (.aload_n 1, 1, 0, 0), (.arraylength, 1, 0, 0), (.if_icmp .ge 13, 3, 55, 0), (.aload_n 1, 1, 0, 0), (.iload_n 2, 1, 0, 0), (.aload_n 0, 1, 0, 0), (.getfield 37, 3, 6, 0), (.getfield 95, 3, 8, 11), (.iastore, 1, 0, 0)]),
  (55, [0], [(.aload_n 0, 1, 0, 0), (.getfield 37, 3, 6, 0), (.invokevirtual 92, 3, 2, 1), (.ireturn, 1, 0, 0)])], none)
noncomputable def Reader_newName (o1 : Nat) (x2 : Int32) (M : AM) : Option (Option Value × AM) := mD C_Reader_newName [.ref 23, .ref o1, .int x2] M
noncomputable def C_Reader_nodeLine : MC := (1, 3, [(0, 6, 3, mD C_Reader_room), (0, 6, 3, mD C_Reader_newName)], [(0, [0], [(.aload_n 0, 1, 0, 0), (.aload_n 0, 1, 0, 0), (.getfield 41, 3, 6, 3), (.getfield 102, 3, 5, 11), (.bipush 7, 2, 0, 0), (.invokevirtual 105, 3, 0, 1), (.ifCond .eq 24, 3, 37, 0), (.aload_n 0, 1, 0, 0), (.aload_n 0, 1, 0, 0), (.getfield 41, 3, 6, 3), (.getfield 109, 3, 5, 0), (.aload_n 0, 1, 0, 0), (.getfield 41, 3, 6, 3), (.getfield 102, 3, 5, 11), (.invokevirtual 112, 3, 1, 1), (.ifCond .ne 5, 3, 39, 0)]),
  (37, [], [(.iconst 0, 1, 0, 0), (.ireturn, 1, 0, 0)]),
  (39, [0], [(.aload_n 0, 1, 0, 0), (.getfield 41, 3, 6, 3), (.dup, 1, 0, 0), (.getfield 102, 3, 5, 11), (.iconst 1, 1, 0, 0), (.iadd, 1, 0, 0), (.putfield 102, 3, 5, 11), (.iconst 1, 1, 0, 0), (.ireturn, 1, 0, 0)])], none)
noncomputable def Reader_nodeLine (M : AM) : Option (Option Value × AM) := mD C_Reader_nodeLine [.ref 23] M
noncomputable def C_Reader_number : MC := (3, 3, [(0, 6, 2, mD C_Reader_fail), (0, 8, 1, mD C_Tokens_step)], [(0, [0, 1, 2], [(.aload_n 0, 1, 0, 0), (.getfield 37, 3, 6, 0), (.getfield 56, 3, 8, 9), (.bipush 27, 2, 0, 0), (.if_icmp .eq 9, 3, 18, 0), (.aload_n 0, 1, 0, 0), (.iconst 1, 1, 0, 0), (.invokevirtual 84, 3, 0, 1), (.ireturn, 1, 0, 0)]),
  (18, [0, 1, 2], [(.aload_n 0, 1, 0, 0), (.getfield 37, 3, 6, 0), (.getfield 95, 3, 8, 11), (.iload_n 1, 1, 0, 0), (.if_icmp .lt 14, 3, 40, 0), (.aload_n 0, 1, 0, 0), (.getfield 37, 3, 6, 0), (.getfield 95, 3, 8, 11), (.iload_n 2, 1, 0, 0), (.if_icmp .le 9, 3, 46, 0)]),
  (40, [0], [(.aload_n 0, 1, 0, 0), (.iconst 2, 1, 0, 0), (.invokevirtual 84, 3, 0, 1), (.ireturn, 1, 0, 0)]),
  (46, [0], [(.aload_n 0, 1, 0, 0), (.aload_n 0, 1, 0, 0), (.getfield 37, 3, 6, 0), (.getfield 95, 3, 8, 11), (.putfield 25, 3, 6, 6), (.aload_n 0, 1, 0, 0), (.getfield 37, 3, 6, 0), (.invokevirtual 92, 3, 1, 1), (.ireturn, 1, 0, 0)])], none)
noncomputable def Reader_number (x1 : Int32) (x2 : Int32) (M : AM) : Option (Option Value × AM) := mD C_Reader_number [.ref 23, .int x1, .int x2] M
noncomputable def C_Reader_member : MC := (3, 3, [(0, 6, 2, mD C_Reader_fail), (1, 0, 3, mD C_GT_find), (0, 8, 1, mD C_Tokens_step)], [(0, [0, 1, 2], [(.aload_n 0, 1, 0, 0), (.getfield 37, 3, 6, 0), (.getfield 56, 3, 8, 9), (.bipush 26, 2, 0, 0), (.if_icmp .eq 9, 3, 18, 0), (.aload_n 0, 1, 0, 0), (.iconst 1, 1, 0, 0), (.invokevirtual 84, 3, 0, 1), (.ireturn, 1, 0, 0)]),
  (18, [0, 1, 2], [(.iload_n 2, 1, 0, 0), (.iconst 4, 1, 0, 0), (.if_icmp .lt 9, 3, 29, 0), (.aload_n 0, 1, 0, 0), (.iconst 2, 1, 0, 0), (.invokevirtual 84, 3, 0, 1), (.ireturn, 1, 0, 0)]),
  (29, [0, 1], [(.aload_n 0, 1, 0, 0), (.aload_n 0, 1, 0, 0), (.getfield 41, 3, 6, 3), (.getfield 109, 3, 5, 0), (.aload_n 0, 1, 0, 0), (.getfield 41, 3, 6, 3), (.getfield 102, 3, 5, 11), (.aload_n 0, 1, 0, 0), (.getfield 37, 3, 6, 0), (.getfield 95, 3, 8, 11), (.invokestatic 98, 3, 1, 1), (.putfield 25, 3, 6, 6), (.aload_n 0, 1, 0, 0), (.getfield 25, 3, 6, 6), (.ifCond .ge 9, 3, 70, 0), (.aload_n 0, 1, 0, 0), (.iconst 4, 1, 0, 0), (.invokevirtual 84, 3, 0, 1), (.ireturn, 1, 0, 0)]),
  (70, [0, 1], [(.iload_n 1, 1, 0, 0), (.aload_n 0, 1, 0, 0), (.getfield 25, 3, 6, 6), (.ishr, 1, 0, 0), (.iconst 1, 1, 0, 0), (.iand, 1, 0, 0), (.ifCond .eq 11, 3, 89, 0), (.aload_n 0, 1, 0, 0), (.iconst 3, 1, 0, 0), (.invokevirtual 84, 3, 0, 1), (.goto 10, 3, 96, 0)]),
  (89, [0], [(.aload_n 0, 1, 0, 0), (.getfield 37, 3, 6, 0), (.invokevirtual 92, 3, 2, 1)]),
  (96, [], [(.ireturn, 1, 0, 0)])], none)
noncomputable def Reader_member (x1 : Int32) (x2 : Int32) (M : AM) : Option (Option Value × AM) := mD C_Reader_member [.ref 23, .int x1, .int x2] M
noncomputable def C_Reader_linkLine : MC := (4, 3, [(0, 6, 3, mD C_Reader_room), (0, 6, 3, mD C_Reader_number), (0, 6, 3, mD C_Reader_member)], [(0, [0], [(.aload_n 0, 1, 0, 0), (.aload_n 0, 1, 0, 0), (.getfield 41, 3, 6, 3), (.getfield 116, 3, 5, 12), (.bipush 8, 2, 0, 0), (.invokevirtual 105, 3, 0, 1), (.ifCond .eq 13, 3, 26, 0), (.aload_n 0, 1, 0, 0), (.iconst 1, 1, 0, 0), (.bipush 9, 2, 0, 0), (.invokevirtual 119, 3, 1, 1), (.ifCond .ne 5, 3, 28, 0)]),
  (26, [], [(.iconst 0, 1, 0, 0), (.ireturn, 1, 0, 0)]),
  (28, [0], [(.aload_n 0, 1, 0, 0), (.getfield 25, 3, 6, 6), (.istore_n 1, 1, 0, 0), (.iconst 0, 1, 0, 0), (.istore_n 2, 1, 0, 0), (.iconst 0, 1, 0, 0), (.istore_n 3, 1, 0, 0)]),
  (37, [0, 1, 2, 3], [(.iload_n 3, 1, 0, 0), (.iconst 4, 1, 0, 0), (.if_icmp .gt 46, 3, 85, 0), (.iload_n 3, 1, 0, 0), (.iconst 2, 1, 0, 0), (.if_icmp .lt 15, 3, 59, 0), (.aload_n 0, 1, 0, 0), (.getfield 37, 3, 6, 0), (.getfield 56, 3, 8, 9), (.bipush 26, 2, 0, 0), (.if_icmp .ne 29, 3, 85, 0)]),
  (59, [0, 1, 2, 3], [(.aload_n 0, 1, 0, 0), (.iload_n 2, 1, 0, 0), (.iload_n 3, 1, 0, 0), (.invokevirtual 122, 3, 2, 1), (.ifCond .ne 5, 3, 70, 0), (.iconst 0, 1, 0, 0), (.ireturn, 1, 0, 0)]),
  (70, [0, 1, 2, 3], [(.iload_n 2, 1, 0, 0), (.iconst 1, 1, 0, 0), (.aload_n 0, 1, 0, 0), (.getfield 25, 3, 6, 6), (.ishl, 1, 0, 0), (.ior, 1, 0, 0), (.istore_n 2, 1, 0, 0), (.iinc 3 1, 3, 0, 0), (.goto (-45), 3, 37, 0)]),
  (85, [0, 1, 2], [(.aload_n 0, 1, 0, 0), (.getfield 41, 3, 6, 3), (.getfield 125, 3, 5, 1), (.aload_n 0, 1, 0, 0), (.getfield 41, 3, 6, 3), (.getfield 116, 3, 5, 12), (.iload_n 1, 1, 0, 0), (.iastore, 1, 0, 0), (.aload_n 0, 1, 0, 0), (.getfield 41, 3, 6, 3), (.getfield 128, 3, 5, 2), (.aload_n 0, 1, 0, 0), (.getfield 41, 3, 6, 3), (.getfield 116, 3, 5, 12), (.iload_n 2, 1, 0, 0), (.iastore, 1, 0, 0), (.aload_n 0, 1, 0, 0), (.getfield 41, 3, 6, 3), (.dup, 1, 0, 0), (.getfield 116, 3, 5, 12), (.iconst 1, 1, 0, 0), (.iadd, 1, 0, 0), (.putfield 116, 3, 5, 12), (.iconst 1, 1, 0, 0), (.ireturn, 1, 0, 0)])], none)
noncomputable def Reader_linkLine (M : AM) : Option (Option Value × AM) := mD C_Reader_linkLine [.ref 23] M
noncomputable def Reader_linkLine_37 (x1 : Int32) (x2 : Int32) (x3 : Int32) (M : AM) : Option (Option Value × AM) := it C_Reader_linkLine 37 [(0, .ref 23), (1, .int x1), (2, .int x2), (3, .int x3)] [] M
noncomputable def Reader_linkLine_85 (x1 : Int32) (x2 : Int32) (M : AM) : Option (Option Value × AM) := it C_Reader_linkLine 85 [(0, .ref 23), (1, .int x1), (2, .int x2)] [] M
noncomputable def Reader_linkLine_59 (x1 : Int32) (x2 : Int32) (x3 : Int32) (M : AM) : Option (Option Value × AM) := it C_Reader_linkLine 59 [(0, .ref 23), (1, .int x1), (2, .int x2), (3, .int x3)] [] M
noncomputable def C_Reader_once : MC := (1, 3, [(0, 6, 2, mD C_Reader_fail), (0, 8, 1, mD C_Tokens_step)], [(0, [0], [(.aload_n 0, 1, 0, 0), (.getfield 22, 3, 6, 5), (.aload_n 0, 1, 0, 0), (.getfield 37, 3, 6, 0), (.getfield 56, 3, 8, 9), (.ishr, 1, 0, 0), (.iconst 1, 1, 0, 0), (.iand, 1, 0, 0), (.ifCond .eq 9, 3, 23, 0), (.aload_n 0, 1, 0, 0), (.iconst 3, 1, 0, 0), (.invokevirtual 84, 3, 0, 1), (.ireturn, 1, 0, 0)]),
  (23, [0], [(.aload_n 0, 1, 0, 0), (.dup, 1, 0, 0), (.getfield 22, 3, 6, 5), (.iconst 1, 1, 0, 0), (.aload_n 0, 1, 0, 0), (.getfield 37, 3, 6, 0), (.getfield 56, 3, 8, 9), (.ishl, 1, 0, 0), (.ior, 1, 0, 0), (.putfield 22, 3, 6, 5), (.aload_n 0, 1, 0, 0), (.getfield 37, 3, 6, 0), (.invokevirtual 92, 3, 1, 1), (.ireturn, 1, 0, 0)])], none)
noncomputable def Reader_once (M : AM) : Option (Option Value × AM) := mD C_Reader_once [.ref 23] M
noncomputable def C_Reader_oldName : MC := (3, 3, [(0, 6, 2, mD C_Reader_fail), (1, 0, 3, mD C_GT_find), (0, 8, 1, mD C_Tokens_step)], [(0, [0, 1, 2], [(.aload_n 0, 1, 0, 0), (.getfield 37, 3, 6, 0), (.getfield 56, 3, 8, 9), (.bipush 26, 2, 0, 0), (.if_icmp .eq 9, 3, 18, 0), (.aload_n 0, 1, 0, 0), (.iconst 1, 1, 0, 0), (.invokevirtual 84, 3, 0, 1), (.ireturn, 1, 0, 0)]),
  (18, [0, 1, 2], [(.aload_n 0, 1, 0, 0), (.aload_n 1, 1, 0, 0), (.iload_n 2, 1, 0, 0), (.aload_n 0, 1, 0, 0), (.getfield 37, 3, 6, 0), (.getfield 95, 3, 8, 11), (.invokestatic 98, 3, 1, 1), (.putfield 25, 3, 6, 6), (.aload_n 0, 1, 0, 0), (.getfield 25, 3, 6, 6), (.ifCond .ge 11, 3, 49, 0), (.aload_n 0, 1, 0, 0), (.iconst 4, 1, 0, 0), (.invokevirtual 84, 3, 0, 1), (.goto 10, 3, 56, 0)]),
  (49, [0], [(.aload_n 0, 1, 0, 0), (.getfield 37, 3, 6, 0), (.invokevirtual 92, 3, 2, 1)]),
  (56, [], [(.ireturn, 1, 0, 0)])], none)
noncomputable def Reader_oldName (o1 : Nat) (x2 : Int32) (M : AM) : Option (Option Value × AM) := mD C_Reader_oldName [.ref 23, .ref o1, .int x2] M
noncomputable def C_Reader_meetLine : MC := (1, 3, [(0, 6, 1, mD C_Reader_once), (0, 6, 3, mD C_Reader_oldName)], [(0, [0], [(.aload_n 0, 1, 0, 0), (.invokevirtual 131, 3, 0, 1), (.ifCond .eq 24, 3, 28, 0), (.aload_n 0, 1, 0, 0), (.aload_n 0, 1, 0, 0), (.getfield 41, 3, 6, 3), (.getfield 109, 3, 5, 0), (.aload_n 0, 1, 0, 0), (.getfield 41, 3, 6, 3), (.getfield 102, 3, 5, 11), (.invokevirtual 134, 3, 1, 1), (.ifCond .ne 5, 3, 30, 0)]),
  (28, [], [(.iconst 0, 1, 0, 0), (.ireturn, 1, 0, 0)]),
  (30, [0], [(.aload_n 0, 1, 0, 0), (.getfield 41, 3, 6, 3), (.aload_n 0, 1, 0, 0), (.getfield 25, 3, 6, 6), (.putfield 137, 3, 5, 16), (.iconst 1, 1, 0, 0), (.ireturn, 1, 0, 0)])], none)
noncomputable def Reader_meetLine (M : AM) : Option (Option Value × AM) := mD C_Reader_meetLine [.ref 23] M
noncomputable def C_Reader_sourceLine : MC := (1, 3, [(0, 6, 3, mD C_Reader_room), (0, 6, 3, mD C_Reader_newName), (0, 6, 3, mD C_Reader_oldName)], [(0, [0], [(.aload_n 0, 1, 0, 0), (.aload_n 0, 1, 0, 0), (.getfield 41, 3, 6, 3), (.getfield 140, 3, 5, 13), (.iconst 3, 1, 0, 0), (.invokevirtual 105, 3, 0, 1), (.ifCond .eq 45, 3, 57, 0), (.aload_n 0, 1, 0, 0), (.aload_n 0, 1, 0, 0), (.getfield 41, 3, 6, 3), (.getfield 143, 3, 5, 3), (.aload_n 0, 1, 0, 0), (.getfield 41, 3, 6, 3), (.getfield 140, 3, 5, 13), (.invokevirtual 112, 3, 1, 1), (.ifCond .eq 24, 3, 57, 0), (.aload_n 0, 1, 0, 0), (.aload_n 0, 1, 0, 0), (.getfield 41, 3, 6, 3), (.getfield 109, 3, 5, 0), (.aload_n 0, 1, 0, 0), (.getfield 41, 3, 6, 3), (.getfield 102, 3, 5, 11), (.invokevirtual 134, 3, 2, 1), (.ifCond .ne 5, 3, 59, 0)]),
  (57, [], [(.iconst 0, 1, 0, 0), (.ireturn, 1, 0, 0)]),
  (59, [0], [(.aload_n 0, 1, 0, 0), (.getfield 41, 3, 6, 3), (.getfield 146, 3, 5, 4), (.aload_n 0, 1, 0, 0), (.getfield 41, 3, 6, 3), (.getfield 140, 3, 5, 13), (.aload_n 0, 1, 0, 0), (.getfield 25, 3, 6, 6), (.iastore, 1, 0, 0), (.aload_n 0, 1, 0, 0), (.getfield 41, 3, 6, 3), (.dup, 1, 0, 0), (.getfield 140, 3, 5, 13), (.iconst 1, 1, 0, 0), (.iadd, 1, 0, 0), (.putfield 140, 3, 5, 13), (.iconst 1, 1, 0, 0), (.ireturn, 1, 0, 0)])], none)
noncomputable def Reader_sourceLine (M : AM) : Option (Option Value × AM) := mD C_Reader_sourceLine [.ref 23] M
noncomputable def C_Reader_oldLink : MC := (1, 3, [(0, 6, 2, mD C_Reader_fail), (0, 6, 3, mD C_Reader_number)], [(0, [0], [(.aload_n 0, 1, 0, 0), (.getfield 37, 3, 6, 0), (.getfield 56, 3, 8, 9), (.bipush 27, 2, 0, 0), (.if_icmp .ne 38, 3, 47, 0), (.aload_n 0, 1, 0, 0), (.getfield 37, 3, 6, 0), (.getfield 95, 3, 8, 11), (.bipush 8, 2, 0, 0), (.if_icmp .ge 26, 3, 47, 0), (.aload_n 0, 1, 0, 0), (.getfield 37, 3, 6, 0), (.getfield 95, 3, 8, 11), (.aload_n 0, 1, 0, 0), (.getfield 41, 3, 6, 3), (.getfield 116, 3, 5, 12), (.if_icmp .lt 9, 3, 47, 0), (.aload_n 0, 1, 0, 0), (.iconst 4, 1, 0, 0), (.invokevirtual 84, 3, 0, 1), (.ireturn, 1, 0, 0)]),
  (47, [0], [(.aload_n 0, 1, 0, 0), (.iconst 0, 1, 0, 0), (.bipush 7, 2, 0, 0), (.invokevirtual 119, 3, 1, 1), (.ireturn, 1, 0, 0)])], none)
noncomputable def Reader_oldLink (M : AM) : Option (Option Value × AM) := mD C_Reader_oldLink [.ref 23] M
noncomputable def Reader_oldLink_47 (M : AM) : Option (Option Value × AM) := it C_Reader_oldLink 47 [(0, .ref 23)] [] M
noncomputable def C_Reader_eventLine : MC := (4, 3, [(0, 6, 3, mD C_Reader_room), (0, 6, 3, mD C_Reader_oldName), (0, 6, 1, mD C_Reader_oldLink), (0, 6, 3, mD C_Reader_number)], [(0, [0], [(.aload_n 0, 1, 0, 0), (.getfield 37, 3, 6, 0), (.getfield 56, 3, 8, 9), (.istore_n 1, 1, 0, 0), (.aload_n 0, 1, 0, 0), (.aload_n 0, 1, 0, 0), (.getfield 41, 3, 6, 3), (.getfield 149, 3, 5, 14), (.bipush 16, 2, 0, 0), (.invokevirtual 105, 3, 0, 1), (.ifCond .ne 5, 3, 26, 0), (.iconst 0, 1, 0, 0), (.ireturn, 1, 0, 0)]),
  (26, [0, 1], [(.iload_n 1, 1, 0, 0), (.iconst 4, 1, 0, 0), (.if_icmp .eq 8, 3, 36, 0), (.iload_n 1, 1, 0, 0), (.iconst 5, 1, 0, 0), (.if_icmp .ne 7, 3, 40, 0)]),
  (36, [0, 1], [(.iconst 1, 1, 0, 0), (.goto 4, 3, 41, 0)]),
  (40, [0, 1], [(.iconst 0, 1, 0, 0)]),
  (41, [0, 1], [(.istore_n 2, 1, 0, 0), (.iload_n 2, 1, 0, 0), (.ifCond .eq 27, 3, 70, 0), (.aload_n 0, 1, 0, 0), (.aload_n 0, 1, 0, 0), (.getfield 41, 3, 6, 3), (.getfield 109, 3, 5, 0), (.aload_n 0, 1, 0, 0), (.getfield 41, 3, 6, 3), (.getfield 102, 3, 5, 11), (.invokevirtual 134, 3, 1, 1), (.ifCond .ne 15, 3, 79, 0), (.goto 10, 3, 77, 0)]),
  (70, [0, 1], [(.aload_n 0, 1, 0, 0), (.invokevirtual 152, 3, 2, 1), (.ifCond .ne 5, 3, 79, 0)]),
  (77, [], [(.iconst 0, 1, 0, 0), (.ireturn, 1, 0, 0)]),
  (79, [0, 1], [(.aload_n 0, 1, 0, 0), (.getfield 25, 3, 6, 6), (.istore_n 3, 1, 0, 0), (.aload_n 0, 1, 0, 0), (.iconst 0, 1, 0, 0), (.bipush 99, 2, 0, 0), (.invokevirtual 119, 3, 3, 1), (.ifCond .ne 5, 3, 96, 0), (.iconst 0, 1, 0, 0), (.ireturn, 1, 0, 0)]),
  (96, [0, 1, 3], [(.aload_n 0, 1, 0, 0), (.getfield 41, 3, 6, 3), (.getfield 155, 3, 5, 5), (.aload_n 0, 1, 0, 0), (.getfield 41, 3, 6, 3), (.getfield 149, 3, 5, 14), (.iload_n 1, 1, 0, 0), (.iastore, 1, 0, 0), (.aload_n 0, 1, 0, 0), (.getfield 41, 3, 6, 3), (.getfield 158, 3, 5, 6), (.aload_n 0, 1, 0, 0), (.getfield 41, 3, 6, 3), (.getfield 149, 3, 5, 14), (.iload_n 3, 1, 0, 0), (.iastore, 1, 0, 0), (.aload_n 0, 1, 0, 0), (.getfield 41, 3, 6, 3), (.getfield 161, 3, 5, 7), (.aload_n 0, 1, 0, 0), (.getfield 41, 3, 6, 3), (.getfield 149, 3, 5, 14), (.aload_n 0, 1, 0, 0), (.getfield 25, 3, 6, 6), (.iastore, 1, 0, 0), (.aload_n 0, 1, 0, 0), (.getfield 41, 3, 6, 3), (.dup, 1, 0, 0), (.getfield 149, 3, 5, 14), (.iconst 1, 1, 0, 0), (.iadd, 1, 0, 0), (.putfield 149, 3, 5, 14), (.iconst 1, 1, 0, 0), (.ireturn, 1, 0, 0)])], none)
noncomputable def Reader_eventLine (M : AM) : Option (Option Value × AM) := mD C_Reader_eventLine [.ref 23] M
noncomputable def Reader_eventLine_41 (x1 : Int32) (z0 : Int32) (M : AM) : Option (Option Value × AM) := it C_Reader_eventLine 41 [(0, .ref 23), (1, .int x1)] [.int z0] M
noncomputable def Reader_eventLine_79 (x1 : Int32) (M : AM) : Option (Option Value × AM) := it C_Reader_eventLine 79 [(0, .ref 23), (1, .int x1)] [] M
noncomputable def C_Reader_sendLine : MC := (2, 3, [(0, 6, 3, mD C_Reader_room), (0, 6, 3, mD C_Reader_oldName), (0, 6, 3, mD C_Reader_number)], [(0, [0], [(.aload_n 0, 1, 0, 0), (.aload_n 0, 1, 0, 0), (.getfield 41, 3, 6, 3), (.getfield 164, 3, 5, 15), (.bipush 14, 2, 0, 0), (.invokevirtual 105, 3, 0, 1), (.ifCond .eq 24, 3, 37, 0), (.aload_n 0, 1, 0, 0), (.aload_n 0, 1, 0, 0), (.getfield 41, 3, 6, 3), (.getfield 143, 3, 5, 3), (.aload_n 0, 1, 0, 0), (.getfield 41, 3, 6, 3), (.getfield 140, 3, 5, 13), (.invokevirtual 134, 3, 1, 1), (.ifCond .ne 5, 3, 39, 0)]),
  (37, [], [(.iconst 0, 1, 0, 0), (.ireturn, 1, 0, 0)]),
  (39, [0], [(.aload_n 0, 1, 0, 0), (.getfield 25, 3, 6, 6), (.istore_n 1, 1, 0, 0), (.aload_n 0, 1, 0, 0), (.iconst 0, 1, 0, 0), (.bipush 99, 2, 0, 0), (.invokevirtual 119, 3, 2, 1), (.ifCond .ne 5, 3, 56, 0), (.iconst 0, 1, 0, 0), (.ireturn, 1, 0, 0)]),
  (56, [0, 1], [(.aload_n 0, 1, 0, 0), (.getfield 41, 3, 6, 3), (.getfield 167, 3, 5, 8), (.aload_n 0, 1, 0, 0), (.getfield 41, 3, 6, 3), (.getfield 164, 3, 5, 15), (.iload_n 1, 1, 0, 0), (.iastore, 1, 0, 0), (.aload_n 0, 1, 0, 0), (.getfield 41, 3, 6, 3), (.getfield 170, 3, 5, 9), (.aload_n 0, 1, 0, 0), (.getfield 41, 3, 6, 3), (.getfield 164, 3, 5, 15), (.aload_n 0, 1, 0, 0), (.getfield 25, 3, 6, 6), (.iastore, 1, 0, 0), (.aload_n 0, 1, 0, 0), (.getfield 41, 3, 6, 3), (.dup, 1, 0, 0), (.getfield 164, 3, 5, 15), (.iconst 1, 1, 0, 0), (.iadd, 1, 0, 0), (.putfield 164, 3, 5, 15), (.iconst 1, 1, 0, 0), (.ireturn, 1, 0, 0)])], none)
noncomputable def Reader_sendLine (M : AM) : Option (Option Value × AM) := mD C_Reader_sendLine [.ref 23] M
noncomputable def C_Reader_numberLine : MC := (3, 3, [(0, 6, 1, mD C_Reader_once), (0, 6, 3, mD C_Reader_number)], [(0, [0], [(.aload_n 0, 1, 0, 0), (.getfield 37, 3, 6, 0), (.getfield 56, 3, 8, 9), (.istore_n 1, 1, 0, 0), (.iload_n 1, 1, 0, 0), (.bipush 9, 2, 0, 0), (.if_icmp .ne 8, 3, 19, 0), (.bipush 20, 2, 0, 0), (.goto 16, 3, 32, 0)]),
  (19, [0, 1], [(.iload_n 1, 1, 0, 0), (.bipush 10, 2, 0, 0), (.if_icmp .ne 8, 3, 30, 0), (.bipush 100, 2, 0, 0), (.goto 5, 3, 32, 0)]),
  (30, [0, 1], [(.ldc 173, 2, 99999, 0)]),
  (32, [0, 1], [(.istore_n 2, 1, 0, 0), (.aload_n 0, 1, 0, 0), (.invokevirtual 131, 3, 0, 1), (.ifCond .eq 22, 3, 59, 0), (.aload_n 0, 1, 0, 0), (.iload_n 1, 1, 0, 0), (.bipush 9, 2, 0, 0), (.if_icmp .ne 7, 3, 51, 0), (.iconst 1, 1, 0, 0), (.goto 4, 3, 52, 0)]),
  (51, [0, 1, 2], [(.iconst 0, 1, 0, 0)]),
  (52, [0, 1, 2], [(.iload_n 2, 1, 0, 0), (.invokevirtual 119, 3, 1, 1), (.ifCond .ne 5, 3, 61, 0)]),
  (59, [], [(.iconst 0, 1, 0, 0), (.ireturn, 1, 0, 0)]),
  (61, [0, 1], [(.iload_n 1, 1, 0, 0), (.lookupswitch 54 #[(9, 26), (10, 40)], 26, 0, 0)]),
  (88, [0], [(.aload_n 0, 1, 0, 0), (.getfield 41, 3, 6, 3), (.aload_n 0, 1, 0, 0), (.getfield 25, 3, 6, 6), (.putfield 174, 3, 5, 17), (.goto 28, 3, 127, 0)]),
  (102, [0], [(.aload_n 0, 1, 0, 0), (.getfield 41, 3, 6, 3), (.aload_n 0, 1, 0, 0), (.getfield 25, 3, 6, 6), (.putfield 177, 3, 5, 18), (.goto 14, 3, 127, 0)]),
  (116, [0], [(.aload_n 0, 1, 0, 0), (.getfield 41, 3, 6, 3), (.aload_n 0, 1, 0, 0), (.getfield 25, 3, 6, 6), (.putfield 180, 3, 5, 19)]),
  (127, [], [(.iconst 1, 1, 0, 0), (.ireturn, 1, 0, 0)])], none)
noncomputable def Reader_numberLine (M : AM) : Option (Option Value × AM) := mD C_Reader_numberLine [.ref 23] M
noncomputable def Reader_numberLine_32 (x1 : Int32) (z0 : Int32) (M : AM) : Option (Option Value × AM) := it C_Reader_numberLine 32 [(0, .ref 23), (1, .int x1)] [.int z0] M
noncomputable def Reader_numberLine_52 (x1 : Int32) (x2 : Int32) (z1 : Int32) (M : AM) : Option (Option Value × AM) := it C_Reader_numberLine 52 [(0, .ref 23), (1, .int x1), (2, .int x2)] [.int z1, .ref 23] M
noncomputable def C_Reader_rank : MC := (1, 1, [], [(0, [0], [(.iload_n 0, 1, 0, 0), (.tableswitch 128 16 40 #[115, 117, 119, 128, 128, 128, 128, 128, 128, 128, 128, 128, 128, 128, 128, 123, 123, 125, 125, 121, 121, 121, 121, 121, 121], 115, 0, 0)]),
  (116, [], [(.iconst 1, 1, 0, 0), (.ireturn, 1, 0, 0)]),
  (118, [], [(.iconst 2, 1, 0, 0), (.ireturn, 1, 0, 0)]),
  (120, [], [(.iconst 3, 1, 0, 0), (.ireturn, 1, 0, 0)]),
  (122, [], [(.iconst 4, 1, 0, 0), (.ireturn, 1, 0, 0)]),
  (124, [], [(.iconst 5, 1, 0, 0), (.ireturn, 1, 0, 0)]),
  (126, [], [(.bipush 6, 2, 0, 0), (.ireturn, 1, 0, 0)]),
  (129, [], [(.iconst 0, 1, 0, 0), (.ireturn, 1, 0, 0)])], none)
noncomputable def Reader_rank (x0 : Int32) (M : AM) : Option (Option Value × AM) := mD C_Reader_rank [.int x0] M
noncomputable def Reader_rank_129 (M : AM) : Option (Option Value × AM) := it C_Reader_rank 129 [] [] M
noncomputable def C_Reader_push : MC := (2, 3, [(0, 6, 2, mD C_Reader_fail), (1, 0, 1, mD C_Reader_rank), (0, 8, 1, mD C_Tokens_step)], [(0, [0, 1], [(.aload_n 0, 1, 0, 0), (.getfield 18, 3, 6, 4), (.aload_n 0, 1, 0, 0), (.getfield 9, 3, 6, 1), (.arraylength, 1, 0, 0), (.if_icmp .lt 9, 3, 18, 0), (.aload_n 0, 1, 0, 0), (.iconst 2, 1, 0, 0), (.invokevirtual 84, 3, 0, 1), (.ireturn, 1, 0, 0)]),
  (18, [0, 1], [(.aload_n 0, 1, 0, 0), (.getfield 9, 3, 6, 1), (.aload_n 0, 1, 0, 0), (.getfield 18, 3, 6, 4), (.iload_n 1, 1, 0, 0), (.iastore, 1, 0, 0), (.aload_n 0, 1, 0, 0), (.getfield 15, 3, 6, 2), (.aload_n 0, 1, 0, 0), (.getfield 18, 3, 6, 4), (.iload_n 1, 1, 0, 0), (.invokestatic 223, 3, 1, 1), (.iastore, 1, 0, 0), (.aload_n 0, 1, 0, 0), (.dup, 1, 0, 0), (.getfield 18, 3, 6, 4), (.iconst 1, 1, 0, 0), (.iadd, 1, 0, 0), (.putfield 18, 3, 6, 4), (.aload_n 0, 1, 0, 0), (.getfield 37, 3, 6, 0), (.invokevirtual 92, 3, 2, 1), (.ireturn, 1, 0, 0)])], none)
noncomputable def Reader_push (x1 : Int32) (M : AM) : Option (Option Value × AM) := mD C_Reader_push [.ref 23, .int x1] M
noncomputable def C_Reader_topRank : MC := (1, 1, [], [(0, [0], [(.aload_n 0, 1, 0, 0), (.getfield 18, 3, 6, 4), (.ifCond .ne 7, 3, 11, 0), (.iconst 0, 1, 0, 0), (.goto 14, 3, 22, 0)]),
  (11, [0], [(.aload_n 0, 1, 0, 0), (.getfield 15, 3, 6, 2), (.aload_n 0, 1, 0, 0), (.getfield 18, 3, 6, 4), (.iconst 1, 1, 0, 0), (.isub, 1, 0, 0), (.iaload, 1, 0, 0)]),
  (22, [], [(.ireturn, 1, 0, 0)])], none)
noncomputable def Reader_topRank (M : AM) : Option (Option Value × AM) := mD C_Reader_topRank [.ref 23] M
noncomputable def C_Reader_knot : MC := (1, 3, [(0, 6, 2, mD C_Reader_fail)], [(0, [0], [(.aload_n 0, 1, 0, 0), (.getfield 41, 3, 6, 3), (.getfield 183, 3, 5, 10), (.getfield 227, 3, 1, 4), (.bipush 64, 2, 0, 0), (.if_icmp .lt 9, 3, 21, 0), (.aload_n 0, 1, 0, 0), (.iconst 2, 1, 0, 0), (.invokevirtual 84, 3, 0, 1), (.ireturn, 1, 0, 0)]),
  (21, [0], [(.aload_n 0, 1, 0, 0), (.getfield 41, 3, 6, 3), (.getfield 183, 3, 5, 10), (.dup, 1, 0, 0), (.getfield 227, 3, 1, 4), (.iconst 1, 1, 0, 0), (.iadd, 1, 0, 0), (.putfield 227, 3, 1, 4), (.iconst 1, 1, 0, 0), (.ireturn, 1, 0, 0)])], none)
noncomputable def Reader_knot (M : AM) : Option (Option Value × AM) := mD C_Reader_knot [.ref 23] M
noncomputable def C_Laws_emit : MC := (3, 0, [], [(0, [0, 1, 2], [(.aload_n 0, 1, 0, 0), (.getfield 28, 3, 1, 5), (.bipush 64, 2, 0, 0), (.if_icmp .ge 33, 3, 39, 0), (.aload_n 0, 1, 0, 0), (.getfield 9, 3, 1, 0), (.aload_n 0, 1, 0, 0), (.getfield 28, 3, 1, 5), (.iload_n 1, 1, 0, 0), (.iastore, 1, 0, 0), (.aload_n 0, 1, 0, 0), (.getfield 15, 3, 1, 1), (.aload_n 0, 1, 0, 0), (.getfield 28, 3, 1, 5), (.iload_n 2, 1, 0, 0), (.iastore, 1, 0, 0), (.aload_n 0, 1, 0, 0), (.dup, 1, 0, 0), (.getfield 28, 3, 1, 5), (.iconst 1, 1, 0, 0), (.iadd, 1, 0, 0), (.putfield 28, 3, 1, 5)]),
  (39, [], [(.return_, 1, 0, 0)])], none)
noncomputable def Laws_emit (o0 : Nat) (x1 : Int32) (x2 : Int32) (M : AM) : Option (Option Value × AM) := mD C_Laws_emit [.ref o0, .int x1, .int x2] M
noncomputable def C_Reader_side : MC := (2, 3, [(0, 6, 2, mD C_Reader_push), (0, 6, 1, mD C_Reader_topRank), (0, 6, 1, mD C_Reader_knot), (0, 6, 2, mD C_Reader_fail), (0, 1, 3, mD C_Laws_emit), (0, 8, 1, mD C_Tokens_step)], [(0, [0], [(.aload_n 0, 1, 0, 0), (.getfield 37, 3, 6, 0), (.getfield 56, 3, 8, 9), (.istore_n 1, 1, 0, 0), (.iload_n 1, 1, 0, 0), (.bipush 29, 2, 0, 0), (.if_icmp .ne 10, 3, 21, 0), (.aload_n 0, 1, 0, 0), (.bipush 29, 2, 0, 0), (.invokevirtual 209, 3, 0, 1), (.ireturn, 1, 0, 0)]),
  (21, [0, 1], [(.iload_n 1, 1, 0, 0), (.bipush 18, 2, 0, 0), (.if_icmp .ne 41, 3, 65, 0), (.aload_n 0, 1, 0, 0), (.invokevirtual 212, 3, 1, 1), (.iconst 4, 1, 0, 0), (.if_icmp .ge 27, 3, 59, 0), (.aload_n 0, 1, 0, 0), (.invokevirtual 216, 3, 2, 1), (.ifCond .eq 16, 3, 55, 0), (.aload_n 0, 1, 0, 0), (.bipush 18, 2, 0, 0), (.invokevirtual 209, 3, 0, 1), (.ifCond .eq 7, 3, 55, 0), (.iconst 1, 1, 0, 0), (.goto 12, 3, 64, 0)]),
  (55, [], [(.iconst 0, 1, 0, 0), (.goto 8, 3, 64, 0)]),
  (59, [0], [(.aload_n 0, 1, 0, 0), (.iconst 1, 1, 0, 0), (.invokevirtual 84, 3, 3, 1)]),
  (64, [], [(.ireturn, 1, 0, 0)]),
  (65, [0, 1], [(.iload_n 1, 1, 0, 0), (.bipush 27, 2, 0, 0), (.if_icmp .eq 21, 3, 89, 0), (.iload_n 1, 1, 0, 0), (.bipush 19, 2, 0, 0), (.if_icmp .lt 9, 3, 83, 0), (.iload_n 1, 1, 0, 0), (.bipush 25, 2, 0, 0), (.if_icmp .le 9, 3, 89, 0)]),
  (83, [0], [(.aload_n 0, 1, 0, 0), (.iconst 1, 1, 0, 0), (.invokevirtual 84, 3, 3, 1), (.ireturn, 1, 0, 0)]),
  (89, [0, 1], [(.iload_n 1, 1, 0, 0), (.bipush 27, 2, 0, 0), (.if_icmp .ne 16, 3, 108, 0), (.aload_n 0, 1, 0, 0), (.getfield 37, 3, 6, 0), (.getfield 95, 3, 8, 11), (.sipush 9999, 3, 0, 0), (.if_icmp .gt 10, 3, 115, 0)]),
  (108, [0, 1], [(.aload_n 0, 1, 0, 0), (.invokevirtual 216, 3, 2, 1), (.ifCond .ne 9, 3, 121, 0)]),
  (115, [0], [(.aload_n 0, 1, 0, 0), (.iconst 2, 1, 0, 0), (.invokevirtual 84, 3, 3, 1), (.ireturn, 1, 0, 0)]),
  (121, [0, 1], [(.aload_n 0, 1, 0, 0), (.getfield 41, 3, 6, 3), (.getfield 183, 3, 5, 10), (.iload_n 1, 1, 0, 0), (.aload_n 0, 1, 0, 0), (.getfield 37, 3, 6, 0), (.getfield 95, 3, 8, 11), (.invokevirtual 219, 3, 4, 0), (.aload_n 0, 1, 0, 0), (.getfield 37, 3, 6, 0), (.invokevirtual 92, 3, 5, 1), (.ireturn, 1, 0, 0)])], none)
noncomputable def Reader_side (M : AM) : Option (Option Value × AM) := mD C_Reader_side [.ref 23] M
noncomputable def Reader_side_89 (x1 : Int32) (M : AM) : Option (Option Value × AM) := it C_Reader_side 89 [(0, .ref 23), (1, .int x1)] [] M
noncomputable def Reader_side_108 (x1 : Int32) (M : AM) : Option (Option Value × AM) := it C_Reader_side 108 [(0, .ref 23), (1, .int x1)] [] M
noncomputable def C_Reader_release : MC := (2, 0, [(0, 1, 3, mD C_Laws_emit)], [(0, [0, 1], [(.aload_n 0, 1, 0, 0), (.getfield 18, 3, 6, 4), (.ifCond .le 51, 3, 55, 0), (.aload_n 0, 1, 0, 0), (.getfield 15, 3, 6, 2), (.aload_n 0, 1, 0, 0), (.getfield 18, 3, 6, 4), (.iconst 1, 1, 0, 0), (.isub, 1, 0, 0), (.iaload, 1, 0, 0), (.iload_n 1, 1, 0, 0), (.if_icmp .lt 36, 3, 55, 0), (.aload_n 0, 1, 0, 0), (.dup, 1, 0, 0), (.getfield 18, 3, 6, 4), (.iconst 1, 1, 0, 0), (.isub, 1, 0, 0), (.putfield 18, 3, 6, 4), (.aload_n 0, 1, 0, 0), (.getfield 41, 3, 6, 3), (.getfield 183, 3, 5, 10), (.aload_n 0, 1, 0, 0), (.getfield 9, 3, 6, 1), (.aload_n 0, 1, 0, 0), (.getfield 18, 3, 6, 4), (.iaload, 1, 0, 0), (.iconst 0, 1, 0, 0), (.invokevirtual 219, 3, 0, 0), (.goto (-52), 3, 0, 0)]),
  (55, [], [(.return_, 1, 0, 0)])], none)
noncomputable def Reader_release (x1 : Int32) (M : AM) : Option (Option Value × AM) := mD C_Reader_release [.ref 23, .int x1] M
noncomputable def Reader_release_0 (x1 : Int32) (M : AM) : Option (Option Value × AM) := it C_Reader_release 0 [(0, .ref 23), (1, .int x1)] [] M
noncomputable def C_Reader_sign : MC := (2, 3, [(1, 0, 1, mD C_Reader_rank), (0, 6, 2, mD C_Reader_fail), (0, 6, 2, mD C_Reader_release), (0, 6, 1, mD C_Reader_topRank), (0, 6, 1, mD C_Reader_knot), (0, 6, 2, mD C_Reader_push)], [(0, [0], [(.aload_n 0, 1, 0, 0), (.getfield 37, 3, 6, 0), (.getfield 56, 3, 8, 9), (.invokestatic 223, 3, 0, 1), (.istore_n 1, 1, 0, 0), (.iload_n 1, 1, 0, 0), (.ifCond .eq 15, 3, 27, 0), (.aload_n 0, 1, 0, 0), (.getfield 37, 3, 6, 0), (.getfield 56, 3, 8, 9), (.bipush 18, 2, 0, 0), (.if_icmp .ne 9, 3, 33, 0)]),
  (27, [0], [(.aload_n 0, 1, 0, 0), (.iconst 1, 1, 0, 0), (.invokevirtual 84, 3, 1, 1), (.ireturn, 1, 0, 0)]),
  (33, [0, 1], [(.aload_n 0, 1, 0, 0), (.iload_n 1, 1, 0, 0), (.iconst 4, 1, 0, 0), (.if_icmp .ne 9, 3, 45, 0), (.iload_n 1, 1, 0, 0), (.iconst 1, 1, 0, 0), (.iadd, 1, 0, 0), (.goto 4, 3, 46, 0)]),
  (45, [0, 1], [(.iload_n 1, 1, 0, 0)]),
  (46, [0, 1], [(.invokevirtual 203, 3, 2, 0), (.iload_n 1, 1, 0, 0), (.iconst 4, 1, 0, 0), (.if_icmp .ne 17, 3, 68, 0), (.aload_n 0, 1, 0, 0), (.invokevirtual 212, 3, 3, 1), (.iconst 4, 1, 0, 0), (.if_icmp .ne 9, 3, 68, 0), (.aload_n 0, 1, 0, 0), (.iconst 1, 1, 0, 0), (.invokevirtual 84, 3, 1, 1), (.ireturn, 1, 0, 0)]),
  (68, [0], [(.aload_n 0, 1, 0, 0), (.invokevirtual 216, 3, 4, 1), (.ifCond .eq 21, 3, 93, 0), (.aload_n 0, 1, 0, 0), (.aload_n 0, 1, 0, 0), (.getfield 37, 3, 6, 0), (.getfield 56, 3, 8, 9), (.invokevirtual 209, 3, 5, 1), (.ifCond .eq 7, 3, 93, 0), (.iconst 1, 1, 0, 0), (.goto 4, 3, 94, 0)]),
  (93, [], [(.iconst 0, 1, 0, 0)]),
  (94, [], [(.ireturn, 1, 0, 0)])], none)
noncomputable def Reader_sign (M : AM) : Option (Option Value × AM) := mD C_Reader_sign [.ref 23] M
noncomputable def Reader_sign_46 (x1 : Int32) (z1 : Int32) (M : AM) : Option (Option Value × AM) := it C_Reader_sign 46 [(0, .ref 23), (1, .int x1)] [.int z1, .ref 23] M
noncomputable def Reader_sign_68 (M : AM) : Option (Option Value × AM) := it C_Reader_sign 68 [(0, .ref 23)] [] M
noncomputable def C_Reader_formula : MC := (5, 3, [(0, 6, 2, mD C_Reader_fail), (0, 6, 1, mD C_Reader_side), (0, 6, 2, mD C_Reader_release), (0, 8, 1, mD C_Tokens_step), (0, 6, 1, mD C_Reader_sign)], [(0, [0], [(.aload_n 0, 1, 0, 0), (.iconst 0, 1, 0, 0), (.putfield 18, 3, 6, 4), (.iconst 0, 1, 0, 0), (.istore_n 1, 1, 0, 0), (.iconst 1, 1, 0, 0), (.istore_n 2, 1, 0, 0), (.iconst 0, 1, 0, 0), (.istore_n 3, 1, 0, 0)]),
  (11, [0, 1, 2, 3], [(.iload_n 3, 1, 0, 0), (.sipush 700, 3, 0, 0), (.if_icmp .gt 160, 3, 175, 0), (.aload_n 0, 1, 0, 0), (.getfield 37, 3, 6, 0), (.getfield 56, 3, 8, 9), (.istore 4, 2, 0, 0), (.iload_n 2, 1, 0, 0), (.ifCond .eq 69, 3, 97, 0), (.iload 4, 2, 0, 0), (.bipush 29, 2, 0, 0), (.if_icmp .ne 15, 3, 50, 0), (.iload_n 1, 1, 0, 0), (.bipush 8, 2, 0, 0), (.if_icmp .ne 9, 3, 50, 0), (.aload_n 0, 1, 0, 0), (.iconst 2, 1, 0, 0), (.invokevirtual 84, 3, 0, 1), (.ireturn, 1, 0, 0)]),
  (50, [0, 1, 3, 4], [(.aload_n 0, 1, 0, 0), (.invokevirtual 200, 3, 1, 1), (.ifCond .ne 5, 3, 59, 0), (.iconst 0, 1, 0, 0), (.ireturn, 1, 0, 0)]),
  (59, [0, 1, 3, 4], [(.iload_n 1, 1, 0, 0), (.iload 4, 2, 0, 0), (.bipush 29, 2, 0, 0), (.if_icmp .ne 7, 3, 71, 0), (.iconst 1, 1, 0, 0), (.goto 4, 3, 72, 0)]),
  (71, [0, 3, 4], [(.iconst 0, 1, 0, 0)]),
  (72, [0, 3, 4], [(.iadd, 1, 0, 0), (.istore_n 1, 1, 0, 0), (.iload 4, 2, 0, 0), (.bipush 29, 2, 0, 0), (.if_icmp .eq 10, 3, 88, 0), (.iload 4, 2, 0, 0), (.bipush 18, 2, 0, 0), (.if_icmp .ne 7, 3, 92, 0)]),
  (88, [0, 1, 3], [(.iconst 1, 1, 0, 0), (.goto 4, 3, 93, 0)]),
  (92, [0, 1, 3], [(.iconst 0, 1, 0, 0)]),
  (93, [0, 1, 3], [(.istore_n 2, 1, 0, 0), (.goto 75, 3, 169, 0)]),
  (97, [0, 1, 2, 3, 4], [(.iload 4, 2, 0, 0), (.bipush 30, 2, 0, 0), (.if_icmp .ne 36, 3, 137, 0), (.iload_n 1, 1, 0, 0), (.ifCond .le 32, 3, 137, 0), (.aload_n 0, 1, 0, 0), (.iconst 1, 1, 0, 0), (.invokevirtual 203, 3, 2, 0), (.aload_n 0, 1, 0, 0), (.dup, 1, 0, 0), (.getfield 18, 3, 6, 4), (.iconst 1, 1, 0, 0), (.isub, 1, 0, 0), (.putfield 18, 3, 6, 4), (.iinc 1 (-1), 3, 0, 0), (.aload_n 0, 1, 0, 0), (.getfield 37, 3, 6, 0), (.invokevirtual 92, 3, 3, 1), (.pop, 1, 0, 0), (.goto 35, 3, 169, 0)]),
  (137, [0, 1, 3, 4], [(.iload 4, 2, 0, 0), (.bipush 28, 2, 0, 0), (.if_icmp .ne 14, 3, 155, 0), (.iload_n 1, 1, 0, 0), (.ifCond .ne 10, 3, 155, 0), (.aload_n 0, 1, 0, 0), (.iconst 1, 1, 0, 0), (.invokevirtual 203, 3, 2, 0), (.iconst 1, 1, 0, 0), (.ireturn, 1, 0, 0)]),
  (155, [0, 1, 3], [(.aload_n 0, 1, 0, 0), (.invokevirtual 206, 3, 4, 1), (.ifCond .eq 8, 3, 167, 0), (.iconst 1, 1, 0, 0), (.istore_n 2, 1, 0, 0), (.goto 5, 3, 169, 0)]),
  (167, [], [(.iconst 0, 1, 0, 0), (.ireturn, 1, 0, 0)]),
  (169, [0, 1, 2, 3], [(.iinc 3 1, 3, 0, 0), (.goto (-161), 3, 11, 0)]),
  (175, [0], [(.aload_n 0, 1, 0, 0), (.iconst 2, 1, 0, 0), (.invokevirtual 84, 3, 0, 1), (.ireturn, 1, 0, 0)])], none)
noncomputable def Reader_formula (M : AM) : Option (Option Value × AM) := mD C_Reader_formula [.ref 23] M
noncomputable def Reader_formula_11 (x1 : Int32) (x2 : Int32) (x3 : Int32) (M : AM) : Option (Option Value × AM) := it C_Reader_formula 11 [(0, .ref 23), (1, .int x1), (2, .int x2), (3, .int x3)] [] M
noncomputable def Reader_formula_137 (x1 : Int32) (x3 : Int32) (x4 : Int32) (M : AM) : Option (Option Value × AM) := it C_Reader_formula 137 [(0, .ref 23), (1, .int x1), (3, .int x3), (4, .int x4)] [] M
noncomputable def Reader_formula_50 (x1 : Int32) (x3 : Int32) (x4 : Int32) (M : AM) : Option (Option Value × AM) := it C_Reader_formula 50 [(0, .ref 23), (1, .int x1), (3, .int x3), (4, .int x4)] [] M
noncomputable def Reader_formula_155 (x1 : Int32) (x3 : Int32) (M : AM) : Option (Option Value × AM) := it C_Reader_formula 155 [(0, .ref 23), (1, .int x1), (3, .int x3)] [] M
noncomputable def Reader_formula_72 (x3 : Int32) (x4 : Int32) (z0 : Int32) (z1 : Int32) (M : AM) : Option (Option Value × AM) := it C_Reader_formula 72 [(0, .ref 23), (3, .int x3), (4, .int x4)] [.int z1, .int z0] M
noncomputable def C_Reader_lawLine : MC := (2, 3, [(0, 8, 1, mD C_Tokens_step), (0, 6, 2, mD C_Reader_fail), (0, 6, 1, mD C_Reader_once), (0, 6, 1, mD C_Reader_formula)], [(0, [0], [(.aload_n 0, 1, 0, 0), (.getfield 37, 3, 6, 0), (.invokevirtual 92, 3, 0, 1), (.pop, 1, 0, 0), (.aload_n 0, 1, 0, 0), (.getfield 37, 3, 6, 0), (.getfield 56, 3, 8, 9), (.bipush 13, 2, 0, 0), (.isub, 1, 0, 0), (.istore_n 1, 1, 0, 0), (.iload_n 1, 1, 0, 0), (.ifCond .lt 8, 3, 28, 0), (.iload_n 1, 1, 0, 0), (.iconst 3, 1, 0, 0), (.if_icmp .lt 9, 3, 34, 0)]),
  (28, [0], [(.aload_n 0, 1, 0, 0), (.iconst 1, 1, 0, 0), (.invokevirtual 84, 3, 1, 1), (.ireturn, 1, 0, 0)]),
  (34, [0, 1], [(.aload_n 0, 1, 0, 0), (.invokevirtual 131, 3, 2, 1), (.ifCond .ne 5, 3, 43, 0), (.iconst 0, 1, 0, 0), (.ireturn, 1, 0, 0)]),
  (43, [0, 1], [(.aload_n 0, 1, 0, 0), (.getfield 41, 3, 6, 3), (.getfield 183, 3, 5, 10), (.getfield 187, 3, 1, 2), (.iload_n 1, 1, 0, 0), (.aload_n 0, 1, 0, 0), (.getfield 41, 3, 6, 3), (.getfield 183, 3, 5, 10), (.getfield 191, 3, 1, 5), (.iastore, 1, 0, 0), (.aload_n 0, 1, 0, 0), (.invokevirtual 194, 3, 3, 1), (.ifCond .ne 5, 3, 74, 0), (.iconst 0, 1, 0, 0), (.ireturn, 1, 0, 0)]),
  (74, [0, 1], [(.aload_n 0, 1, 0, 0), (.getfield 41, 3, 6, 3), (.getfield 183, 3, 5, 10), (.getfield 197, 3, 1, 3), (.iload_n 1, 1, 0, 0), (.aload_n 0, 1, 0, 0), (.getfield 41, 3, 6, 3), (.getfield 183, 3, 5, 10), (.getfield 191, 3, 1, 5), (.iastore, 1, 0, 0), (.iconst 1, 1, 0, 0), (.ireturn, 1, 0, 0)])], none)
noncomputable def Reader_lawLine (M : AM) : Option (Option Value × AM) := mD C_Reader_lawLine [.ref 23] M
noncomputable def C_Reader_stops : MC := (1, 3, [(0, 8, 1, mD C_Tokens_step), (0, 6, 2, mD C_Reader_fail)], [(0, [0], [(.aload_n 0, 1, 0, 0), (.getfield 37, 3, 6, 0), (.getfield 56, 3, 8, 9), (.bipush 28, 2, 0, 0), (.if_icmp .ne 13, 3, 22, 0), (.aload_n 0, 1, 0, 0), (.getfield 37, 3, 6, 0), (.invokevirtual 92, 3, 0, 1), (.goto 8, 3, 27, 0)]),
  (22, [0], [(.aload_n 0, 1, 0, 0), (.iconst 1, 1, 0, 0), (.invokevirtual 84, 3, 1, 1)]),
  (27, [], [(.ireturn, 1, 0, 0)])], none)
noncomputable def Reader_stops (M : AM) : Option (Option Value × AM) := mD C_Reader_stops [.ref 23] M
noncomputable def C_Reader_read : MC := (4, 3, [(0, 5, 1, mD C_Plan_clear), (0, 8, 2, mD C_Tokens_begin), (0, 6, 1, mD C_Reader_nodeLine), (0, 6, 1, mD C_Reader_linkLine), (0, 6, 1, mD C_Reader_meetLine), (0, 6, 1, mD C_Reader_sourceLine), (0, 6, 1, mD C_Reader_eventLine), (0, 6, 1, mD C_Reader_sendLine), (0, 6, 1, mD C_Reader_numberLine), (0, 6, 1, mD C_Reader_lawLine), (0, 6, 2, mD C_Reader_fail), (0, 6, 1, mD C_Reader_stops)], [(0, [0, 1, 2], [(.aload_n 0, 1, 0, 0), (.aload_n 1, 1, 0, 0), (.putfield 41, 3, 6, 3), (.aload_n 0, 1, 0, 0), (.getfield 41, 3, 6, 3), (.invokevirtual 45, 3, 0, 0), (.aload_n 0, 1, 0, 0), (.iconst 0, 1, 0, 0), (.putfield 22, 3, 6, 5), (.aload_n 0, 1, 0, 0), (.iconst 0, 1, 0, 0), (.putfield 31, 3, 6, 8), (.aload_n 0, 1, 0, 0), (.iconst (-1), 1, 0, 0), (.putfield 34, 3, 6, 9), (.aload_n 0, 1, 0, 0), (.getfield 37, 3, 6, 0), (.iload_n 2, 1, 0, 0), (.invokevirtual 50, 3, 1, 0), (.iconst 1, 1, 0, 0), (.istore_n 3, 1, 0, 0), (.aload_n 0, 1, 0, 0), (.iconst 0, 1, 0, 0), (.putfield 28, 3, 6, 7)]),
  (42, [0, 3], [(.aload_n 0, 1, 0, 0), (.getfield 28, 3, 6, 7), (.sipush 700, 3, 0, 0), (.if_icmp .gt 191, 3, 240, 0), (.iload_n 3, 1, 0, 0), (.ifCond .eq 187, 3, 240, 0), (.aload_n 0, 1, 0, 0), (.getfield 37, 3, 6, 0), (.getfield 56, 3, 8, 9), (.bipush 41, 2, 0, 0), (.if_icmp .eq 175, 3, 240, 0), (.aload_n 0, 1, 0, 0), (.getfield 37, 3, 6, 0), (.getfield 56, 3, 8, 9), (.tableswitch 129 0 12 #[65, 73, 81, 89, 97, 97, 97, 97, 105, 113, 113, 113, 121], 65, 0, 0)]),
  (140, [0], [(.aload_n 0, 1, 0, 0), (.invokevirtual 59, 3, 2, 1), (.istore_n 3, 1, 0, 0), (.goto 65, 3, 210, 0)]),
  (148, [0], [(.aload_n 0, 1, 0, 0), (.invokevirtual 63, 3, 3, 1), (.istore_n 3, 1, 0, 0), (.goto 57, 3, 210, 0)]),
  (156, [0], [(.aload_n 0, 1, 0, 0), (.invokevirtual 66, 3, 4, 1), (.istore_n 3, 1, 0, 0), (.goto 49, 3, 210, 0)]),
  (164, [0], [(.aload_n 0, 1, 0, 0), (.invokevirtual 69, 3, 5, 1), (.istore_n 3, 1, 0, 0), (.goto 41, 3, 210, 0)]),
  (172, [0], [(.aload_n 0, 1, 0, 0), (.invokevirtual 72, 3, 6, 1), (.istore_n 3, 1, 0, 0), (.goto 33, 3, 210, 0)]),
  (180, [0], [(.aload_n 0, 1, 0, 0), (.invokevirtual 75, 3, 7, 1), (.istore_n 3, 1, 0, 0), (.goto 25, 3, 210, 0)]),
  (188, [0], [(.aload_n 0, 1, 0, 0), (.invokevirtual 78, 3, 8, 1), (.istore_n 3, 1, 0, 0), (.goto 17, 3, 210, 0)]),
  (196, [0], [(.aload_n 0, 1, 0, 0), (.invokevirtual 81, 3, 9, 1), (.istore_n 3, 1, 0, 0), (.goto 9, 3, 210, 0)]),
  (204, [0], [(.aload_n 0, 1, 0, 0), (.iconst 1, 1, 0, 0), (.invokevirtual 84, 3, 10, 1), (.istore_n 3, 1, 0, 0)]),
  (210, [0, 3], [(.iload_n 3, 1, 0, 0), (.ifCond .eq 14, 3, 225, 0), (.aload_n 0, 1, 0, 0), (.invokevirtual 88, 3, 11, 1), (.ifCond .eq 7, 3, 225, 0), (.iconst 1, 1, 0, 0), (.goto 4, 3, 226, 0)]),
  (225, [0], [(.iconst 0, 1, 0, 0)]),
  (226, [0], [(.istore_n 3, 1, 0, 0), (.aload_n 0, 1, 0, 0), (.dup, 1, 0, 0), (.getfield 28, 3, 6, 7), (.iconst 1, 1, 0, 0), (.iadd, 1, 0, 0), (.putfield 28, 3, 6, 7), (.goto (-195), 3, 42, 0)]),
  (240, [3], [(.iload_n 3, 1, 0, 0), (.ireturn, 1, 0, 0)])], none)
noncomputable def Reader_read (o1 : Nat) (x2 : Int32) (M : AM) : Option (Option Value × AM) := mD C_Reader_read [.ref 23, .ref o1, .int x2] M
noncomputable def Reader_read_42 (x3 : Int32) (M : AM) : Option (Option Value × AM) := it C_Reader_read 42 [(0, .ref 23), (3, .int x3)] [] M
noncomputable def Reader_read_210 (x3 : Int32) (M : AM) : Option (Option Value × AM) := it C_Reader_read 210 [(0, .ref 23), (3, .int x3)] [] M
noncomputable def Reader_read_172 (M : AM) : Option (Option Value × AM) := it C_Reader_read 172 [(0, .ref 23)] [] M
noncomputable def Reader_read_188 (M : AM) : Option (Option Value × AM) := it C_Reader_read 188 [(0, .ref 23)] [] M
noncomputable def C_Net_take : MC := (2, 0, [], [(0, [0, 1], [(.aload_n 0, 1, 0, 0), (.aload_n 1, 1, 0, 0), (.putfield 33, 3, 2, 6), (.aload_n 0, 1, 0, 0), (.iconst 0, 1, 0, 0), (.putfield 25, 3, 2, 4), (.return_, 1, 0, 0)])], none)
noncomputable def Net_take (o1 : Nat) (M : AM) : Option (Option Value × AM) := mD C_Net_take [.ref 26, .ref o1] M
noncomputable def C_State_restart : MC := (2, 0, [(1, 0, 2, mD C_Jarr_fill)], [(0, [0, 1], [(.aload_n 0, 1, 0, 0), (.getfield 9, 3, 7, 0), (.iconst 0, 1, 0, 0), (.invokestatic 52, 3, 0, 0), (.aload_n 0, 1, 0, 0), (.getfield 15, 3, 7, 1), (.iconst 0, 1, 0, 0), (.invokestatic 52, 3, 0, 0), (.aload_n 0, 1, 0, 0), (.getfield 18, 3, 7, 2), (.iconst 0, 1, 0, 0), (.invokestatic 52, 3, 0, 0), (.aload_n 0, 1, 0, 0), (.getfield 21, 3, 7, 3), (.iconst 0, 1, 0, 0), (.invokestatic 52, 3, 0, 0), (.aload_n 0, 1, 0, 0), (.getfield 24, 3, 7, 4), (.iconst 0, 1, 0, 0), (.invokestatic 52, 3, 0, 0), (.aload_n 0, 1, 0, 0), (.getfield 27, 3, 7, 5), (.iconst 0, 1, 0, 0), (.invokestatic 52, 3, 0, 0), (.aload_n 0, 1, 0, 0), (.iconst 0, 1, 0, 0), (.putfield 30, 3, 7, 6), (.aload_n 0, 1, 0, 0), (.iconst 0, 1, 0, 0), (.putfield 34, 3, 7, 7), (.aload_n 0, 1, 0, 0), (.iconst 0, 1, 0, 0), (.putfield 37, 3, 7, 8), (.aload_n 0, 1, 0, 0), (.iconst 0, 1, 0, 0), (.putfield 40, 3, 7, 9), (.aload_n 0, 1, 0, 0), (.iconst 0, 1, 0, 0), (.putfield 43, 3, 7, 10), (.aload_n 0, 1, 0, 0), (.iconst 0, 1, 0, 0), (.putfield 46, 3, 7, 11), (.aload_n 0, 1, 0, 0), (.iload_n 1, 1, 0, 0), (.putfield 49, 3, 7, 12), (.return_, 1, 0, 0)])], none)
noncomputable def State_restart (x1 : Int32) (M : AM) : Option (Option Value × AM) := mD C_State_restart [.ref 51, .int x1] M
noncomputable def C_Notes_restart : MC := (1, 0, [], [(0, [0], [(.aload_n 0, 1, 0, 0), (.iconst 0, 1, 0, 0), (.putfield 34, 3, 3, 8), (.aload_n 0, 1, 0, 0), (.iconst (-1), 1, 0, 0), (.putfield 37, 3, 3, 9), (.aload_n 0, 1, 0, 0), (.iconst (-1), 1, 0, 0), (.putfield 30, 3, 3, 7), (.return_, 1, 0, 0)])], none)
noncomputable def Notes_restart (M : AM) : Option (Option Value × AM) := mD C_Notes_restart [.ref 74] M
noncomputable def C_Past_clear : MC := (1, 0, [], [(0, [0], [(.aload_n 0, 1, 0, 0), (.iconst 0, 1, 0, 0), (.putfield 21, 3, 4, 2), (.return_, 1, 0, 0)])], none)
noncomputable def Past_clear (M : AM) : Option (Option Value × AM) := mD C_Past_clear [.ref 72] M
noncomputable def C_GT_text : MC := (4, 1, [(0, 6, 3, mD C_Reader_read), (0, 2, 2, mD C_Net_take), (0, 7, 2, mD C_State_restart), (0, 3, 1, mD C_Notes_restart), (0, 4, 1, mD C_Past_clear)], [(0, [0, 1], [(.iload_n 1, 1, 0, 0), (.ifCond .lt 14, 3, 15, 0), (.iload_n 1, 1, 0, 0), (.aload_n 0, 1, 0, 0), (.getfield 14, 3, 9, 0), (.getfield 94, 3, 8, 8), (.if_icmp .le 6, 3, 18, 0)]),
  (15, [], [(.bipush (-2), 2, 0, 0), (.ireturn, 1, 0, 0)]),
  (18, [0, 1], [(.aload_n 0, 1, 0, 0), (.getfield 30, 3, 9, 2), (.aload_n 0, 1, 0, 0), (.getfield 21, 3, 9, 1), (.iload_n 1, 1, 0, 0), (.invokevirtual 101, 3, 0, 4), (.istore_n 2, 1, 0, 0), (.aload_n 0, 1, 0, 0), (.getfield 14, 3, 9, 0), (.iconst 0, 1, 0, 0), (.putfield 94, 3, 8, 8), (.aload_n 0, 1, 0, 0), (.aload_n 0, 1, 0, 0), (.getfield 30, 3, 9, 2), (.getfield 105, 3, 6, 8), (.putfield 87, 3, 9, 12), (.aload_n 0, 1, 0, 0), (.aload_n 0, 1, 0, 0), (.getfield 30, 3, 9, 2), (.getfield 106, 3, 6, 9), (.putfield 91, 3, 9, 13), (.iload_n 2, 1, 0, 0), (.ifCond .ne 5, 3, 67, 0), (.iconst (-1), 1, 0, 0), (.ireturn, 1, 0, 0)]),
  (67, [0], [(.aload_n 0, 1, 0, 0), (.getfield 39, 3, 9, 3), (.getfield 109, 3, 2, 6), (.astore_n 3, 1, 0, 0), (.aload_n 0, 1, 0, 0), (.getfield 39, 3, 9, 3), (.aload_n 0, 1, 0, 0), (.getfield 21, 3, 9, 1), (.invokevirtual 112, 3, 1, 3), (.aload_n 0, 1, 0, 0), (.aload_n 3, 1, 0, 0), (.putfield 21, 3, 9, 1), (.aload_n 0, 1, 0, 0), (.getfield 55, 3, 9, 5), (.aload_n 0, 1, 0, 0), (.getfield 39, 3, 9, 3), (.getfield 109, 3, 2, 6), (.getfield 115, 3, 5, 19), (.invokevirtual 118, 3, 2, 0), (.aload_n 0, 1, 0, 0), (.getfield 75, 3, 9, 9), (.invokevirtual 121, 3, 3, 0), (.aload_n 0, 1, 0, 0), (.getfield 68, 3, 9, 8), (.invokevirtual 123, 3, 4, 0), (.aload_n 0, 1, 0, 0), (.iconst 0, 1, 0, 0), (.putfield 83, 3, 9, 11), (.aload_n 0, 1, 0, 0), (.getfield 30, 3, 9, 2), (.getfield 126, 3, 6, 7), (.ireturn, 1, 0, 0)])], none)
noncomputable def GT_text (x1 : Int32) (M : AM) : Option (Option Value × AM) := mD C_GT_text [.ref 0, .int x1] M
noncomputable def C_GT_fault : MC := (2, 1, [], [(0, [0, 1], [(.iload_n 1, 1, 0, 0), (.lookupswitch 37 #[(0, 27), (1, 32)], 27, 0, 0)]),
  (28, [0], [(.aload_n 0, 1, 0, 0), (.getfield 87, 3, 9, 12), (.ireturn, 1, 0, 0)]),
  (33, [0], [(.aload_n 0, 1, 0, 0), (.getfield 91, 3, 9, 13), (.ireturn, 1, 0, 0)]),
  (38, [], [(.iconst (-1), 1, 0, 0), (.ireturn, 1, 0, 0)])], none)
noncomputable def GT_fault (x1 : Int32) (M : AM) : Option (Option Value × AM) := mD C_GT_fault [.ref 0, .int x1] M
noncomputable def C_GT_named : MC := (4, 1, [(1, 0, 3, mD C_GT_find)], [(0, [0, 1, 2], [(.aload_n 0, 1, 0, 0), (.getfield 39, 3, 9, 3), (.getfield 109, 3, 2, 6), (.astore_n 3, 1, 0, 0), (.iload_n 1, 1, 0, 0), (.lookupswitch 53 #[(0, 27), (1, 40)], 27, 0, 0)]),
  (36, [2, 3], [(.aload_n 3, 1, 0, 0), (.getfield 129, 3, 5, 0), (.aload_n 3, 1, 0, 0), (.getfield 132, 3, 5, 11), (.iload_n 2, 1, 0, 0), (.invokestatic 135, 3, 0, 1), (.ireturn, 1, 0, 0)]),
  (49, [2, 3], [(.aload_n 3, 1, 0, 0), (.getfield 139, 3, 5, 3), (.aload_n 3, 1, 0, 0), (.getfield 142, 3, 5, 13), (.iload_n 2, 1, 0, 0), (.invokestatic 135, 3, 0, 1), (.ireturn, 1, 0, 0)]),
  (62, [], [(.iconst (-1), 1, 0, 0), (.ireturn, 1, 0, 0)])], none)
noncomputable def GT_named (x1 : Int32) (x2 : Int32) (M : AM) : Option (Option Value × AM) := mD C_GT_named [.ref 0, .int x1, .int x2] M
noncomputable def C_GT_isLink : MC := (2, 3, [], [(0, [0, 1], [(.iload_n 1, 1, 0, 0), (.ifCond .lt 21, 3, 22, 0), (.iload_n 1, 1, 0, 0), (.aload_n 0, 1, 0, 0), (.getfield 39, 3, 9, 3), (.getfield 109, 3, 2, 6), (.getfield 279, 3, 5, 12), (.if_icmp .ge 7, 3, 22, 0), (.iconst 1, 1, 0, 0), (.goto 4, 3, 23, 0)]),
  (22, [], [(.iconst 0, 1, 0, 0)]),
  (23, [], [(.ireturn, 1, 0, 0)])], none)
noncomputable def GT_isLink (x1 : Int32) (M : AM) : Option (Option Value × AM) := mD C_GT_isLink [.ref 0, .int x1] M
noncomputable def C_GT_link : MC := (3, 1, [(0, 9, 2, mD C_GT_isLink)], [(0, [0, 1, 2], [(.aload_n 0, 1, 0, 0), (.iload_n 1, 1, 0, 0), (.invokevirtual 177, 3, 0, 1), (.ifCond .ne 5, 3, 10, 0), (.iconst (-1), 1, 0, 0), (.ireturn, 1, 0, 0)]),
  (10, [0, 1, 2], [(.iload_n 2, 1, 0, 0), (.tableswitch 63 0 2 #[25, 38, 51], 25, 0, 0)]),
  (36, [0, 1], [(.aload_n 0, 1, 0, 0), (.getfield 39, 3, 9, 3), (.getfield 109, 3, 2, 6), (.getfield 180, 3, 5, 1), (.iload_n 1, 1, 0, 0), (.iaload, 1, 0, 0), (.ireturn, 1, 0, 0)]),
  (49, [0, 1], [(.aload_n 0, 1, 0, 0), (.getfield 39, 3, 9, 3), (.getfield 109, 3, 2, 6), (.getfield 183, 3, 5, 2), (.iload_n 1, 1, 0, 0), (.iaload, 1, 0, 0), (.ireturn, 1, 0, 0)]),
  (62, [0, 1], [(.aload_n 0, 1, 0, 0), (.getfield 55, 3, 9, 5), (.getfield 186, 3, 7, 8), (.iload_n 1, 1, 0, 0), (.ishr, 1, 0, 0), (.iconst 1, 1, 0, 0), (.iand, 1, 0, 0), (.ireturn, 1, 0, 0)]),
  (74, [], [(.iconst (-1), 1, 0, 0), (.ireturn, 1, 0, 0)])], none)
noncomputable def GT_link (x1 : Int32) (x2 : Int32) (M : AM) : Option (Option Value × AM) := mD C_GT_link [.ref 0, .int x1, .int x2] M
noncomputable def C_GT_isTree : MC := (2, 3, [], [(0, [0, 1], [(.iload_n 1, 1, 0, 0), (.ifCond .lt 21, 3, 22, 0), (.iload_n 1, 1, 0, 0), (.aload_n 0, 1, 0, 0), (.getfield 39, 3, 9, 3), (.getfield 109, 3, 2, 6), (.getfield 142, 3, 5, 13), (.if_icmp .gt 7, 3, 22, 0), (.iconst 1, 1, 0, 0), (.goto 4, 3, 23, 0)]),
  (22, [], [(.iconst 0, 1, 0, 0)]),
  (23, [], [(.ireturn, 1, 0, 0)])], none)
noncomputable def GT_isTree (x1 : Int32) (M : AM) : Option (Option Value × AM) := mD C_GT_isTree [.ref 0, .int x1] M
noncomputable def C_GT_isNode : MC := (2, 3, [], [(0, [0, 1], [(.iload_n 1, 1, 0, 0), (.ifCond .lt 21, 3, 22, 0), (.iload_n 1, 1, 0, 0), (.aload_n 0, 1, 0, 0), (.getfield 39, 3, 9, 3), (.getfield 109, 3, 2, 6), (.getfield 132, 3, 5, 11), (.if_icmp .ge 7, 3, 22, 0), (.iconst 1, 1, 0, 0), (.goto 4, 3, 23, 0)]),
  (22, [], [(.iconst 0, 1, 0, 0)]),
  (23, [], [(.ireturn, 1, 0, 0)])], none)
noncomputable def GT_isNode (x1 : Int32) (M : AM) : Option (Option Value × AM) := mD C_GT_isNode [.ref 0, .int x1] M
noncomputable def C_Plan_root : MC := (2, 1, [], [(0, [0, 1], [(.aload_n 0, 1, 0, 0), (.getfield 49, 3, 5, 11), (.ifCond .ne 5, 3, 9, 0), (.iconst (-1), 1, 0, 0), (.ireturn, 1, 0, 0)]),
  (9, [0, 1], [(.iload_n 1, 1, 0, 0), (.ifCond .ne 10, 3, 20, 0), (.aload_n 0, 1, 0, 0), (.getfield 65, 3, 5, 16), (.goto 11, 3, 28, 0)]),
  (20, [0, 1], [(.aload_n 0, 1, 0, 0), (.getfield 24, 3, 5, 4), (.iload_n 1, 1, 0, 0), (.iconst 1, 1, 0, 0), (.isub, 1, 0, 0), (.iaload, 1, 0, 0)]),
  (28, [], [(.ireturn, 1, 0, 0)])], none)
noncomputable def Plan_root (o0 : Nat) (x1 : Int32) (M : AM) : Option (Option Value × AM) := mD C_Plan_root [.ref o0, .int x1] M
noncomputable def C_Plan_relax : MC := (8, 3, [(3, 0, 0, fun _ _ => none)], [(0, [0, 1, 2, 3, 4], [(.bipush 99, 2, 0, 0), (.istore 5, 2, 0, 0), (.iconst 0, 1, 0, 0), (.istore 6, 2, 0, 0)]),
  (7, [0, 1, 2, 3, 4, 5, 6], [(.iload 6, 2, 0, 0), (.aload_n 0, 1, 0, 0), (.getfield 49, 3, 5, 11), (.if_icmp .ge 32, 3, 45, 0), (.iload_n 1, 1, 0, 0), (.iload 6, 2, 0, 0), (.ishr, 1, 0, 0), (.iconst 1, 1, 0, 0), (.iand, 1, 0, 0), (.ifCond .eq 17, 3, 39, 0), (.iload 5, 2, 0, 0), (.aload_n 3, 1, 0, 0), (.iload 4, 2, 0, 0), (.iload 6, 2, 0, 0), (.iadd, 1, 0, 0), (.iaload, 1, 0, 0), (.invokestatic 84, 3, 0, 0), (.istore 5, 2, 0, 0)]),
  (39, [0, 1, 2, 3, 4, 5, 6], [(.iinc 6 1, 3, 0, 0), (.goto (-35), 3, 7, 0)]),
  (45, [0, 1, 2, 3, 4, 5], [(.iconst 0, 1, 0, 0), (.istore 6, 2, 0, 0), (.iconst 0, 1, 0, 0), (.istore 7, 2, 0, 0)]),
  (51, [0, 1, 2, 3, 4, 5, 6, 7], [(.iload 7, 2, 0, 0), (.aload_n 0, 1, 0, 0), (.getfield 49, 3, 5, 11), (.if_icmp .ge 46, 3, 103, 0), (.iload_n 1, 1, 0, 0), (.iload 7, 2, 0, 0), (.ishr, 1, 0, 0), (.iconst 1, 1, 0, 0), (.iand, 1, 0, 0), (.ifCond .eq 31, 3, 97, 0), (.iload 5, 2, 0, 0), (.iload_n 2, 1, 0, 0), (.iadd, 1, 0, 0), (.aload_n 3, 1, 0, 0), (.iload 4, 2, 0, 0), (.iload 7, 2, 0, 0), (.iadd, 1, 0, 0), (.iaload, 1, 0, 0), (.if_icmp .ge 17, 3, 97, 0), (.aload_n 3, 1, 0, 0), (.iload 4, 2, 0, 0), (.iload 7, 2, 0, 0), (.iadd, 1, 0, 0), (.iload 5, 2, 0, 0), (.iload_n 2, 1, 0, 0), (.iadd, 1, 0, 0), (.iastore, 1, 0, 0), (.iconst 1, 1, 0, 0), (.istore 6, 2, 0, 0)]),
  (97, [0, 1, 2, 3, 4, 5, 6, 7], [(.iinc 7 1, 3, 0, 0), (.goto (-49), 3, 51, 0)]),
  (103, [6], [(.iload 6, 2, 0, 0), (.ireturn, 1, 0, 0)])], none)
noncomputable def Plan_relax (o0 : Nat) (x1 : Int32) (x2 : Int32) (o3 : Nat) (x4 : Int32) (M : AM) : Option (Option Value × AM) := mD C_Plan_relax [.ref o0, .int x1, .int x2, .ref o3, .int x4] M
noncomputable def Plan_relax_7 (o0 : Nat) (x1 : Int32) (x2 : Int32) (o3 : Nat) (x4 : Int32) (x5 : Int32) (x6 : Int32) (M : AM) : Option (Option Value × AM) := it C_Plan_relax 7 [(0, .ref o0), (1, .int x1), (2, .int x2), (3, .ref o3), (4, .int x4), (5, .int x5), (6, .int x6)] [] M
noncomputable def Plan_relax_51 (o0 : Nat) (x1 : Int32) (x2 : Int32) (o3 : Nat) (x4 : Int32) (x5 : Int32) (x6 : Int32) (x7 : Int32) (M : AM) : Option (Option Value × AM) := it C_Plan_relax 51 [(0, .ref o0), (1, .int x1), (2, .int x2), (3, .ref o3), (4, .int x4), (5, .int x5), (6, .int x6), (7, .int x7)] [] M
noncomputable def C_Plan_spread : MC := (9, 0, [(0, 5, 5, mD C_Plan_relax)], [(0, [0, 1, 2, 3, 4, 5], [(.iconst 0, 1, 0, 0), (.istore 6, 2, 0, 0)]),
  (3, [0, 1, 2, 3, 4, 5, 6], [(.iload 6, 2, 0, 0), (.aload_n 0, 1, 0, 0), (.getfield 49, 3, 5, 11), (.if_icmp .ge 29, 3, 38, 0), (.aload 4, 2, 0, 0), (.iload 5, 2, 0, 0), (.iload 6, 2, 0, 0), (.iadd, 1, 0, 0), (.iload 6, 2, 0, 0), (.iload_n 3, 1, 0, 0), (.if_icmp .ne 7, 3, 29, 0), (.iconst 0, 1, 0, 0), (.goto 5, 3, 31, 0)]),
  (29, [0, 1, 2, 3, 4, 5, 6], [(.bipush 99, 2, 0, 0)]),
  (31, [0, 1, 2, 3, 4, 5, 6], [(.iastore, 1, 0, 0), (.iinc 6 1, 3, 0, 0), (.goto (-32), 3, 3, 0)]),
  (38, [0, 1, 2, 4, 5], [(.iconst 1, 1, 0, 0), (.istore 6, 2, 0, 0), (.iconst 0, 1, 0, 0), (.istore 7, 2, 0, 0)]),
  (44, [0, 1, 2, 4, 5, 6, 7], [(.iload 7, 2, 0, 0), (.aload_n 0, 1, 0, 0), (.getfield 49, 3, 5, 11), (.if_icmp .ge 69, 3, 119, 0), (.iload 6, 2, 0, 0), (.ifCond .eq 64, 3, 119, 0), (.iconst 0, 1, 0, 0), (.istore 6, 2, 0, 0), (.iconst 0, 1, 0, 0), (.istore 8, 2, 0, 0)]),
  (64, [0, 1, 2, 4, 5, 6, 7, 8], [(.iload 8, 2, 0, 0), (.aload_n 0, 1, 0, 0), (.getfield 53, 3, 5, 12), (.if_icmp .ge 43, 3, 113, 0), (.iload_n 2, 1, 0, 0), (.iload 8, 2, 0, 0), (.ishr, 1, 0, 0), (.iconst 1, 1, 0, 0), (.iand, 1, 0, 0), (.ifCond .ne 28, 3, 107, 0), (.aload_n 0, 1, 0, 0), (.aload_n 0, 1, 0, 0), (.getfield 18, 3, 5, 2), (.iload 8, 2, 0, 0), (.iaload, 1, 0, 0), (.aload_n 1, 1, 0, 0), (.iload 8, 2, 0, 0), (.iaload, 1, 0, 0), (.aload 4, 2, 0, 0), (.iload 5, 2, 0, 0), (.invokevirtual 80, 3, 0, 1), (.ifCond .eq 6, 3, 107, 0), (.iconst 1, 1, 0, 0), (.istore 6, 2, 0, 0)]),
  (107, [0, 1, 2, 4, 5, 6, 7, 8], [(.iinc 8 1, 3, 0, 0), (.goto (-46), 3, 64, 0)]),
  (113, [0, 1, 2, 4, 5, 6, 7], [(.iinc 7 1, 3, 0, 0), (.goto (-72), 3, 44, 0)]),
  (119, [], [(.return_, 1, 0, 0)])], none)
noncomputable def Plan_spread (o0 : Nat) (o1 : Nat) (x2 : Int32) (x3 : Int32) (o4 : Nat) (x5 : Int32) (M : AM) : Option (Option Value × AM) := mD C_Plan_spread [.ref o0, .ref o1, .int x2, .int x3, .ref o4, .int x5] M
noncomputable def Plan_spread_3 (o0 : Nat) (o1 : Nat) (x2 : Int32) (x3 : Int32) (o4 : Nat) (x5 : Int32) (x6 : Int32) (M : AM) : Option (Option Value × AM) := it C_Plan_spread 3 [(0, .ref o0), (1, .ref o1), (2, .int x2), (3, .int x3), (4, .ref o4), (5, .int x5), (6, .int x6)] [] M
noncomputable def Plan_spread_44 (o0 : Nat) (o1 : Nat) (x2 : Int32) (o4 : Nat) (x5 : Int32) (x6 : Int32) (x7 : Int32) (M : AM) : Option (Option Value × AM) := it C_Plan_spread 44 [(0, .ref o0), (1, .ref o1), (2, .int x2), (4, .ref o4), (5, .int x5), (6, .int x6), (7, .int x7)] [] M
noncomputable def Plan_spread_64 (o0 : Nat) (o1 : Nat) (x2 : Int32) (o4 : Nat) (x5 : Int32) (x6 : Int32) (x7 : Int32) (x8 : Int32) (M : AM) : Option (Option Value × AM) := it C_Plan_spread 64 [(0, .ref o0), (1, .ref o1), (2, .int x2), (4, .ref o4), (5, .int x5), (6, .int x6), (7, .int x7), (8, .int x8)] [] M
noncomputable def C_Net_nearer : MC := (6, 1, [], [(0, [0, 1, 2, 3], [(.iconst 0, 1, 0, 0), (.istore 4, 2, 0, 0), (.iconst 0, 1, 0, 0), (.istore 5, 2, 0, 0)]),
  (6, [0, 1, 2, 3, 4, 5], [(.iload 5, 2, 0, 0), (.aload_n 0, 1, 0, 0), (.getfield 33, 3, 2, 6), (.getfield 53, 3, 5, 11), (.if_icmp .ge 40, 3, 55, 0), (.iload_n 1, 1, 0, 0), (.iload 5, 2, 0, 0), (.ishr, 1, 0, 0), (.iconst 1, 1, 0, 0), (.iand, 1, 0, 0), (.ifCond .eq 25, 3, 49, 0), (.aload_n 0, 1, 0, 0), (.getfield 9, 3, 2, 0), (.iload_n 2, 1, 0, 0), (.iload 5, 2, 0, 0), (.iadd, 1, 0, 0), (.iaload, 1, 0, 0), (.iload_n 3, 1, 0, 0), (.if_icmp .ne 12, 3, 49, 0), (.iload 4, 2, 0, 0), (.iconst 1, 1, 0, 0), (.iload 5, 2, 0, 0), (.ishl, 1, 0, 0), (.ior, 1, 0, 0), (.istore 4, 2, 0, 0)]),
  (49, [0, 1, 2, 3, 4, 5], [(.iinc 5 1, 3, 0, 0), (.goto (-46), 3, 6, 0)]),
  (55, [4], [(.iload 4, 2, 0, 0), (.ireturn, 1, 0, 0)])], none)
noncomputable def Net_nearer (x1 : Int32) (x2 : Int32) (x3 : Int32) (M : AM) : Option (Option Value × AM) := mD C_Net_nearer [.ref 26, .int x1, .int x2, .int x3] M
noncomputable def Net_nearer_6 (x1 : Int32) (x2 : Int32) (x3 : Int32) (x4 : Int32) (x5 : Int32) (M : AM) : Option (Option Value × AM) := it C_Net_nearer 6 [(0, .ref 26), (1, .int x1), (2, .int x2), (3, .int x3), (4, .int x4), (5, .int x5)] [] M
noncomputable def C_Net_lowest : MC := (3, 1, [], [(0, [0], [(.iconst 0, 1, 0, 0), (.istore_n 1, 1, 0, 0), (.iconst 0, 1, 0, 0), (.istore_n 2, 1, 0, 0)]),
  (4, [0, 1, 2], [(.iload_n 2, 1, 0, 0), (.bipush 7, 2, 0, 0), (.if_icmp .ge 20, 3, 27, 0), (.iload_n 0, 1, 0, 0), (.iload_n 1, 1, 0, 0), (.ishr, 1, 0, 0), (.iconst 1, 1, 0, 0), (.iand, 1, 0, 0), (.ifCond .ne 12, 3, 27, 0), (.iinc 1 1, 3, 0, 0), (.iinc 2 1, 3, 0, 0), (.goto (-20), 3, 4, 0)]),
  (27, [1], [(.iload_n 1, 1, 0, 0), (.ireturn, 1, 0, 0)])], none)
noncomputable def Net_lowest (x0 : Int32) (M : AM) : Option (Option Value × AM) := mD C_Net_lowest [.int x0] M
noncomputable def Net_lowest_4 (x0 : Int32) (x1 : Int32) (x2 : Int32) (M : AM) : Option (Option Value × AM) := it C_Net_lowest 4 [(0, .int x0), (1, .int x1), (2, .int x2)] [] M
noncomputable def C_Laws_isTold : MC := (2, 3, [], [(0, [0, 1], [(.aload_n 0, 1, 0, 0), (.getfield 21, 3, 1, 3), (.iload_n 1, 1, 0, 0), (.bipush 13, 2, 0, 0), (.isub, 1, 0, 0), (.iaload, 1, 0, 0), (.aload_n 0, 1, 0, 0), (.getfield 18, 3, 1, 2), (.iload_n 1, 1, 0, 0), (.bipush 13, 2, 0, 0), (.isub, 1, 0, 0), (.iaload, 1, 0, 0), (.if_icmp .le 7, 3, 25, 0), (.iconst 1, 1, 0, 0), (.goto 4, 3, 26, 0)]),
  (25, [], [(.iconst 0, 1, 0, 0)]),
  (26, [], [(.ireturn, 1, 0, 0)])], none)
noncomputable def Laws_isTold (o0 : Nat) (x1 : Int32) (M : AM) : Option (Option Value × AM) := mD C_Laws_isTold [.ref o0, .int x1] M
noncomputable def C_Net_lookUp : MC := (8, 0, [(0, 2, 4, mD C_Net_nearer), (1, 0, 1, mD C_Net_lowest), (0, 1, 2, mD C_Laws_isTold)], [(0, [0, 1, 2, 3], [(.aload_n 0, 1, 0, 0), (.getfield 15, 3, 2, 1), (.iload_n 2, 1, 0, 0), (.iload_n 3, 1, 0, 0), (.iadd, 1, 0, 0), (.iconst (-1), 1, 0, 0), (.iastore, 1, 0, 0), (.aload_n 0, 1, 0, 0), (.getfield 18, 3, 2, 2), (.iload_n 2, 1, 0, 0), (.iload_n 3, 1, 0, 0), (.iadd, 1, 0, 0), (.iconst 0, 1, 0, 0), (.iastore, 1, 0, 0), (.aload_n 0, 1, 0, 0), (.getfield 9, 3, 2, 0), (.iload_n 2, 1, 0, 0), (.iload_n 3, 1, 0, 0), (.iadd, 1, 0, 0), (.iaload, 1, 0, 0), (.istore 4, 2, 0, 0), (.iconst 0, 1, 0, 0), (.istore 5, 2, 0, 0)]),
  (31, [0, 1, 2, 3, 4, 5], [(.iload 5, 2, 0, 0), (.aload_n 0, 1, 0, 0), (.getfield 33, 3, 2, 6), (.getfield 60, 3, 5, 12), (.if_icmp .ge 140, 3, 180, 0), (.iload 4, 2, 0, 0), (.bipush 99, 2, 0, 0), (.if_icmp .ge 133, 3, 180, 0), (.iload_n 1, 1, 0, 0), (.iload 5, 2, 0, 0), (.ishr, 1, 0, 0), (.iconst 1, 1, 0, 0), (.iand, 1, 0, 0), (.ifCond .ne 16, 3, 72, 0), (.aload_n 0, 1, 0, 0), (.getfield 33, 3, 2, 6), (.getfield 63, 3, 5, 2), (.iload 5, 2, 0, 0), (.iaload, 1, 0, 0), (.goto 4, 3, 73, 0)]),
  (72, [0, 1, 2, 3, 4, 5], [(.iconst 0, 1, 0, 0)]),
  (73, [0, 1, 2, 3, 4, 5], [(.istore 6, 2, 0, 0), (.iload 6, 2, 0, 0), (.iload_n 3, 1, 0, 0), (.ishr, 1, 0, 0), (.iconst 1, 1, 0, 0), (.iand, 1, 0, 0), (.ifCond .ne 7, 3, 88, 0), (.iconst 0, 1, 0, 0), (.goto 23, 3, 108, 0)]),
  (88, [0, 1, 2, 3, 4, 5, 6], [(.aload_n 0, 1, 0, 0), (.iload 6, 2, 0, 0), (.iload_n 2, 1, 0, 0), (.iload 4, 2, 0, 0), (.aload_n 0, 1, 0, 0), (.getfield 33, 3, 2, 6), (.getfield 42, 3, 5, 1), (.iload 5, 2, 0, 0), (.iaload, 1, 0, 0), (.isub, 1, 0, 0), (.invokevirtual 66, 3, 0, 1)]),
  (108, [0, 1, 2, 3, 4, 5], [(.istore 7, 2, 0, 0), (.iload 7, 2, 0, 0), (.ifCond .eq 62, 3, 174, 0), (.aload_n 0, 1, 0, 0), (.getfield 15, 3, 2, 1), (.iload_n 2, 1, 0, 0), (.iload_n 3, 1, 0, 0), (.iadd, 1, 0, 0), (.iload 5, 2, 0, 0), (.bipush 8, 2, 0, 0), (.imul, 1, 0, 0), (.iload 7, 2, 0, 0), (.invokestatic 70, 3, 1, 1), (.iadd, 1, 0, 0), (.iastore, 1, 0, 0), (.aload_n 0, 1, 0, 0), (.getfield 18, 3, 2, 2), (.iload_n 2, 1, 0, 0), (.iload_n 3, 1, 0, 0), (.iadd, 1, 0, 0), (.aload_n 0, 1, 0, 0), (.getfield 33, 3, 2, 6), (.getfield 73, 3, 5, 10), (.bipush 13, 2, 0, 0), (.invokevirtual 77, 3, 2, 1), (.ifCond .eq 18, 3, 171, 0), (.iload 7, 2, 0, 0), (.iload 7, 2, 0, 0), (.iconst 1, 1, 0, 0), (.isub, 1, 0, 0), (.iand, 1, 0, 0), (.ifCond .eq 8, 3, 171, 0), (.iload 7, 2, 0, 0), (.goto 4, 3, 172, 0)]),
  (171, [], [(.iconst 0, 1, 0, 0)]),
  (172, [], [(.iastore, 1, 0, 0), (.return_, 1, 0, 0)]),
  (174, [0, 1, 2, 3, 4, 5], [(.iinc 5 1, 3, 0, 0), (.goto (-146), 3, 31, 0)]),
  (180, [], [(.return_, 1, 0, 0)])], none)
noncomputable def Net_lookUp (x1 : Int32) (x2 : Int32) (x3 : Int32) (M : AM) : Option (Option Value × AM) := mD C_Net_lookUp [.ref 26, .int x1, .int x2, .int x3] M
noncomputable def Net_lookUp_31 (x1 : Int32) (x2 : Int32) (x3 : Int32) (x4 : Int32) (x5 : Int32) (M : AM) : Option (Option Value × AM) := it C_Net_lookUp 31 [(0, .ref 26), (1, .int x1), (2, .int x2), (3, .int x3), (4, .int x4), (5, .int x5)] [] M
noncomputable def Net_lookUp_73 (x1 : Int32) (x2 : Int32) (x3 : Int32) (x4 : Int32) (x5 : Int32) (z0 : Int32) (M : AM) : Option (Option Value × AM) := it C_Net_lookUp 73 [(0, .ref 26), (1, .int x1), (2, .int x2), (3, .int x3), (4, .int x4), (5, .int x5)] [.int z0] M
noncomputable def Net_lookUp_108 (x1 : Int32) (x2 : Int32) (x3 : Int32) (x4 : Int32) (x5 : Int32) (z0 : Int32) (M : AM) : Option (Option Value × AM) := it C_Net_lookUp 108 [(0, .ref 26), (1, .int x1), (2, .int x2), (3, .int x3), (4, .int x4), (5, .int x5)] [.int z0] M
noncomputable def C_Net_measure : MC := (4, 0, [(0, 5, 2, mD C_Plan_root), (0, 5, 6, mD C_Plan_spread), (0, 2, 4, mD C_Net_lookUp)], [(0, [0, 1], [(.aload_n 0, 1, 0, 0), (.getfield 25, 3, 2, 4), (.ifCond .eq 12, 3, 16, 0), (.aload_n 0, 1, 0, 0), (.getfield 29, 3, 2, 5), (.iload_n 1, 1, 0, 0), (.if_icmp .ne 4, 3, 16, 0), (.return_, 1, 0, 0)]),
  (16, [0, 1], [(.iconst 0, 1, 0, 0), (.istore_n 2, 1, 0, 0)]),
  (18, [0, 1, 2], [(.iload_n 2, 1, 0, 0), (.aload_n 0, 1, 0, 0), (.getfield 33, 3, 2, 6), (.getfield 37, 3, 5, 13), (.if_icmp .gt 69, 3, 95, 0), (.aload_n 0, 1, 0, 0), (.getfield 33, 3, 2, 6), (.aload_n 0, 1, 0, 0), (.getfield 33, 3, 2, 6), (.getfield 42, 3, 5, 1), (.iload_n 1, 1, 0, 0), (.aload_n 0, 1, 0, 0), (.getfield 33, 3, 2, 6), (.iload_n 2, 1, 0, 0), (.invokevirtual 45, 3, 0, 1), (.aload_n 0, 1, 0, 0), (.getfield 9, 3, 2, 0), (.iload_n 2, 1, 0, 0), (.bipush 7, 2, 0, 0), (.imul, 1, 0, 0), (.invokevirtual 49, 3, 1, 0), (.iconst 0, 1, 0, 0), (.istore_n 3, 1, 0, 0)]),
  (62, [0, 1, 2, 3], [(.iload_n 3, 1, 0, 0), (.aload_n 0, 1, 0, 0), (.getfield 33, 3, 2, 6), (.getfield 53, 3, 5, 11), (.if_icmp .ge 19, 3, 89, 0), (.aload_n 0, 1, 0, 0), (.iload_n 1, 1, 0, 0), (.iload_n 2, 1, 0, 0), (.bipush 7, 2, 0, 0), (.imul, 1, 0, 0), (.iload_n 3, 1, 0, 0), (.invokevirtual 56, 3, 2, 0), (.iinc 3 1, 3, 0, 0), (.goto (-24), 3, 62, 0)]),
  (89, [0, 1, 2], [(.iinc 2 1, 3, 0, 0), (.goto (-74), 3, 18, 0)]),
  (95, [0, 1], [(.aload_n 0, 1, 0, 0), (.iconst 1, 1, 0, 0), (.putfield 25, 3, 2, 4), (.aload_n 0, 1, 0, 0), (.iload_n 1, 1, 0, 0), (.putfield 29, 3, 2, 5), (.return_, 1, 0, 0)])], none)
noncomputable def Net_measure (x1 : Int32) (M : AM) : Option (Option Value × AM) := mD C_Net_measure [.ref 26, .int x1] M
noncomputable def Net_measure_18 (x1 : Int32) (x2 : Int32) (M : AM) : Option (Option Value × AM) := it C_Net_measure 18 [(0, .ref 26), (1, .int x1), (2, .int x2)] [] M
noncomputable def Net_measure_62 (x1 : Int32) (x2 : Int32) (x3 : Int32) (M : AM) : Option (Option Value × AM) := it C_Net_measure 62 [(0, .ref 26), (1, .int x1), (2, .int x2), (3, .int x3)] [] M
noncomputable def C_GT_far : MC := (3, 1, [(0, 9, 2, mD C_GT_isTree), (0, 9, 2, mD C_GT_isNode), (0, 2, 2, mD C_Net_measure)], [(0, [0, 1, 2], [(.aload_n 0, 1, 0, 0), (.iload_n 1, 1, 0, 0), (.invokevirtual 189, 3, 0, 1), (.ifCond .eq 11, 3, 16, 0), (.aload_n 0, 1, 0, 0), (.iload_n 2, 1, 0, 0), (.invokevirtual 145, 3, 1, 1), (.ifCond .ne 5, 3, 18, 0)]),
  (16, [], [(.iconst (-1), 1, 0, 0), (.ireturn, 1, 0, 0)]),
  (18, [0, 1, 2], [(.aload_n 0, 1, 0, 0), (.getfield 39, 3, 9, 3), (.aload_n 0, 1, 0, 0), (.getfield 55, 3, 9, 5), (.getfield 186, 3, 7, 8), (.invokevirtual 192, 3, 2, 0), (.aload_n 0, 1, 0, 0), (.getfield 39, 3, 9, 3), (.getfield 195, 3, 2, 0), (.iload_n 1, 1, 0, 0), (.bipush 7, 2, 0, 0), (.imul, 1, 0, 0), (.iload_n 2, 1, 0, 0), (.iadd, 1, 0, 0), (.iaload, 1, 0, 0), (.ireturn, 1, 0, 0)])], none)
noncomputable def GT_far (x1 : Int32) (x2 : Int32) (M : AM) : Option (Option Value × AM) := mD C_GT_far [.ref 0, .int x1, .int x2] M
noncomputable def C_Jint_bitCount : MC := (1, 1, [], [(0, [0], [(.iload_n 0, 1, 0, 0), (.iload_n 0, 1, 0, 0), (.iconst 1, 1, 0, 0), (.iushr, 1, 0, 0), (.ldc_w 265, 3, 1431655765, 0), (.iand, 1, 0, 0), (.isub, 1, 0, 0), (.istore_n 0, 1, 0, 0), (.iload_n 0, 1, 0, 0), (.ldc_w 266, 3, 858993459, 0), (.iand, 1, 0, 0), (.iload_n 0, 1, 0, 0), (.iconst 2, 1, 0, 0), (.iushr, 1, 0, 0), (.ldc_w 266, 3, 858993459, 0), (.iand, 1, 0, 0), (.iadd, 1, 0, 0), (.istore_n 0, 1, 0, 0), (.iload_n 0, 1, 0, 0), (.iload_n 0, 1, 0, 0), (.iconst 4, 1, 0, 0), (.iushr, 1, 0, 0), (.iadd, 1, 0, 0), (.ldc_w 267, 3, 252645135, 0), (.iand, 1, 0, 0), (.istore_n 0, 1, 0, 0), (.iload_n 0, 1, 0, 0), (.iload_n 0, 1, 0, 0), (.bipush 8, 2, 0, 0), (.iushr, 1, 0, 0), (.iadd, 1, 0, 0), (.istore_n 0, 1, 0, 0), (.iload_n 0, 1, 0, 0), (.iload_n 0, 1, 0, 0), (.bipush 16, 2, 0, 0), (.iushr, 1, 0, 0), (.iadd, 1, 0, 0), (.istore_n 0, 1, 0, 0), (.iload_n 0, 1, 0, 0), (.bipush 63, 2, 0, 0), (.iand, 1, 0, 0), (.ireturn, 1, 0, 0)])], none)
noncomputable def Jint_bitCount (x0 : Int32) (M : AM) : Option (Option Value × AM) := mD C_Jint_bitCount [.int x0] M
noncomputable def C_Net_value : MC := (5, 2, [(1, 0, 1, mD C_Jint_bitCount)], [(0, [0, 1, 2, 3, 4], [(.iload_n 1, 1, 0, 0), (.tableswitch 95 19 24 #[39, 53, 57, 66, 75, 92], 39, 0, 0)]),
  (40, [0, 3, 4], [(.aload_n 0, 1, 0, 0), (.getfield 9, 3, 2, 0), (.iload_n 3, 1, 0, 0), (.bipush 7, 2, 0, 0), (.imul, 1, 0, 0), (.iload 4, 2, 0, 0), (.iadd, 1, 0, 0), (.iaload, 1, 0, 0), (.i2l, 1, 0, 0), (.lreturn, 1, 0, 0)]),
  (54, [4], [(.iload 4, 2, 0, 0), (.i2l, 1, 0, 0), (.lreturn, 1, 0, 0)]),
  (58, [2, 4], [(.aload_n 2, 1, 0, 0), (.getfield 140, 3, 7, 1), (.iload 4, 2, 0, 0), (.iaload, 1, 0, 0), (.i2l, 1, 0, 0), (.lreturn, 1, 0, 0)]),
  (67, [2, 4], [(.aload_n 2, 1, 0, 0), (.getfield 143, 3, 7, 2), (.iload 4, 2, 0, 0), (.iaload, 1, 0, 0), (.i2l, 1, 0, 0), (.lreturn, 1, 0, 0)]),
  (76, [2, 3, 4], [(.aload_n 2, 1, 0, 0), (.getfield 100, 3, 7, 5), (.iload_n 3, 1, 0, 0), (.bipush 7, 2, 0, 0), (.imul, 1, 0, 0), (.iload 4, 2, 0, 0), (.iadd, 1, 0, 0), (.iaload, 1, 0, 0), (.invokestatic 146, 3, 0, 1), (.i2l, 1, 0, 0), (.lreturn, 1, 0, 0)]),
  (93, [3], [(.iload_n 3, 1, 0, 0), (.i2l, 1, 0, 0), (.lreturn, 1, 0, 0)]),
  (96, [2], [(.aload_n 2, 1, 0, 0), (.getfield 151, 3, 7, 6), (.i2l, 1, 0, 0), (.lreturn, 1, 0, 0)])], none)
noncomputable def Net_value (x1 : Int32) (o2 : Nat) (x3 : Int32) (x4 : Int32) (M : AM) : Option (Option Value × AM) := mD C_Net_value [.ref 26, .int x1, .ref o2, .int x3, .int x4] M
noncomputable def C_Net_fitsTimes : MC := (6, 3, [], [(0, [0, 2], [(.lload_n 0, 1, 0, 0), (.lconst 0, 1, 0, 0), (.lcmp, 1, 0, 0), (.ifCond .ge 8, 3, 11, 0), (.lload_n 0, 1, 0, 0), (.lneg, 1, 0, 0), (.goto 4, 3, 12, 0)]),
  (11, [0, 2], [(.lload_n 0, 1, 0, 0)]),
  (12, [2], [(.lstore 4, 2, 0, 0), (.lload 4, 2, 0, 0), (.lconst 0, 1, 0, 0), (.lcmp, 1, 0, 0), (.ifCond .eq 25, 3, 43, 0), (.lload_n 2, 1, 0, 0), (.lconst 0, 1, 0, 0), (.lcmp, 1, 0, 0), (.ifCond .ge 8, 3, 32, 0), (.lload_n 2, 1, 0, 0), (.lneg, 1, 0, 0), (.goto 4, 3, 33, 0)]),
  (32, [2, 4], [(.lload_n 2, 1, 0, 0)]),
  (33, [4], [(.ldc2_w 136, 3, 1000000000000, 0), (.lload 4, 2, 0, 0), (.ldiv, 1, 0, 0), (.lcmp, 1, 0, 0), (.ifCond .gt 7, 3, 47, 0)]),
  (43, [], [(.iconst 1, 1, 0, 0), (.goto 4, 3, 48, 0)]),
  (47, [], [(.iconst 0, 1, 0, 0)]),
  (48, [], [(.ireturn, 1, 0, 0)])], none)
noncomputable def Net_fitsTimes (y0 : Int64) (y2 : Int64) (M : AM) : Option (Option Value × AM) := mD C_Net_fitsTimes [.long y0, .long y2] M
noncomputable def Net_fitsTimes_12 (y2 : Int64) (z0 : Int64) (M : AM) : Option (Option Value × AM) := it C_Net_fitsTimes 12 [(2, .long y2)] [.long z0] M
noncomputable def C_Net_join : MC := (5, 2, [(1, 0, 2, mD C_Net_fitsTimes)], [(0, [0, 1, 3], [(.iload_n 0, 1, 0, 0), (.tableswitch 265 16 40 #[247, 229, 265, 265, 265, 265, 265, 265, 265, 265, 265, 265, 265, 265, 265, 115, 119, 123, 141, 157, 169, 181, 193, 205, 217], 115, 0, 0)]),
  (116, [1, 3], [(.lload_n 1, 1, 0, 0), (.lload_n 3, 1, 0, 0), (.ladd, 1, 0, 0), (.lreturn, 1, 0, 0)]),
  (120, [1, 3], [(.lload_n 1, 1, 0, 0), (.lload_n 3, 1, 0, 0), (.lsub, 1, 0, 0), (.lreturn, 1, 0, 0)]),
  (124, [1, 3], [(.lload_n 1, 1, 0, 0), (.lload_n 3, 1, 0, 0), (.invokestatic 154, 3, 0, 1), (.ifCond .eq 9, 3, 138, 0), (.lload_n 1, 1, 0, 0), (.lload_n 3, 1, 0, 0), (.lmul, 1, 0, 0), (.goto 6, 3, 141, 0)]),
  (138, [], [(.ldc2_w 91, 3, 9223372036854775808, 0)]),
  (141, [], [(.lreturn, 1, 0, 0)]),
  (142, [1, 3], [(.lload_n 3, 1, 0, 0), (.lconst 0, 1, 0, 0), (.lcmp, 1, 0, 0), (.ifCond .ne 9, 3, 154, 0), (.ldc2_w 91, 3, 9223372036854775808, 0), (.goto 6, 3, 157, 0)]),
  (154, [1, 3], [(.lload_n 1, 1, 0, 0), (.lload_n 3, 1, 0, 0), (.ldiv, 1, 0, 0)]),
  (157, [], [(.lreturn, 1, 0, 0)]),
  (158, [1, 3], [(.lload_n 1, 1, 0, 0), (.lload_n 3, 1, 0, 0), (.lcmp, 1, 0, 0), (.ifCond .ge 7, 3, 168, 0), (.lconst 1, 1, 0, 0), (.goto 4, 3, 169, 0)]),
  (168, [], [(.lconst 0, 1, 0, 0)]),
  (169, [], [(.lreturn, 1, 0, 0)]),
  (170, [1, 3], [(.lload_n 1, 1, 0, 0), (.lload_n 3, 1, 0, 0), (.lcmp, 1, 0, 0), (.ifCond .gt 7, 3, 180, 0), (.lconst 1, 1, 0, 0), (.goto 4, 3, 181, 0)]),
  (180, [], [(.lconst 0, 1, 0, 0)]),
  (181, [], [(.lreturn, 1, 0, 0)]),
  (182, [1, 3], [(.lload_n 1, 1, 0, 0), (.lload_n 3, 1, 0, 0), (.lcmp, 1, 0, 0), (.ifCond .ne 7, 3, 192, 0), (.lconst 1, 1, 0, 0), (.goto 4, 3, 193, 0)]),
  (192, [], [(.lconst 0, 1, 0, 0)]),
  (193, [], [(.lreturn, 1, 0, 0)]),
  (194, [1, 3], [(.lload_n 1, 1, 0, 0), (.lload_n 3, 1, 0, 0), (.lcmp, 1, 0, 0), (.ifCond .eq 7, 3, 204, 0), (.lconst 1, 1, 0, 0), (.goto 4, 3, 205, 0)]),
  (204, [], [(.lconst 0, 1, 0, 0)]),
  (205, [], [(.lreturn, 1, 0, 0)]),
  (206, [1, 3], [(.lload_n 1, 1, 0, 0), (.lload_n 3, 1, 0, 0), (.lcmp, 1, 0, 0), (.ifCond .lt 7, 3, 216, 0), (.lconst 1, 1, 0, 0), (.goto 4, 3, 217, 0)]),
  (216, [], [(.lconst 0, 1, 0, 0)]),
  (217, [], [(.lreturn, 1, 0, 0)]),
  (218, [1, 3], [(.lload_n 1, 1, 0, 0), (.lload_n 3, 1, 0, 0), (.lcmp, 1, 0, 0), (.ifCond .le 7, 3, 228, 0), (.lconst 1, 1, 0, 0), (.goto 4, 3, 229, 0)]),
  (228, [], [(.lconst 0, 1, 0, 0)]),
  (229, [], [(.lreturn, 1, 0, 0)]),
  (230, [1, 3], [(.lload_n 1, 1, 0, 0), (.lconst 0, 1, 0, 0), (.lcmp, 1, 0, 0), (.ifCond .eq 13, 3, 246, 0), (.lload_n 3, 1, 0, 0), (.lconst 0, 1, 0, 0), (.lcmp, 1, 0, 0), (.ifCond .eq 7, 3, 246, 0), (.lconst 1, 1, 0, 0), (.goto 4, 3, 247, 0)]),
  (246, [], [(.lconst 0, 1, 0, 0)]),
  (247, [], [(.lreturn, 1, 0, 0)]),
  (248, [1, 3], [(.lload_n 1, 1, 0, 0), (.lconst 0, 1, 0, 0), (.lcmp, 1, 0, 0), (.ifCond .ne 9, 3, 260, 0), (.lload_n 3, 1, 0, 0), (.lconst 0, 1, 0, 0), (.lcmp, 1, 0, 0), (.ifCond .eq 7, 3, 264, 0)]),
  (260, [], [(.lconst 1, 1, 0, 0), (.goto 4, 3, 265, 0)]),
  (264, [], [(.lconst 0, 1, 0, 0)]),
  (265, [], [(.lreturn, 1, 0, 0)]),
  (266, [], [(.ldc2_w 91, 3, 9223372036854775808, 0), (.lreturn, 1, 0, 0)])], none)
noncomputable def Net_join (x0 : Int32) (y1 : Int64) (y3 : Int64) (M : AM) : Option (Option Value × AM) := mD C_Net_join [.int x0, .long y1, .long y3] M
noncomputable def Net_join_266 (M : AM) : Option (Option Value × AM) := it C_Net_join 266 [] [] M
noncomputable def C_Net_work : MC := (11, 2, [(0, 2, 5, mD C_Net_value), (1, 0, 3, mD C_Net_join)], [(0, [0, 1, 2, 3, 4], [(.aload_n 0, 1, 0, 0), (.getfield 33, 3, 2, 6), (.getfield 73, 3, 5, 10), (.astore 5, 2, 0, 0), (.iconst 0, 1, 0, 0), (.istore 6, 2, 0, 0), (.aload 5, 2, 0, 0), (.getfield 117, 3, 1, 2), (.iload_n 1, 1, 0, 0), (.bipush 13, 2, 0, 0), (.isub, 1, 0, 0), (.iaload, 1, 0, 0), (.istore 7, 2, 0, 0)]),
  (24, [0, 1, 2, 3, 4, 5, 6, 7], [(.iload 7, 2, 0, 0), (.aload 5, 2, 0, 0), (.getfield 120, 3, 1, 3), (.iload_n 1, 1, 0, 0), (.bipush 13, 2, 0, 0), (.isub, 1, 0, 0), (.iaload, 1, 0, 0), (.if_icmp .ge 193, 3, 229, 0), (.aload 5, 2, 0, 0), (.getfield 123, 3, 1, 0), (.iload 7, 2, 0, 0), (.iaload, 1, 0, 0), (.istore 8, 2, 0, 0), (.iload 8, 2, 0, 0), (.bipush 27, 2, 0, 0), (.if_icmp .ne 25, 3, 78, 0), (.aload_n 0, 1, 0, 0), (.getfield 21, 3, 2, 3), (.iload 6, 2, 0, 0), (.iinc 6 1, 3, 0, 0), (.aload 5, 2, 0, 0), (.getfield 126, 3, 1, 1), (.iload 7, 2, 0, 0), (.iaload, 1, 0, 0), (.i2l, 1, 0, 0), (.lastore, 1, 0, 0), (.goto 148, 3, 223, 0)]),
  (78, [0, 1, 2, 3, 4, 5, 6, 7, 8], [(.iload 8, 2, 0, 0), (.bipush 19, 2, 0, 0), (.if_icmp .lt 33, 3, 115, 0), (.iload 8, 2, 0, 0), (.bipush 25, 2, 0, 0), (.if_icmp .gt 26, 3, 115, 0), (.aload_n 0, 1, 0, 0), (.getfield 21, 3, 2, 3), (.iload 6, 2, 0, 0), (.iinc 6 1, 3, 0, 0), (.aload_n 0, 1, 0, 0), (.iload 8, 2, 0, 0), (.aload_n 2, 1, 0, 0), (.iload_n 3, 1, 0, 0), (.iload 4, 2, 0, 0), (.invokevirtual 129, 3, 0, 2), (.lastore, 1, 0, 0), (.goto 111, 3, 223, 0)]),
  (115, [0, 1, 2, 3, 4, 5, 6, 7, 8], [(.iload 8, 2, 0, 0), (.bipush 18, 2, 0, 0), (.if_icmp .ne 39, 3, 158, 0), (.iload 6, 2, 0, 0), (.ifCond .le 34, 3, 158, 0), (.aload_n 0, 1, 0, 0), (.getfield 21, 3, 2, 3), (.iload 6, 2, 0, 0), (.iconst 1, 1, 0, 0), (.isub, 1, 0, 0), (.aload_n 0, 1, 0, 0), (.getfield 21, 3, 2, 3), (.iload 6, 2, 0, 0), (.iconst 1, 1, 0, 0), (.isub, 1, 0, 0), (.laload, 1, 0, 0), (.lconst 0, 1, 0, 0), (.lcmp, 1, 0, 0), (.ifCond .ne 7, 3, 153, 0), (.lconst 1, 1, 0, 0), (.goto 4, 3, 154, 0)]),
  (153, [0, 1, 2, 3, 4, 5, 6, 7], [(.lconst 0, 1, 0, 0)]),
  (154, [0, 1, 2, 3, 4, 5, 6, 7], [(.lastore, 1, 0, 0), (.goto 68, 3, 223, 0)]),
  (158, [0, 1, 2, 3, 4, 5, 6, 7, 8], [(.iload 6, 2, 0, 0), (.iconst 1, 1, 0, 0), (.if_icmp .le 62, 3, 223, 0), (.iinc 6 (-1), 3, 0, 0), (.iload 8, 2, 0, 0), (.aload_n 0, 1, 0, 0), (.getfield 21, 3, 2, 3), (.iload 6, 2, 0, 0), (.iconst 1, 1, 0, 0), (.isub, 1, 0, 0), (.laload, 1, 0, 0), (.aload_n 0, 1, 0, 0), (.getfield 21, 3, 2, 3), (.iload 6, 2, 0, 0), (.laload, 1, 0, 0), (.invokestatic 132, 3, 1, 2), (.lstore 9, 2, 0, 0), (.lload 9, 2, 0, 0), (.ldc2_w 136, 3, 1000000000000, 0), (.lcmp, 1, 0, 0), (.ifCond .gt 12, 3, 208, 0), (.lload 9, 2, 0, 0), (.ldc2_w 138, 3, 18446743073709551616, 0), (.lcmp, 1, 0, 0), (.ifCond .ge 7, 3, 212, 0)]),
  (208, [], [(.ldc2_w 91, 3, 9223372036854775808, 0), (.lreturn, 1, 0, 0)]),
  (212, [0, 1, 2, 3, 4, 5, 6, 7, 9], [(.aload_n 0, 1, 0, 0), (.getfield 21, 3, 2, 3), (.iload 6, 2, 0, 0), (.iconst 1, 1, 0, 0), (.isub, 1, 0, 0), (.lload 9, 2, 0, 0), (.lastore, 1, 0, 0)]),
  (223, [0, 1, 2, 3, 4, 5, 6, 7], [(.iinc 7 1, 3, 0, 0), (.goto (-202), 3, 24, 0)]),
  (229, [0, 6], [(.iload 6, 2, 0, 0), (.ifCond .ne 9, 3, 240, 0), (.ldc2_w 91, 3, 9223372036854775808, 0), (.goto 9, 3, 246, 0)]),
  (240, [0], [(.aload_n 0, 1, 0, 0), (.getfield 21, 3, 2, 3), (.iconst 0, 1, 0, 0), (.laload, 1, 0, 0)]),
  (246, [], [(.lreturn, 1, 0, 0)])], none)
noncomputable def Net_work (x1 : Int32) (o2 : Nat) (x3 : Int32) (x4 : Int32) (M : AM) : Option (Option Value × AM) := mD C_Net_work [.ref 26, .int x1, .ref o2, .int x3, .int x4] M
noncomputable def Net_work_24 (x1 : Int32) (o2 : Nat) (x3 : Int32) (x4 : Int32) (o5 : Nat) (x6 : Int32) (x7 : Int32) (M : AM) : Option (Option Value × AM) := it C_Net_work 24 [(0, .ref 26), (1, .int x1), (2, .ref o2), (3, .int x3), (4, .int x4), (5, .ref o5), (6, .int x6), (7, .int x7)] [] M
noncomputable def Net_work_115 (x1 : Int32) (o2 : Nat) (x3 : Int32) (x4 : Int32) (o5 : Nat) (x6 : Int32) (x7 : Int32) (x8 : Int32) (M : AM) : Option (Option Value × AM) := it C_Net_work 115 [(0, .ref 26), (1, .int x1), (2, .ref o2), (3, .int x3), (4, .int x4), (5, .ref o5), (6, .int x6), (7, .int x7), (8, .int x8)] [] M
noncomputable def Net_work_158 (x1 : Int32) (o2 : Nat) (x3 : Int32) (x4 : Int32) (o5 : Nat) (x6 : Int32) (x7 : Int32) (x8 : Int32) (M : AM) : Option (Option Value × AM) := it C_Net_work 158 [(0, .ref 26), (1, .int x1), (2, .ref o2), (3, .int x3), (4, .int x4), (5, .ref o5), (6, .int x6), (7, .int x7), (8, .int x8)] [] M
noncomputable def C_Net_preferred : MC := (10, 1, [(0, 2, 5, mD C_Net_work)], [(0, [0, 1, 2, 3], [(.iconst (-1), 1, 0, 0), (.istore 4, 2, 0, 0), (.lconst 0, 1, 0, 0), (.lstore 5, 2, 0, 0), (.iconst 0, 1, 0, 0), (.istore 7, 2, 0, 0)]),
  (9, [0, 1, 2, 3, 4, 5, 7], [(.iload 7, 2, 0, 0), (.aload_n 0, 1, 0, 0), (.getfield 33, 3, 2, 6), (.getfield 53, 3, 5, 11), (.if_icmp .ge 75, 3, 93, 0), (.iload_n 3, 1, 0, 0), (.iload 7, 2, 0, 0), (.ishr, 1, 0, 0), (.iconst 1, 1, 0, 0), (.iand, 1, 0, 0), (.ifCond .eq 60, 3, 87, 0), (.aload_n 0, 1, 0, 0), (.bipush 13, 2, 0, 0), (.aload_n 1, 1, 0, 0), (.iload_n 2, 1, 0, 0), (.iload 7, 2, 0, 0), (.invokevirtual 87, 3, 0, 2), (.lstore 8, 2, 0, 0), (.lload 8, 2, 0, 0), (.ldc2_w 91, 3, 9223372036854775808, 0), (.lcmp, 1, 0, 0), (.ifCond .ne 18, 3, 66, 0), (.aload_n 0, 1, 0, 0), (.getfield 9, 3, 2, 0), (.iload_n 2, 1, 0, 0), (.bipush 7, 2, 0, 0), (.imul, 1, 0, 0), (.iload 7, 2, 0, 0), (.iadd, 1, 0, 0), (.iaload, 1, 0, 0), (.i2l, 1, 0, 0), (.lstore 8, 2, 0, 0)]),
  (66, [0, 1, 2, 3, 4, 5, 7, 8], [(.iload 4, 2, 0, 0), (.ifCond .lt 11, 3, 79, 0), (.lload 8, 2, 0, 0), (.lload 5, 2, 0, 0), (.lcmp, 1, 0, 0), (.ifCond .ge 11, 3, 87, 0)]),
  (79, [0, 1, 2, 3, 7, 8], [(.iload 7, 2, 0, 0), (.istore 4, 2, 0, 0), (.lload 8, 2, 0, 0), (.lstore 5, 2, 0, 0)]),
  (87, [0, 1, 2, 3, 4, 5, 7], [(.iinc 7 1, 3, 0, 0), (.goto (-81), 3, 9, 0)]),
  (93, [4], [(.iload 4, 2, 0, 0), (.ireturn, 1, 0, 0)])], none)
noncomputable def Net_preferred (o1 : Nat) (x2 : Int32) (x3 : Int32) (M : AM) : Option (Option Value × AM) := mD C_Net_preferred [.ref 26, .ref o1, .int x2, .int x3] M
noncomputable def Net_preferred_9 (o1 : Nat) (x2 : Int32) (x3 : Int32) (x4 : Int32) (y5 : Int64) (x7 : Int32) (M : AM) : Option (Option Value × AM) := it C_Net_preferred 9 [(0, .ref 26), (1, .ref o1), (2, .int x2), (3, .int x3), (4, .int x4), (5, .long y5), (7, .int x7)] [] M
noncomputable def Net_preferred_66 (o1 : Nat) (x2 : Int32) (x3 : Int32) (x4 : Int32) (y5 : Int64) (x7 : Int32) (y8 : Int64) (M : AM) : Option (Option Value × AM) := it C_Net_preferred 66 [(0, .ref 26), (1, .ref o1), (2, .int x2), (3, .int x3), (4, .int x4), (5, .long y5), (7, .int x7), (8, .long y8)] [] M
noncomputable def C_Net_climb : MC := (5, 1, [(0, 2, 4, mD C_Net_preferred)], [(0, [0, 1, 2, 3], [(.iload_n 2, 1, 0, 0), (.bipush 7, 2, 0, 0), (.imul, 1, 0, 0), (.iload_n 3, 1, 0, 0), (.iadd, 1, 0, 0), (.istore 4, 2, 0, 0), (.aload_n 0, 1, 0, 0), (.getfield 18, 3, 2, 2), (.iload 4, 2, 0, 0), (.iaload, 1, 0, 0), (.ifCond .ne 11, 3, 26, 0), (.aload_n 0, 1, 0, 0), (.getfield 15, 3, 2, 1), (.iload 4, 2, 0, 0), (.iaload, 1, 0, 0), (.ireturn, 1, 0, 0)]),
  (26, [0, 1, 2, 4], [(.aload_n 0, 1, 0, 0), (.getfield 15, 3, 2, 1), (.iload 4, 2, 0, 0), (.iaload, 1, 0, 0), (.bipush 8, 2, 0, 0), (.idiv, 1, 0, 0), (.bipush 8, 2, 0, 0), (.imul, 1, 0, 0), (.aload_n 0, 1, 0, 0), (.aload_n 1, 1, 0, 0), (.iload_n 2, 1, 0, 0), (.aload_n 0, 1, 0, 0), (.getfield 18, 3, 2, 2), (.iload 4, 2, 0, 0), (.iaload, 1, 0, 0), (.invokevirtual 83, 3, 0, 1), (.iadd, 1, 0, 0), (.ireturn, 1, 0, 0)])], none)
noncomputable def Net_climb (o1 : Nat) (x2 : Int32) (x3 : Int32) (M : AM) : Option (Option Value × AM) := mD C_Net_climb [.ref 26, .ref o1, .int x2, .int x3] M
noncomputable def C_GT_up : MC := (5, 1, [(0, 9, 2, mD C_GT_isTree), (0, 9, 2, mD C_GT_isNode), (0, 2, 2, mD C_Net_measure), (0, 2, 4, mD C_Net_climb)], [(0, [0, 1, 2, 3], [(.aload_n 0, 1, 0, 0), (.iload_n 1, 1, 0, 0), (.invokevirtual 189, 3, 0, 1), (.ifCond .eq 20, 3, 25, 0), (.aload_n 0, 1, 0, 0), (.iload_n 2, 1, 0, 0), (.invokevirtual 145, 3, 1, 1), (.ifCond .eq 12, 3, 25, 0), (.iload_n 3, 1, 0, 0), (.ifCond .lt 8, 3, 25, 0), (.iload_n 3, 1, 0, 0), (.iconst 1, 1, 0, 0), (.if_icmp .le 5, 3, 27, 0)]),
  (25, [], [(.iconst (-1), 1, 0, 0), (.ireturn, 1, 0, 0)]),
  (27, [0, 1, 2, 3], [(.aload_n 0, 1, 0, 0), (.getfield 39, 3, 9, 3), (.aload_n 0, 1, 0, 0), (.getfield 55, 3, 9, 5), (.getfield 186, 3, 7, 8), (.invokevirtual 192, 3, 2, 0), (.aload_n 0, 1, 0, 0), (.getfield 39, 3, 9, 3), (.aload_n 0, 1, 0, 0), (.getfield 55, 3, 9, 5), (.iload_n 1, 1, 0, 0), (.iload_n 2, 1, 0, 0), (.invokevirtual 198, 3, 3, 1), (.istore 4, 2, 0, 0), (.iload 4, 2, 0, 0), (.ifCond .ge 6, 3, 64, 0), (.bipush (-2), 2, 0, 0), (.ireturn, 1, 0, 0)]),
  (64, [3, 4], [(.iload_n 3, 1, 0, 0), (.ifCond .ne 11, 3, 76, 0), (.iload 4, 2, 0, 0), (.bipush 8, 2, 0, 0), (.idiv, 1, 0, 0), (.goto 8, 3, 81, 0)]),
  (76, [4], [(.iload 4, 2, 0, 0), (.bipush 8, 2, 0, 0), (.irem, 1, 0, 0)]),
  (81, [], [(.ireturn, 1, 0, 0)])], none)
noncomputable def GT_up (x1 : Int32) (x2 : Int32) (x3 : Int32) (M : AM) : Option (Option Value × AM) := mD C_GT_up [.ref 0, .int x1, .int x2, .int x3] M
noncomputable def C_GT_held : MC := (4, 1, [(0, 9, 2, mD C_GT_isTree), (0, 9, 2, mD C_GT_isNode), (0, 9, 2, mD C_GT_isLink)], [(0, [0, 1, 2, 3], [(.aload_n 0, 1, 0, 0), (.iload_n 1, 1, 0, 0), (.invokevirtual 189, 3, 0, 1), (.ifCond .eq 19, 3, 24, 0), (.aload_n 0, 1, 0, 0), (.iload_n 2, 1, 0, 0), (.invokevirtual 145, 3, 1, 1), (.ifCond .eq 11, 3, 24, 0), (.aload_n 0, 1, 0, 0), (.iload_n 3, 1, 0, 0), (.invokevirtual 177, 3, 2, 1), (.ifCond .ne 5, 3, 26, 0)]),
  (24, [], [(.iconst (-1), 1, 0, 0), (.ireturn, 1, 0, 0)]),
  (26, [0, 1, 2, 3], [(.aload_n 0, 1, 0, 0), (.getfield 55, 3, 9, 5), (.getfield 202, 3, 7, 4), (.iload_n 1, 1, 0, 0), (.bipush 7, 2, 0, 0), (.imul, 1, 0, 0), (.iload_n 2, 1, 0, 0), (.iadd, 1, 0, 0), (.bipush 8, 2, 0, 0), (.imul, 1, 0, 0), (.iload_n 3, 1, 0, 0), (.iadd, 1, 0, 0), (.iaload, 1, 0, 0), (.ireturn, 1, 0, 0)])], none)
noncomputable def GT_held (x1 : Int32) (x2 : Int32) (x3 : Int32) (M : AM) : Option (Option Value × AM) := mD C_GT_held [.ref 0, .int x1, .int x2, .int x3] M
noncomputable def C_Net_calls : MC := (5, 3, [], [(0, [1, 2, 3], [(.aload_n 1, 1, 0, 0), (.getfield 100, 3, 7, 5), (.iload_n 2, 1, 0, 0), (.bipush 7, 2, 0, 0), (.imul, 1, 0, 0), (.iload_n 3, 1, 0, 0), (.iadd, 1, 0, 0), (.iaload, 1, 0, 0), (.ifCond .eq 5, 3, 16, 0), (.iconst 1, 1, 0, 0), (.ireturn, 1, 0, 0)]),
  (16, [1, 2, 3], [(.iload_n 2, 1, 0, 0), (.ifCond .ne 10, 3, 27, 0), (.aload_n 1, 1, 0, 0), (.getfield 105, 3, 7, 7), (.goto 16, 3, 40, 0)]),
  (27, [1, 2, 3], [(.aload_n 1, 1, 0, 0), (.getfield 105, 3, 7, 7), (.aload_n 1, 1, 0, 0), (.getfield 108, 3, 7, 0), (.iload_n 2, 1, 0, 0), (.iconst 1, 1, 0, 0), (.isub, 1, 0, 0), (.iaload, 1, 0, 0), (.iand, 1, 0, 0)]),
  (40, [3], [(.istore 4, 2, 0, 0), (.iload 4, 2, 0, 0), (.iload_n 3, 1, 0, 0), (.ishr, 1, 0, 0), (.iconst 1, 1, 0, 0), (.iand, 1, 0, 0), (.ifCond .eq 7, 3, 55, 0), (.iconst 1, 1, 0, 0), (.goto 4, 3, 56, 0)]),
  (55, [], [(.iconst 0, 1, 0, 0)]),
  (56, [], [(.ireturn, 1, 0, 0)])], none)
noncomputable def Net_calls (o1 : Nat) (x2 : Int32) (x3 : Int32) (M : AM) : Option (Option Value × AM) := mD C_Net_calls [.ref 26, .ref o1, .int x2, .int x3] M
noncomputable def C_Net_wanted : MC := (4, 3, [(0, 2, 4, mD C_Net_calls)], [(0, [0, 1, 2, 3], [(.aload_n 0, 1, 0, 0), (.aload_n 1, 1, 0, 0), (.iload_n 2, 1, 0, 0), (.iload_n 3, 1, 0, 0), (.invokevirtual 93, 3, 0, 1), (.ifCond .eq 5, 3, 12, 0), (.iconst 1, 1, 0, 0), (.ireturn, 1, 0, 0)]),
  (12, [0, 1, 2, 3], [(.iload_n 2, 1, 0, 0), (.ifCond .le 28, 3, 41, 0), (.iload_n 3, 1, 0, 0), (.aload_n 0, 1, 0, 0), (.getfield 33, 3, 2, 6), (.getfield 97, 3, 5, 16), (.if_icmp .ne 17, 3, 41, 0), (.aload_n 0, 1, 0, 0), (.aload_n 1, 1, 0, 0), (.iconst 0, 1, 0, 0), (.iload_n 3, 1, 0, 0), (.invokevirtual 93, 3, 0, 1), (.ifCond .eq 7, 3, 41, 0), (.iconst 1, 1, 0, 0), (.goto 4, 3, 42, 0)]),
  (41, [], [(.iconst 0, 1, 0, 0)]),
  (42, [], [(.ireturn, 1, 0, 0)])], none)
noncomputable def Net_wanted (o1 : Nat) (x2 : Int32) (x3 : Int32) (M : AM) : Option (Option Value × AM) := mD C_Net_wanted [.ref 26, .ref o1, .int x2, .int x3] M
noncomputable def C_GT_wants : MC := (3, 1, [(0, 9, 2, mD C_GT_isTree), (0, 9, 2, mD C_GT_isNode), (0, 2, 4, mD C_Net_wanted)], [(0, [0, 1, 2], [(.aload_n 0, 1, 0, 0), (.iload_n 1, 1, 0, 0), (.invokevirtual 189, 3, 0, 1), (.ifCond .eq 11, 3, 16, 0), (.aload_n 0, 1, 0, 0), (.iload_n 2, 1, 0, 0), (.invokevirtual 145, 3, 1, 1), (.ifCond .ne 5, 3, 18, 0)]),
  (16, [], [(.iconst (-1), 1, 0, 0), (.ireturn, 1, 0, 0)]),
  (18, [0, 1, 2], [(.aload_n 0, 1, 0, 0), (.getfield 39, 3, 9, 3), (.aload_n 0, 1, 0, 0), (.getfield 55, 3, 9, 5), (.iload_n 1, 1, 0, 0), (.iload_n 2, 1, 0, 0), (.invokevirtual 205, 3, 2, 1), (.ifCond .eq 7, 3, 38, 0), (.iconst 1, 1, 0, 0), (.goto 4, 3, 39, 0)]),
  (38, [], [(.iconst 0, 1, 0, 0)]),
  (39, [], [(.ireturn, 1, 0, 0)])], none)
noncomputable def GT_wants (x1 : Int32) (x2 : Int32) (M : AM) : Option (Option Value × AM) := mD C_GT_wants [.ref 0, .int x1, .int x2] M
noncomputable def C_GT_law : MC := (4, 2, [(0, 9, 2, mD C_GT_isTree), (0, 9, 2, mD C_GT_isNode), (0, 2, 2, mD C_Net_measure), (0, 2, 5, mD C_Net_work)], [(0, [0, 1, 2, 3], [(.iload_n 1, 1, 0, 0), (.ifCond .lt 24, 3, 25, 0), (.iload_n 1, 1, 0, 0), (.iconst 3, 1, 0, 0), (.if_icmp .ge 19, 3, 25, 0), (.aload_n 0, 1, 0, 0), (.iload_n 2, 1, 0, 0), (.invokevirtual 189, 3, 0, 1), (.ifCond .eq 11, 3, 25, 0), (.aload_n 0, 1, 0, 0), (.iload_n 3, 1, 0, 0), (.invokevirtual 145, 3, 1, 1), (.ifCond .ne 7, 3, 29, 0)]),
  (25, [], [(.ldc2_w 209, 3, 9223372036854775808, 0), (.lreturn, 1, 0, 0)]),
  (29, [0, 1, 2, 3], [(.iload_n 1, 1, 0, 0), (.iconst 1, 1, 0, 0), (.if_icmp .ne 11, 3, 42, 0), (.iload_n 2, 1, 0, 0), (.ifCond .ne 7, 3, 42, 0), (.ldc2_w 209, 3, 9223372036854775808, 0), (.lreturn, 1, 0, 0)]),
  (42, [0, 1, 2, 3], [(.aload_n 0, 1, 0, 0), (.getfield 39, 3, 9, 3), (.aload_n 0, 1, 0, 0), (.getfield 55, 3, 9, 5), (.getfield 186, 3, 7, 8), (.invokevirtual 192, 3, 2, 0), (.aload_n 0, 1, 0, 0), (.getfield 39, 3, 9, 3), (.bipush 13, 2, 0, 0), (.iload_n 1, 1, 0, 0), (.iadd, 1, 0, 0), (.aload_n 0, 1, 0, 0), (.getfield 55, 3, 9, 5), (.iload_n 2, 1, 0, 0), (.iload_n 3, 1, 0, 0), (.invokevirtual 211, 3, 3, 2), (.lreturn, 1, 0, 0)])], none)
noncomputable def GT_law (x1 : Int32) (x2 : Int32) (x3 : Int32) (M : AM) : Option (Option Value × AM) := mD C_GT_law [.ref 0, .int x1, .int x2, .int x3] M
noncomputable def GT_law_42 (x1 : Int32) (x2 : Int32) (x3 : Int32) (M : AM) : Option (Option Value × AM) := it C_GT_law 42 [(0, .ref 0), (1, .int x1), (2, .int x2), (3, .int x3)] [] M
noncomputable def C_State_pack : MC := (4, 0, [(2, 0, 0, fun _ _ => none)], [(0, [0, 1, 2], [(.aload_n 1, 1, 0, 0), (.iload_n 2, 1, 0, 0), (.aload_n 0, 1, 0, 0), (.getfield 34, 3, 7, 7), (.iastore, 1, 0, 0), (.aload_n 1, 1, 0, 0), (.iload_n 2, 1, 0, 0), (.iconst 1, 1, 0, 0), (.iadd, 1, 0, 0), (.aload_n 0, 1, 0, 0), (.getfield 37, 3, 7, 8), (.iastore, 1, 0, 0), (.aload_n 1, 1, 0, 0), (.iload_n 2, 1, 0, 0), (.iconst 2, 1, 0, 0), (.iadd, 1, 0, 0), (.aload_n 0, 1, 0, 0), (.getfield 40, 3, 7, 9), (.iastore, 1, 0, 0), (.aload_n 1, 1, 0, 0), (.iload_n 2, 1, 0, 0), (.iconst 3, 1, 0, 0), (.iadd, 1, 0, 0), (.aload_n 0, 1, 0, 0), (.getfield 46, 3, 7, 11), (.iastore, 1, 0, 0), (.iload_n 2, 1, 0, 0), (.iconst 4, 1, 0, 0), (.iadd, 1, 0, 0), (.istore_n 3, 1, 0, 0), (.aload_n 0, 1, 0, 0), (.getfield 9, 3, 7, 0), (.iconst 0, 1, 0, 0), (.aload_n 1, 1, 0, 0), (.iload_n 3, 1, 0, 0), (.iconst 3, 1, 0, 0), (.invokestatic 58, 3, 0, 0), (.aload_n 0, 1, 0, 0), (.getfield 15, 3, 7, 1), (.iconst 0, 1, 0, 0), (.aload_n 1, 1, 0, 0), (.iload_n 3, 1, 0, 0), (.iconst 3, 1, 0, 0), (.iadd, 1, 0, 0), (.bipush 7, 2, 0, 0), (.invokestatic 58, 3, 0, 0), (.aload_n 0, 1, 0, 0), (.getfield 18, 3, 7, 2), (.iconst 0, 1, 0, 0), (.aload_n 1, 1, 0, 0), (.iload_n 3, 1, 0, 0), (.iconst 3, 1, 0, 0), (.iadd, 1, 0, 0), (.bipush 7, 2, 0, 0), (.iadd, 1, 0, 0), (.bipush 7, 2, 0, 0), (.invokestatic 58, 3, 0, 0), (.aload_n 0, 1, 0, 0), (.getfield 21, 3, 7, 3), (.iconst 0, 1, 0, 0), (.aload_n 1, 1, 0, 0), (.iload_n 3, 1, 0, 0), (.iconst 3, 1, 0, 0), (.iadd, 1, 0, 0), (.bipush 14, 2, 0, 0), (.iadd, 1, 0, 0), (.bipush 7, 2, 0, 0), (.invokestatic 58, 3, 0, 0), (.return_, 1, 0, 0)])], none)
noncomputable def State_pack (x2 : Int32) (M : AM) : Option (Option Value × AM) := mD C_State_pack [.ref 51, .ref 73, .int x2] M
noncomputable def C_Past_remember : MC := (2, 0, [(0, 7, 3, mD C_State_pack), (3, 0, 0, fun _ _ => none)], [(0, [0, 1], [(.aload_n 1, 1, 0, 0), (.aload_n 0, 1, 0, 0), (.getfield 11, 3, 4, 0), (.aload_n 0, 1, 0, 0), (.getfield 17, 3, 4, 1), (.bipush 28, 2, 0, 0), (.imul, 1, 0, 0), (.invokevirtual 24, 3, 0, 0), (.aload_n 0, 1, 0, 0), (.aload_n 0, 1, 0, 0), (.getfield 17, 3, 4, 1), (.iconst 1, 1, 0, 0), (.iadd, 1, 0, 0), (.bipush 20, 2, 0, 0), (.irem, 1, 0, 0), (.putfield 17, 3, 4, 1), (.aload_n 0, 1, 0, 0), (.aload_n 0, 1, 0, 0), (.getfield 21, 3, 4, 2), (.iconst 1, 1, 0, 0), (.iadd, 1, 0, 0), (.bipush 20, 2, 0, 0), (.invokestatic 28, 3, 1, 0), (.putfield 21, 3, 4, 2), (.return_, 1, 0, 0)])], none)
noncomputable def Past_remember (M : AM) : Option (Option Value × AM) := mD C_Past_remember [.ref 72, .ref 51] M
noncomputable def C_State_stopListening : MC := (3, 0, [], [(0, [0, 1], [(.aload_n 0, 1, 0, 0), (.dup, 1, 0, 0), (.getfield 34, 3, 7, 7), (.iconst 1, 1, 0, 0), (.iload_n 1, 1, 0, 0), (.ishl, 1, 0, 0), (.iconst (-1), 1, 0, 0), (.ixor, 1, 0, 0), (.iand, 1, 0, 0), (.putfield 34, 3, 7, 7), (.iconst 0, 1, 0, 0), (.istore_n 2, 1, 0, 0)]),
  (16, [0, 1, 2], [(.iload_n 2, 1, 0, 0), (.iconst 3, 1, 0, 0), (.if_icmp .ge 23, 3, 41, 0), (.aload_n 0, 1, 0, 0), (.getfield 9, 3, 7, 0), (.iload_n 2, 1, 0, 0), (.dup2, 1, 0, 0), (.iaload, 1, 0, 0), (.iconst 1, 1, 0, 0), (.iload_n 1, 1, 0, 0), (.ishl, 1, 0, 0), (.iconst (-1), 1, 0, 0), (.ixor, 1, 0, 0), (.iand, 1, 0, 0), (.iastore, 1, 0, 0), (.iinc 2 1, 3, 0, 0), (.goto (-22), 3, 16, 0)]),
  (41, [], [(.return_, 1, 0, 0)])], none)
noncomputable def State_stopListening (o0 : Nat) (x1 : Int32) (M : AM) : Option (Option Value × AM) := mD C_State_stopListening [.ref o0, .int x1] M
noncomputable def State_stopListening_16 (o0 : Nat) (x1 : Int32) (x2 : Int32) (M : AM) : Option (Option Value × AM) := it C_State_stopListening 16 [(0, .ref o0), (1, .int x1), (2, .int x2)] [] M
noncomputable def C_GT_listen : MC := (2, 1, [(0, 9, 2, mD C_GT_isNode), (0, 4, 2, mD C_Past_remember), (0, 7, 2, mD C_State_stopListening)], [(0, [0, 1], [(.aload_n 0, 1, 0, 0), (.iload_n 1, 1, 0, 0), (.invokevirtual 145, 3, 0, 1), (.ifCond .ne 5, 3, 10, 0), (.iconst (-1), 1, 0, 0), (.ireturn, 1, 0, 0)]),
  (10, [0, 1], [(.aload_n 0, 1, 0, 0), (.getfield 68, 3, 9, 8), (.aload_n 0, 1, 0, 0), (.getfield 55, 3, 9, 5), (.invokevirtual 215, 3, 1, 0), (.aload_n 0, 1, 0, 0), (.getfield 55, 3, 9, 5), (.getfield 156, 3, 7, 7), (.iload_n 1, 1, 0, 0), (.ishr, 1, 0, 0), (.iconst 1, 1, 0, 0), (.iand, 1, 0, 0), (.ifCond .eq 13, 3, 45, 0), (.aload_n 0, 1, 0, 0), (.getfield 55, 3, 9, 5), (.iload_n 1, 1, 0, 0), (.invokevirtual 219, 3, 2, 0), (.iconst 0, 1, 0, 0), (.ireturn, 1, 0, 0)]),
  (45, [0, 1], [(.aload_n 0, 1, 0, 0), (.getfield 55, 3, 9, 5), (.dup, 1, 0, 0), (.getfield 156, 3, 7, 7), (.iconst 1, 1, 0, 0), (.iload_n 1, 1, 0, 0), (.ishl, 1, 0, 0), (.ior, 1, 0, 0), (.putfield 156, 3, 7, 7), (.iconst 1, 1, 0, 0), (.ireturn, 1, 0, 0)])], none)
noncomputable def GT_listen (x1 : Int32) (M : AM) : Option (Option Value × AM) := mD C_GT_listen [.ref 0, .int x1] M
noncomputable def C_GT_cut : MC := (2, 1, [(0, 9, 2, mD C_GT_isLink), (0, 4, 2, mD C_Past_remember)], [(0, [0, 1], [(.aload_n 0, 1, 0, 0), (.iload_n 1, 1, 0, 0), (.invokevirtual 177, 3, 0, 1), (.ifCond .ne 5, 3, 10, 0), (.iconst (-1), 1, 0, 0), (.ireturn, 1, 0, 0)]),
  (10, [0, 1], [(.aload_n 0, 1, 0, 0), (.getfield 68, 3, 9, 8), (.aload_n 0, 1, 0, 0), (.getfield 55, 3, 9, 5), (.invokevirtual 215, 3, 1, 0), (.aload_n 0, 1, 0, 0), (.getfield 55, 3, 9, 5), (.dup, 1, 0, 0), (.getfield 186, 3, 7, 8), (.iconst 1, 1, 0, 0), (.iload_n 1, 1, 0, 0), (.ishl, 1, 0, 0), (.ixor, 1, 0, 0), (.putfield 186, 3, 7, 8), (.aload_n 0, 1, 0, 0), (.getfield 55, 3, 9, 5), (.getfield 186, 3, 7, 8), (.iload_n 1, 1, 0, 0), (.ishr, 1, 0, 0), (.iconst 1, 1, 0, 0), (.iand, 1, 0, 0), (.ireturn, 1, 0, 0)])], none)
noncomputable def GT_cut (x1 : Int32) (M : AM) : Option (Option Value × AM) := mD C_GT_cut [.ref 0, .int x1] M
noncomputable def C_GT_isSource : MC := (2, 3, [], [(0, [0, 1], [(.iload_n 1, 1, 0, 0), (.ifCond .lt 21, 3, 22, 0), (.iload_n 1, 1, 0, 0), (.aload_n 0, 1, 0, 0), (.getfield 39, 3, 9, 3), (.getfield 109, 3, 2, 6), (.getfield 142, 3, 5, 13), (.if_icmp .ge 7, 3, 22, 0), (.iconst 1, 1, 0, 0), (.goto 4, 3, 23, 0)]),
  (22, [], [(.iconst 0, 1, 0, 0)]),
  (23, [], [(.ireturn, 1, 0, 0)])], none)
noncomputable def GT_isSource (x1 : Int32) (M : AM) : Option (Option Value × AM) := mD C_GT_isSource [.ref 0, .int x1] M
noncomputable def C_Course_plain : MC := (2, 0, [], [(0, [0, 1], [(.aload_n 0, 1, 0, 0), (.iconst 0, 1, 0, 0), (.putfield 21, 3, 0, 4), (.aload_n 0, 1, 0, 0), (.iload_n 1, 1, 0, 0), (.putfield 25, 3, 0, 5), (.aload_n 0, 1, 0, 0), (.iconst (-1), 1, 0, 0), (.putfield 28, 3, 0, 6), (.aload_n 0, 1, 0, 0), (.iconst (-1), 1, 0, 0), (.putfield 32, 3, 0, 7), (.return_, 1, 0, 0)])], none)
noncomputable def Course_plain (x1 : Int32) (M : AM) : Option (Option Value × AM) := mD C_Course_plain [.ref 47, .int x1] M
noncomputable def C_Course_lost : MC := (3, 3, [], [(0, [0, 1], [(.aload_n 0, 1, 0, 0), (.getfield 28, 3, 0, 6), (.ifCond .ne 7, 3, 11, 0), (.iconst 0, 1, 0, 0), (.goto 13, 3, 21, 0)]),
  (11, [0, 1], [(.aload_n 0, 1, 0, 0), (.getfield 35, 3, 0, 0), (.getfield 43, 3, 2, 6), (.getfield 205, 3, 5, 18)]),
  (21, [0, 1], [(.istore_n 2, 1, 0, 0), (.iload_n 2, 1, 0, 0), (.ifCond .eq 9, 3, 32, 0), (.iload_n 2, 1, 0, 0), (.bipush 100, 2, 0, 0), (.if_icmp .ne 15, 3, 44, 0)]),
  (32, [2], [(.iload_n 2, 1, 0, 0), (.bipush 100, 2, 0, 0), (.if_icmp .ne 7, 3, 42, 0), (.iconst 1, 1, 0, 0), (.goto 4, 3, 43, 0)]),
  (42, [], [(.iconst 0, 1, 0, 0)]),
  (43, [], [(.ireturn, 1, 0, 0)]),
  (44, [0, 1, 2], [(.aload_n 0, 1, 0, 0), (.getfield 21, 3, 0, 4), (.ifCond .ne 15, 3, 63, 0), (.iload_n 2, 1, 0, 0), (.bipush 50, 2, 0, 0), (.if_icmp .lt 7, 3, 61, 0), (.iconst 1, 1, 0, 0), (.goto 4, 3, 62, 0)]),
  (61, [], [(.iconst 0, 1, 0, 0)]),
  (62, [], [(.ireturn, 1, 0, 0)]),
  (63, [1, 2], [(.aload_n 1, 1, 0, 0), (.aload_n 1, 1, 0, 0), (.getfield 208, 3, 7, 12), (.ldc 211, 2, 1103515245, 0), (.imul, 1, 0, 0), (.sipush 12345, 3, 0, 0), (.iadd, 1, 0, 0), (.ldc 212, 2, 2147483647, 0), (.iand, 1, 0, 0), (.putfield 208, 3, 7, 12), (.aload_n 1, 1, 0, 0), (.getfield 208, 3, 7, 12), (.ldc 213, 2, 65536, 0), (.idiv, 1, 0, 0), (.bipush 100, 2, 0, 0), (.irem, 1, 0, 0), (.iload_n 2, 1, 0, 0), (.if_icmp .ge 7, 3, 99, 0), (.iconst 1, 1, 0, 0), (.goto 4, 3, 100, 0)]),
  (99, [], [(.iconst 0, 1, 0, 0)]),
  (100, [], [(.ireturn, 1, 0, 0)])], none)
noncomputable def Course_lost (o1 : Nat) (M : AM) : Option (Option Value × AM) := mD C_Course_lost [.ref 47, .ref o1] M
noncomputable def Course_lost_21 (o1 : Nat) (z0 : Int32) (M : AM) : Option (Option Value × AM) := it C_Course_lost 21 [(0, .ref 47), (1, .ref o1)] [.int z0] M
noncomputable def C_Course_passOn : MC := (8, 1, [(0, 0, 2, mD C_Course_lost)], [(0, [0, 1, 2, 3, 4], [(.iconst 0, 1, 0, 0), (.istore 5, 2, 0, 0), (.iconst 0, 1, 0, 0), (.istore 6, 2, 0, 0)]),
  (6, [0, 1, 2, 3, 4, 5, 6], [(.iload 6, 2, 0, 0), (.aload_n 0, 1, 0, 0), (.getfield 35, 3, 0, 0), (.getfield 43, 3, 2, 6), (.getfield 198, 3, 5, 12), (.if_icmp .ge 78, 3, 96, 0), (.iload_n 3, 1, 0, 0), (.iload 6, 2, 0, 0), (.ishr, 1, 0, 0), (.iconst 1, 1, 0, 0), (.iand, 1, 0, 0), (.ifCond .eq 63, 3, 90, 0), (.aload_n 0, 1, 0, 0), (.aload_n 1, 1, 0, 0), (.invokevirtual 201, 3, 0, 1), (.ifCond .ne 55, 3, 90, 0), (.iconst 0, 1, 0, 0), (.istore 7, 2, 0, 0)]),
  (41, [0, 1, 2, 3, 4, 5, 6, 7], [(.iload 7, 2, 0, 0), (.aload_n 0, 1, 0, 0), (.getfield 35, 3, 0, 0), (.getfield 43, 3, 2, 6), (.getfield 71, 3, 5, 11), (.if_icmp .ge 37, 3, 90, 0), (.iload 5, 2, 0, 0), (.aload 4, 2, 0, 0), (.iload 7, 2, 0, 0), (.iaload, 1, 0, 0), (.iload 6, 2, 0, 0), (.bipush 8, 2, 0, 0), (.imul, 1, 0, 0), (.iload_n 2, 1, 0, 0), (.iadd, 1, 0, 0), (.if_icmp .ne 10, 3, 80, 0), (.iconst 1, 1, 0, 0), (.iload 7, 2, 0, 0), (.ishl, 1, 0, 0), (.goto 4, 3, 81, 0)]),
  (80, [0, 1, 2, 3, 4, 6, 7], [(.iconst 0, 1, 0, 0)]),
  (81, [0, 1, 2, 3, 4, 6, 7], [(.ior, 1, 0, 0), (.istore 5, 2, 0, 0), (.iinc 7 1, 3, 0, 0), (.goto (-46), 3, 41, 0)]),
  (90, [0, 1, 2, 3, 4, 5, 6], [(.iinc 6 1, 3, 0, 0), (.goto (-87), 3, 6, 0)]),
  (96, [5], [(.iload 5, 2, 0, 0), (.ireturn, 1, 0, 0)])], none)
noncomputable def Course_passOn (o1 : Nat) (x2 : Int32) (x3 : Int32) (o4 : Nat) (M : AM) : Option (Option Value × AM) := mD C_Course_passOn [.ref 47, .ref o1, .int x2, .int x3, .ref o4] M
noncomputable def Course_passOn_6 (o1 : Nat) (x2 : Int32) (x3 : Int32) (o4 : Nat) (x5 : Int32) (x6 : Int32) (M : AM) : Option (Option Value × AM) := it C_Course_passOn 6 [(0, .ref 47), (1, .ref o1), (2, .int x2), (3, .int x3), (4, .ref o4), (5, .int x5), (6, .int x6)] [] M
noncomputable def Course_passOn_41 (o1 : Nat) (x2 : Int32) (x3 : Int32) (o4 : Nat) (x5 : Int32) (x6 : Int32) (x7 : Int32) (M : AM) : Option (Option Value × AM) := it C_Course_passOn 41 [(0, .ref 47), (1, .ref o1), (2, .int x2), (3, .int x3), (4, .ref o4), (5, .int x5), (6, .int x6), (7, .int x7)] [] M
noncomputable def C_Course_down : MC := (12, 1, [(0, 5, 2, mD C_Plan_root), (1, 0, 1, mD C_Jint_bitCount), (0, 0, 5, mD C_Course_passOn)], [(0, [0, 1, 2, 3, 4], [(.iconst 1, 1, 0, 0), (.aload_n 0, 1, 0, 0), (.getfield 35, 3, 0, 0), (.getfield 43, 3, 2, 6), (.iload_n 2, 1, 0, 0), (.invokevirtual 179, 3, 0, 1), (.ishl, 1, 0, 0), (.istore 5, 2, 0, 0), (.iload 5, 2, 0, 0), (.istore 6, 2, 0, 0), (.iconst 0, 1, 0, 0), (.istore 7, 2, 0, 0), (.iconst 0, 1, 0, 0), (.istore 8, 2, 0, 0)]),
  (25, [0, 1, 2, 3, 4, 5, 6, 7, 8], [(.iload 8, 2, 0, 0), (.bipush 7, 2, 0, 0), (.if_icmp .gt 137, 3, 166, 0), (.iload 6, 2, 0, 0), (.ifCond .eq 132, 3, 166, 0), (.iconst 0, 1, 0, 0), (.istore 9, 2, 0, 0), (.iconst 0, 1, 0, 0), (.istore 10, 2, 0, 0)]),
  (43, [0, 1, 2, 3, 4, 5, 6, 7, 8, 9, 10], [(.iload 10, 2, 0, 0), (.aload_n 0, 1, 0, 0), (.getfield 35, 3, 0, 0), (.getfield 43, 3, 2, 6), (.getfield 71, 3, 5, 11), (.if_icmp .ge 94, 3, 149, 0), (.iload 6, 2, 0, 0), (.iload 10, 2, 0, 0), (.ishr, 1, 0, 0), (.iconst 1, 1, 0, 0), (.iand, 1, 0, 0), (.ifCond .eq 78, 3, 143, 0), (.aload_n 1, 1, 0, 0), (.getfield 183, 3, 7, 5), (.iload_n 2, 1, 0, 0), (.bipush 7, 2, 0, 0), (.imul, 1, 0, 0), (.iload 10, 2, 0, 0), (.iadd, 1, 0, 0), (.iaload, 1, 0, 0), (.aload_n 1, 1, 0, 0), (.getfield 53, 3, 7, 8), (.iconst (-1), 1, 0, 0), (.ixor, 1, 0, 0), (.iand, 1, 0, 0), (.istore 11, 2, 0, 0), (.aload_n 1, 1, 0, 0), (.dup, 1, 0, 0), (.getfield 186, 3, 7, 11), (.iload 11, 2, 0, 0), (.iload 7, 2, 0, 0), (.iand, 1, 0, 0), (.invokestatic 189, 3, 1, 1), (.iadd, 1, 0, 0), (.putfield 186, 3, 7, 11), (.iload 9, 2, 0, 0), (.aload_n 0, 1, 0, 0), (.aload_n 1, 1, 0, 0), (.iload 10, 2, 0, 0), (.iload 11, 2, 0, 0), (.iload 7, 2, 0, 0), (.iconst (-1), 1, 0, 0), (.ixor, 1, 0, 0), (.iand, 1, 0, 0), (.aload_n 3, 1, 0, 0), (.invokevirtual 194, 3, 2, 1), (.iload 5, 2, 0, 0), (.iconst (-1), 1, 0, 0), (.ixor, 1, 0, 0), (.iand, 1, 0, 0), (.iload 4, 2, 0, 0), (.iconst (-1), 1, 0, 0), (.ixor, 1, 0, 0), (.iand, 1, 0, 0), (.ior, 1, 0, 0), (.istore 9, 2, 0, 0), (.iload 7, 2, 0, 0), (.iload 11, 2, 0, 0), (.ior, 1, 0, 0), (.istore 7, 2, 0, 0)]),
  (143, [0, 1, 2, 3, 4, 5, 6, 7, 8, 9, 10], [(.iinc 10 1, 3, 0, 0), (.goto (-103), 3, 43, 0)]),
  (149, [0, 1, 2, 3, 4, 5, 7, 8, 9], [(.iload 5, 2, 0, 0), (.iload 9, 2, 0, 0), (.ior, 1, 0, 0), (.istore 5, 2, 0, 0), (.iload 9, 2, 0, 0), (.istore 6, 2, 0, 0), (.iinc 8 1, 3, 0, 0), (.goto (-138), 3, 25, 0)]),
  (166, [5], [(.iload 5, 2, 0, 0), (.ireturn, 1, 0, 0)])], none)
noncomputable def Course_down (o1 : Nat) (x2 : Int32) (o3 : Nat) (x4 : Int32) (M : AM) : Option (Option Value × AM) := mD C_Course_down [.ref 47, .ref o1, .int x2, .ref o3, .int x4] M
noncomputable def Course_down_25 (o1 : Nat) (x2 : Int32) (o3 : Nat) (x4 : Int32) (x5 : Int32) (x6 : Int32) (x7 : Int32) (x8 : Int32) (M : AM) : Option (Option Value × AM) := it C_Course_down 25 [(0, .ref 47), (1, .ref o1), (2, .int x2), (3, .ref o3), (4, .int x4), (5, .int x5), (6, .int x6), (7, .int x7), (8, .int x8)] [] M
noncomputable def Course_down_43 (o1 : Nat) (x2 : Int32) (o3 : Nat) (x4 : Int32) (x5 : Int32) (x6 : Int32) (x7 : Int32) (x8 : Int32) (x9 : Int32) (x10 : Int32) (M : AM) : Option (Option Value × AM) := it C_Course_down 43 [(0, .ref 47), (1, .ref o1), (2, .int x2), (3, .ref o3), (4, .int x4), (5, .int x5), (6, .int x6), (7, .int x7), (8, .int x8), (9, .int x9), (10, .int x10)] [] M
noncomputable def C_Course_hear : MC := (6, 0, [], [(0, [0, 1, 2, 3], [(.iconst 0, 1, 0, 0), (.istore 4, 2, 0, 0)]),
  (3, [0, 1, 2, 3, 4], [(.iload 4, 2, 0, 0), (.aload_n 0, 1, 0, 0), (.getfield 35, 3, 0, 0), (.getfield 43, 3, 2, 6), (.getfield 71, 3, 5, 11), (.if_icmp .ge 97, 3, 112, 0), (.aload_n 1, 1, 0, 0), (.getfield 114, 3, 7, 7), (.iload 4, 2, 0, 0), (.ishr, 1, 0, 0), (.iconst 1, 1, 0, 0), (.iand, 1, 0, 0), (.ifCond .eq 79, 3, 106, 0), (.iload_n 2, 1, 0, 0), (.iload 4, 2, 0, 0), (.ishr, 1, 0, 0), (.iconst 1, 1, 0, 0), (.iand, 1, 0, 0), (.iload_n 3, 1, 0, 0), (.iload 4, 2, 0, 0), (.ishr, 1, 0, 0), (.iconst 1, 1, 0, 0), (.iand, 1, 0, 0), (.iadd, 1, 0, 0), (.istore 5, 2, 0, 0), (.aload_n 1, 1, 0, 0), (.getfield 214, 3, 7, 1), (.iload 4, 2, 0, 0), (.dup2, 1, 0, 0), (.iaload, 1, 0, 0), (.iload 5, 2, 0, 0), (.ifCond .le 7, 3, 62, 0), (.iconst 1, 1, 0, 0), (.goto 4, 3, 63, 0)]),
  (62, [0, 1, 2, 3, 4, 5], [(.iconst 0, 1, 0, 0)]),
  (63, [0, 1, 2, 3, 4, 5], [(.iadd, 1, 0, 0), (.iastore, 1, 0, 0), (.aload_n 1, 1, 0, 0), (.getfield 217, 3, 7, 2), (.iload 4, 2, 0, 0), (.dup2, 1, 0, 0), (.iaload, 1, 0, 0), (.iload 5, 2, 0, 0), (.iconst 1, 1, 0, 0), (.if_icmp .le 7, 3, 83, 0), (.iconst 1, 1, 0, 0), (.goto 4, 3, 84, 0)]),
  (83, [0, 1, 2, 3, 4, 5], [(.iconst 0, 1, 0, 0)]),
  (84, [0, 1, 2, 3, 4, 5], [(.iadd, 1, 0, 0), (.iastore, 1, 0, 0), (.aload_n 1, 1, 0, 0), (.getfield 220, 3, 7, 3), (.iload 4, 2, 0, 0), (.dup2, 1, 0, 0), (.iaload, 1, 0, 0), (.iload 5, 2, 0, 0), (.ifCond .ne 7, 3, 103, 0), (.iconst 1, 1, 0, 0), (.goto 4, 3, 104, 0)]),
  (103, [0, 1, 2, 3, 4], [(.iconst 0, 1, 0, 0)]),
  (104, [0, 1, 2, 3, 4], [(.iadd, 1, 0, 0), (.iastore, 1, 0, 0)]),
  (106, [0, 1, 2, 3, 4], [(.iinc 4 1, 3, 0, 0), (.goto (-106), 3, 3, 0)]),
  (112, [], [(.return_, 1, 0, 0)])], none)
noncomputable def Course_hear (o1 : Nat) (x2 : Int32) (x3 : Int32) (M : AM) : Option (Option Value × AM) := mD C_Course_hear [.ref 47, .ref o1, .int x2, .int x3] M
noncomputable def Course_hear_3 (o1 : Nat) (x2 : Int32) (x3 : Int32) (x4 : Int32) (M : AM) : Option (Option Value × AM) := it C_Course_hear 3 [(0, .ref 47), (1, .ref o1), (2, .int x2), (3, .int x3), (4, .int x4)] [] M
noncomputable def Course_hear_63 (o1 : Nat) (x2 : Int32) (x3 : Int32) (x4 : Int32) (x5 : Int32) (w0 : Nat) (z1 : Int32) (z2 : Int32) (z3 : Int32) (M : AM) : Option (Option Value × AM) := it C_Course_hear 63 [(0, .ref 47), (1, .ref o1), (2, .int x2), (3, .int x3), (4, .int x4), (5, .int x5)] [.int z3, .int z2, .int z1, .ref w0] M
noncomputable def Course_hear_84 (o1 : Nat) (x2 : Int32) (x3 : Int32) (x4 : Int32) (x5 : Int32) (w0 : Nat) (z1 : Int32) (z2 : Int32) (z3 : Int32) (M : AM) : Option (Option Value × AM) := it C_Course_hear 84 [(0, .ref 47), (1, .ref o1), (2, .int x2), (3, .int x3), (4, .int x4), (5, .int x5)] [.int z3, .int z2, .int z1, .ref w0] M
noncomputable def C_Course_switchOver : MC := (6, 0, [(0, 2, 5, mD C_Net_work)], [(0, [0, 1, 2, 3], [(.aload_n 1, 1, 0, 0), (.getfield 114, 3, 7, 7), (.iload_n 3, 1, 0, 0), (.iand, 1, 0, 0), (.aload_n 1, 1, 0, 0), (.getfield 170, 3, 7, 0), (.iload_n 2, 1, 0, 0), (.iaload, 1, 0, 0), (.iconst (-1), 1, 0, 0), (.ixor, 1, 0, 0), (.iand, 1, 0, 0), (.istore 4, 2, 0, 0), (.iconst 0, 1, 0, 0), (.istore 5, 2, 0, 0)]),
  (20, [0, 1, 2, 4, 5], [(.iload 5, 2, 0, 0), (.aload_n 0, 1, 0, 0), (.getfield 35, 3, 0, 0), (.getfield 43, 3, 2, 6), (.getfield 71, 3, 5, 11), (.if_icmp .ge 52, 3, 84, 0), (.iload 4, 2, 0, 0), (.iload 5, 2, 0, 0), (.ishr, 1, 0, 0), (.iconst 1, 1, 0, 0), (.iand, 1, 0, 0), (.ifCond .eq 36, 3, 78, 0), (.aload_n 0, 1, 0, 0), (.getfield 35, 3, 0, 0), (.bipush 14, 2, 0, 0), (.aload_n 1, 1, 0, 0), (.iload_n 2, 1, 0, 0), (.iconst 1, 1, 0, 0), (.iadd, 1, 0, 0), (.iload 5, 2, 0, 0), (.invokevirtual 138, 3, 0, 2), (.lconst 0, 1, 0, 0), (.lcmp, 1, 0, 0), (.ifCond .eq 16, 3, 78, 0), (.aload_n 1, 1, 0, 0), (.getfield 170, 3, 7, 0), (.iload_n 2, 1, 0, 0), (.dup2, 1, 0, 0), (.iaload, 1, 0, 0), (.iconst 1, 1, 0, 0), (.iload 5, 2, 0, 0), (.ishl, 1, 0, 0), (.ior, 1, 0, 0), (.iastore, 1, 0, 0)]),
  (78, [0, 1, 2, 4, 5], [(.iinc 5 1, 3, 0, 0), (.goto (-61), 3, 20, 0)]),
  (84, [], [(.return_, 1, 0, 0)])], none)
noncomputable def Course_switchOver (o1 : Nat) (x2 : Int32) (x3 : Int32) (M : AM) : Option (Option Value × AM) := mD C_Course_switchOver [.ref 47, .ref o1, .int x2, .int x3] M
noncomputable def Course_switchOver_20 (o1 : Nat) (x2 : Int32) (x4 : Int32) (x5 : Int32) (M : AM) : Option (Option Value × AM) := it C_Course_switchOver 20 [(0, .ref 47), (1, .ref o1), (2, .int x2), (4, .int x4), (5, .int x5)] [] M
noncomputable def C_Course_packet : MC := (8, 1, [(0, 2, 4, mD C_Net_climb), (0, 0, 5, mD C_Course_down), (0, 0, 4, mD C_Course_hear), (0, 0, 4, mD C_Course_switchOver)], [(0, [0, 1, 2], [(.iload_n 2, 1, 0, 0), (.iconst 1, 1, 0, 0), (.iadd, 1, 0, 0), (.istore_n 3, 1, 0, 0), (.aload_n 0, 1, 0, 0), (.getfield 35, 3, 0, 0), (.getfield 43, 3, 2, 6), (.getfield 157, 3, 5, 16), (.istore 4, 2, 0, 0), (.iconst 0, 1, 0, 0), (.istore 5, 2, 0, 0)]),
  (19, [0, 1, 2, 3, 4, 5], [(.iload 5, 2, 0, 0), (.aload_n 0, 1, 0, 0), (.getfield 35, 3, 0, 0), (.getfield 43, 3, 2, 6), (.getfield 71, 3, 5, 11), (.if_icmp .ge 45, 3, 76, 0), (.aload_n 0, 1, 0, 0), (.getfield 15, 3, 0, 2), (.iload 5, 2, 0, 0), (.aload_n 0, 1, 0, 0), (.getfield 35, 3, 0, 0), (.aload_n 1, 1, 0, 0), (.iload_n 3, 1, 0, 0), (.iload 5, 2, 0, 0), (.invokevirtual 124, 3, 0, 1), (.iastore, 1, 0, 0), (.aload_n 0, 1, 0, 0), (.getfield 18, 3, 0, 3), (.iload 5, 2, 0, 0), (.aload_n 0, 1, 0, 0), (.getfield 35, 3, 0, 0), (.aload_n 1, 1, 0, 0), (.iconst 0, 1, 0, 0), (.iload 5, 2, 0, 0), (.invokevirtual 124, 3, 0, 1), (.iastore, 1, 0, 0), (.iinc 5 1, 3, 0, 0), (.goto (-54), 3, 19, 0)]),
  (76, [0, 1, 2, 3, 4], [(.aload_n 0, 1, 0, 0), (.aload_n 1, 1, 0, 0), (.iload_n 3, 1, 0, 0), (.aload_n 0, 1, 0, 0), (.getfield 15, 3, 0, 2), (.iconst 0, 1, 0, 0), (.invokevirtual 160, 3, 1, 1), (.istore 5, 2, 0, 0), (.iload 5, 2, 0, 0), (.iload 4, 2, 0, 0), (.ishr, 1, 0, 0), (.iconst 1, 1, 0, 0), (.iand, 1, 0, 0), (.ifCond .eq 7, 3, 103, 0), (.iconst 1, 1, 0, 0), (.goto 4, 3, 104, 0)]),
  (103, [0, 1, 2, 3, 4, 5], [(.iconst 0, 1, 0, 0)]),
  (104, [0, 1, 2, 3, 4, 5], [(.istore 6, 2, 0, 0), (.iload 6, 2, 0, 0), (.ifCond .ne 36, 3, 144, 0), (.aload_n 0, 1, 0, 0), (.getfield 35, 3, 0, 0), (.getfield 164, 3, 2, 0), (.iload_n 3, 1, 0, 0), (.bipush 7, 2, 0, 0), (.imul, 1, 0, 0), (.iload 4, 2, 0, 0), (.iadd, 1, 0, 0), (.iaload, 1, 0, 0), (.bipush 99, 2, 0, 0), (.if_icmp .ge 16, 3, 144, 0), (.aload_n 1, 1, 0, 0), (.dup, 1, 0, 0), (.getfield 167, 3, 7, 9), (.iconst 1, 1, 0, 0), (.iadd, 1, 0, 0), (.putfield 167, 3, 7, 9), (.iconst 1, 1, 0, 0), (.istore 6, 2, 0, 0)]),
  (144, [0, 1, 2, 5, 6], [(.iload 6, 2, 0, 0), (.ifCond .eq 25, 3, 171, 0), (.aload_n 0, 1, 0, 0), (.aload_n 1, 1, 0, 0), (.iconst 0, 1, 0, 0), (.aload_n 0, 1, 0, 0), (.getfield 18, 3, 0, 3), (.iload 5, 2, 0, 0), (.aload_n 1, 1, 0, 0), (.getfield 170, 3, 7, 0), (.iload_n 2, 1, 0, 0), (.iaload, 1, 0, 0), (.iand, 1, 0, 0), (.invokevirtual 160, 3, 1, 1), (.goto 4, 3, 172, 0)]),
  (171, [0, 1, 2, 5], [(.iconst 0, 1, 0, 0)]),
  (172, [0, 1, 2, 5], [(.istore 7, 2, 0, 0), (.aload_n 0, 1, 0, 0), (.aload_n 1, 1, 0, 0), (.iload 5, 2, 0, 0), (.iload 7, 2, 0, 0), (.invokevirtual 173, 3, 2, 0), (.aload_n 0, 1, 0, 0), (.getfield 28, 3, 0, 6), (.iconst 1, 1, 0, 0), (.if_icmp .eq 11, 3, 199, 0), (.aload_n 0, 1, 0, 0), (.aload_n 1, 1, 0, 0), (.iload_n 2, 1, 0, 0), (.iload 7, 2, 0, 0), (.invokevirtual 176, 3, 3, 0)]),
  (199, [1, 5, 7], [(.aload_n 1, 1, 0, 0), (.getfield 114, 3, 7, 7), (.iload 5, 2, 0, 0), (.iload 7, 2, 0, 0), (.ior, 1, 0, 0), (.iand, 1, 0, 0), (.ireturn, 1, 0, 0)])], none)
noncomputable def Course_packet (o1 : Nat) (x2 : Int32) (M : AM) : Option (Option Value × AM) := mD C_Course_packet [.ref 47, .ref o1, .int x2] M
noncomputable def Course_packet_19 (o1 : Nat) (x2 : Int32) (x3 : Int32) (x4 : Int32) (x5 : Int32) (M : AM) : Option (Option Value × AM) := it C_Course_packet 19 [(0, .ref 47), (1, .ref o1), (2, .int x2), (3, .int x3), (4, .int x4), (5, .int x5)] [] M
noncomputable def Course_packet_104 (o1 : Nat) (x2 : Int32) (x3 : Int32) (x4 : Int32) (x5 : Int32) (z0 : Int32) (M : AM) : Option (Option Value × AM) := it C_Course_packet 104 [(0, .ref 47), (1, .ref o1), (2, .int x2), (3, .int x3), (4, .int x4), (5, .int x5)] [.int z0] M
noncomputable def Course_packet_144 (o1 : Nat) (x2 : Int32) (x5 : Int32) (x6 : Int32) (M : AM) : Option (Option Value × AM) := it C_Course_packet 144 [(0, .ref 47), (1, .ref o1), (2, .int x2), (5, .int x5), (6, .int x6)] [] M
noncomputable def Course_packet_172 (o1 : Nat) (x2 : Int32) (x5 : Int32) (z0 : Int32) (M : AM) : Option (Option Value × AM) := it C_Course_packet 172 [(0, .ref 47), (1, .ref o1), (2, .int x2), (5, .int x5)] [.int z0] M
noncomputable def C_GT_send : MC := (2, 1, [(0, 9, 2, mD C_GT_isSource), (0, 4, 2, mD C_Past_remember), (0, 2, 2, mD C_Net_measure), (0, 0, 2, mD C_Course_plain), (0, 0, 3, mD C_Course_packet)], [(0, [0, 1], [(.aload_n 0, 1, 0, 0), (.iload_n 1, 1, 0, 0), (.invokevirtual 222, 3, 0, 1), (.ifCond .ne 5, 3, 10, 0), (.iconst (-1), 1, 0, 0), (.ireturn, 1, 0, 0)]),
  (10, [0, 1], [(.aload_n 0, 1, 0, 0), (.getfield 68, 3, 9, 8), (.aload_n 0, 1, 0, 0), (.getfield 55, 3, 9, 5), (.invokevirtual 215, 3, 1, 0), (.aload_n 0, 1, 0, 0), (.getfield 39, 3, 9, 3), (.aload_n 0, 1, 0, 0), (.getfield 55, 3, 9, 5), (.getfield 186, 3, 7, 8), (.invokevirtual 192, 3, 2, 0), (.aload_n 0, 1, 0, 0), (.getfield 48, 3, 9, 4), (.iconst 0, 1, 0, 0), (.invokevirtual 225, 3, 3, 0), (.aload_n 0, 1, 0, 0), (.getfield 48, 3, 9, 4), (.aload_n 0, 1, 0, 0), (.getfield 55, 3, 9, 5), (.iload_n 1, 1, 0, 0), (.invokevirtual 229, 3, 4, 1), (.ireturn, 1, 0, 0)])], none)
noncomputable def GT_send (x1 : Int32) (M : AM) : Option (Option Value × AM) := mD C_GT_send [.ref 0, .int x1] M
noncomputable def C_Course_drawing : MC := (1, 0, [(0, 0, 2, mD C_Course_plain)], [(0, [0], [(.aload_n 0, 1, 0, 0), (.iconst 0, 1, 0, 0), (.invokevirtual 39, 3, 0, 0), (.aload_n 0, 1, 0, 0), (.iconst 1, 1, 0, 0), (.putfield 21, 3, 0, 4), (.return_, 1, 0, 0)])], none)
noncomputable def Course_drawing (M : AM) : Option (Option Value × AM) := mD C_Course_drawing [.ref 47] M
noncomputable def C_Course_takePlace : MC := (4, 0, [(0, 7, 2, mD C_State_stopListening)], [(0, [0, 1, 2, 3], [(.iload_n 2, 1, 0, 0), (.tableswitch 89 4 6 #[27, 54, 62], 27, 0, 0)]),
  (28, [0, 1, 3], [(.aload_n 1, 1, 0, 0), (.dup, 1, 0, 0), (.getfield 114, 3, 7, 7), (.iload_n 3, 1, 0, 0), (.aload_n 0, 1, 0, 0), (.getfield 32, 3, 0, 7), (.if_icmp .ne 7, 3, 45, 0), (.iconst 0, 1, 0, 0), (.goto 6, 3, 48, 0)]),
  (45, [3], [(.iconst 1, 1, 0, 0), (.iload_n 3, 1, 0, 0), (.ishl, 1, 0, 0)]),
  (48, [], [(.ior, 1, 0, 0), (.putfield 114, 3, 7, 7), (.goto 52, 3, 104, 0)]),
  (55, [1, 3], [(.aload_n 1, 1, 0, 0), (.iload_n 3, 1, 0, 0), (.invokevirtual 117, 3, 0, 0), (.goto 44, 3, 104, 0)]),
  (63, [0, 1, 3], [(.aload_n 1, 1, 0, 0), (.dup, 1, 0, 0), (.getfield 53, 3, 7, 8), (.aload_n 0, 1, 0, 0), (.getfield 28, 3, 0, 6), (.iconst 3, 1, 0, 0), (.if_icmp .ne 7, 3, 80, 0), (.iconst 0, 1, 0, 0), (.goto 6, 3, 83, 0)]),
  (80, [3], [(.iconst 1, 1, 0, 0), (.iload_n 3, 1, 0, 0), (.ishl, 1, 0, 0)]),
  (83, [], [(.ior, 1, 0, 0), (.putfield 53, 3, 7, 8), (.goto 17, 3, 104, 0)]),
  (90, [1, 3], [(.aload_n 1, 1, 0, 0), (.dup, 1, 0, 0), (.getfield 53, 3, 7, 8), (.iconst 1, 1, 0, 0), (.iload_n 3, 1, 0, 0), (.ishl, 1, 0, 0), (.iconst (-1), 1, 0, 0), (.ixor, 1, 0, 0), (.iand, 1, 0, 0), (.putfield 53, 3, 7, 8)]),
  (104, [], [(.return_, 1, 0, 0)])], none)
noncomputable def Course_takePlace (o1 : Nat) (x2 : Int32) (x3 : Int32) (M : AM) : Option (Option Value × AM) := mD C_Course_takePlace [.ref 47, .ref o1, .int x2, .int x3] M
noncomputable def C_Course_happen : MC := (4, 0, [(0, 0, 4, mD C_Course_takePlace)], [(0, [0, 1], [(.aload_n 0, 1, 0, 0), (.getfield 35, 3, 0, 0), (.getfield 43, 3, 2, 6), (.astore_n 2, 1, 0, 0), (.iconst 0, 1, 0, 0), (.istore_n 3, 1, 0, 0)]),
  (10, [0, 1, 2, 3], [(.iload_n 3, 1, 0, 0), (.aload_n 2, 1, 0, 0), (.getfield 99, 3, 5, 14), (.if_icmp .ge 39, 3, 54, 0), (.aload_n 2, 1, 0, 0), (.getfield 102, 3, 5, 7), (.iload_n 3, 1, 0, 0), (.iaload, 1, 0, 0), (.aload_n 1, 1, 0, 0), (.getfield 89, 3, 7, 6), (.if_icmp .ne 20, 3, 48, 0), (.aload_n 0, 1, 0, 0), (.aload_n 1, 1, 0, 0), (.aload_n 2, 1, 0, 0), (.getfield 105, 3, 5, 5), (.iload_n 3, 1, 0, 0), (.iaload, 1, 0, 0), (.aload_n 2, 1, 0, 0), (.getfield 108, 3, 5, 6), (.iload_n 3, 1, 0, 0), (.iaload, 1, 0, 0), (.invokevirtual 111, 3, 0, 0)]),
  (48, [0, 1, 2, 3], [(.iinc 3 1, 3, 0, 0), (.goto (-41), 3, 10, 0)]),
  (54, [], [(.return_, 1, 0, 0)])], none)
noncomputable def Course_happen (o1 : Nat) (M : AM) : Option (Option Value × AM) := mD C_Course_happen [.ref 47, .ref o1] M
noncomputable def Course_happen_10 (o1 : Nat) (o2 : Nat) (x3 : Int32) (M : AM) : Option (Option Value × AM) := it C_Course_happen 10 [(0, .ref 47), (1, .ref o1), (2, .ref o2), (3, .int x3)] [] M
noncomputable def C_State_fade : MC := (3, 0, [], [(0, [0], [(.iconst 0, 1, 0, 0), (.istore_n 1, 1, 0, 0)]),
  (2, [0, 1], [(.iload_n 1, 1, 0, 0), (.aload_n 0, 1, 0, 0), (.getfield 27, 3, 7, 5), (.arraylength, 1, 0, 0), (.if_icmp .ge 90, 3, 98, 0), (.iconst 0, 1, 0, 0), (.istore_n 2, 1, 0, 0)]),
  (13, [0, 1, 2], [(.iload_n 2, 1, 0, 0), (.bipush 8, 2, 0, 0), (.if_icmp .ge 76, 3, 92, 0), (.aload_n 0, 1, 0, 0), (.getfield 27, 3, 7, 5), (.iload_n 1, 1, 0, 0), (.iaload, 1, 0, 0), (.iload_n 2, 1, 0, 0), (.ishr, 1, 0, 0), (.ifCond .eq 65, 3, 92, 0), (.aload_n 0, 1, 0, 0), (.getfield 27, 3, 7, 5), (.iload_n 1, 1, 0, 0), (.iaload, 1, 0, 0), (.iload_n 2, 1, 0, 0), (.ishr, 1, 0, 0), (.iconst 1, 1, 0, 0), (.iand, 1, 0, 0), (.ifCond .eq 46, 3, 86, 0), (.aload_n 0, 1, 0, 0), (.getfield 24, 3, 7, 4), (.iload_n 1, 1, 0, 0), (.bipush 8, 2, 0, 0), (.imul, 1, 0, 0), (.iload_n 2, 1, 0, 0), (.iadd, 1, 0, 0), (.dup2, 1, 0, 0), (.iaload, 1, 0, 0), (.iconst 1, 1, 0, 0), (.isub, 1, 0, 0), (.iastore, 1, 0, 0), (.aload_n 0, 1, 0, 0), (.getfield 24, 3, 7, 4), (.iload_n 1, 1, 0, 0), (.bipush 8, 2, 0, 0), (.imul, 1, 0, 0), (.iload_n 2, 1, 0, 0), (.iadd, 1, 0, 0), (.iaload, 1, 0, 0), (.ifCond .ne 17, 3, 86, 0), (.aload_n 0, 1, 0, 0), (.getfield 27, 3, 7, 5), (.iload_n 1, 1, 0, 0), (.dup2, 1, 0, 0), (.iaload, 1, 0, 0), (.iconst 1, 1, 0, 0), (.iload_n 2, 1, 0, 0), (.ishl, 1, 0, 0), (.iconst (-1), 1, 0, 0), (.ixor, 1, 0, 0), (.iand, 1, 0, 0), (.iastore, 1, 0, 0)]),
  (86, [0, 1, 2], [(.iinc 2 1, 3, 0, 0), (.goto (-76), 3, 13, 0)]),
  (92, [0, 1], [(.iinc 1 1, 3, 0, 0), (.goto (-93), 3, 2, 0)]),
  (98, [], [(.return_, 1, 0, 0)])], none)
noncomputable def State_fade (o0 : Nat) (M : AM) : Option (Option Value × AM) := mD C_State_fade [.ref o0] M
noncomputable def State_fade_2 (o0 : Nat) (x1 : Int32) (M : AM) : Option (Option Value × AM) := it C_State_fade 2 [(0, .ref o0), (1, .int x1)] [] M
noncomputable def State_fade_13 (o0 : Nat) (x1 : Int32) (x2 : Int32) (M : AM) : Option (Option Value × AM) := it C_State_fade 13 [(0, .ref o0), (1, .int x1), (2, .int x2)] [] M
noncomputable def C_Course_holding : MC := (6, 1, [(0, 2, 5, mD C_Net_work), (5, 0, 0, fun _ _ => none), (6, 0, 0, fun _ _ => none)], [(0, [0, 1, 2, 3], [(.aload_n 0, 1, 0, 0), (.getfield 28, 3, 0, 6), (.iconst 4, 1, 0, 0), (.if_icmp .ne 5, 3, 10, 0), (.iconst 1, 1, 0, 0), (.ireturn, 1, 0, 0)]),
  (10, [0, 1, 2, 3], [(.aload_n 0, 1, 0, 0), (.getfield 35, 3, 0, 0), (.bipush 15, 2, 0, 0), (.aload_n 1, 1, 0, 0), (.iload_n 2, 1, 0, 0), (.iload_n 3, 1, 0, 0), (.invokevirtual 138, 3, 0, 2), (.lstore 4, 2, 0, 0), (.lload 4, 2, 0, 0), (.ldc2_w 142, 3, 9223372036854775808, 0), (.lcmp, 1, 0, 0), (.ifCond .ne 14, 3, 44, 0), (.aload_n 0, 1, 0, 0), (.getfield 35, 3, 0, 0), (.getfield 43, 3, 2, 6), (.getfield 144, 3, 5, 17), (.ireturn, 1, 0, 0)]),
  (44, [4], [(.lconst 1, 1, 0, 0), (.ldc2_w 146, 3, 99, 0), (.lload 4, 2, 0, 0), (.invokestatic 148, 3, 1, 0), (.invokestatic 154, 3, 2, 0), (.l2i, 1, 0, 0), (.ireturn, 1, 0, 0)])], none)
noncomputable def Course_holding (o1 : Nat) (x2 : Int32) (x3 : Int32) (M : AM) : Option (Option Value × AM) := mD C_Course_holding [.ref 47, .ref o1, .int x2, .int x3] M
noncomputable def C_State_hold : MC := (4, 0, [], [(0, [0, 1, 2, 3], [(.aload_n 0, 1, 0, 0), (.getfield 24, 3, 7, 4), (.iload_n 1, 1, 0, 0), (.bipush 8, 2, 0, 0), (.imul, 1, 0, 0), (.iload_n 2, 1, 0, 0), (.iadd, 1, 0, 0), (.iload_n 3, 1, 0, 0), (.iastore, 1, 0, 0), (.aload_n 0, 1, 0, 0), (.getfield 27, 3, 7, 5), (.iload_n 1, 1, 0, 0), (.dup2, 1, 0, 0), (.iaload, 1, 0, 0), (.iconst 1, 1, 0, 0), (.iload_n 2, 1, 0, 0), (.ishl, 1, 0, 0), (.ior, 1, 0, 0), (.iastore, 1, 0, 0), (.return_, 1, 0, 0)])], none)
noncomputable def State_hold (o0 : Nat) (x1 : Int32) (x2 : Int32) (x3 : Int32) (M : AM) : Option (Option Value × AM) := mD C_State_hold [.ref o0, .int x1, .int x2, .int x3] M
noncomputable def C_Course_joinUp : MC := (7, 0, [(0, 2, 4, mD C_Net_wanted), (0, 2, 4, mD C_Net_climb), (0, 0, 4, mD C_Course_holding), (0, 7, 4, mD C_State_hold)], [(0, [0, 1, 2, 3], [(.aload_n 0, 1, 0, 0), (.getfield 35, 3, 0, 0), (.aload_n 1, 1, 0, 0), (.iload_n 2, 1, 0, 0), (.iload_n 3, 1, 0, 0), (.invokevirtual 120, 3, 0, 1), (.ifCond .ne 4, 3, 14, 0), (.return_, 1, 0, 0)]),
  (14, [0, 1, 2, 3], [(.aload_n 0, 1, 0, 0), (.getfield 35, 3, 0, 0), (.aload_n 1, 1, 0, 0), (.iload_n 2, 1, 0, 0), (.iload_n 3, 1, 0, 0), (.invokevirtual 124, 3, 1, 1), (.istore 4, 2, 0, 0), (.iload 4, 2, 0, 0), (.ifCond .ge 4, 3, 32, 0), (.return_, 1, 0, 0)]),
  (32, [0, 1, 2, 4], [(.iload 4, 2, 0, 0), (.bipush 8, 2, 0, 0), (.idiv, 1, 0, 0), (.istore 5, 2, 0, 0), (.iload_n 2, 1, 0, 0), (.bipush 7, 2, 0, 0), (.imul, 1, 0, 0), (.iload 4, 2, 0, 0), (.bipush 8, 2, 0, 0), (.irem, 1, 0, 0), (.iadd, 1, 0, 0), (.istore 6, 2, 0, 0), (.aload_n 0, 1, 0, 0), (.getfield 9, 3, 0, 1), (.iload 6, 2, 0, 0), (.iaload, 1, 0, 0), (.iload 5, 2, 0, 0), (.ishr, 1, 0, 0), (.iconst 1, 1, 0, 0), (.iand, 1, 0, 0), (.ifCond .eq 14, 3, 77, 0), (.aload_n 1, 1, 0, 0), (.dup, 1, 0, 0), (.getfield 128, 3, 7, 10), (.iconst 1, 1, 0, 0), (.iadd, 1, 0, 0), (.putfield 128, 3, 7, 10), (.return_, 1, 0, 0)]),
  (77, [0, 1, 2, 4, 5, 6], [(.aload_n 0, 1, 0, 0), (.getfield 9, 3, 0, 1), (.iload 6, 2, 0, 0), (.dup2, 1, 0, 0), (.iaload, 1, 0, 0), (.iconst 1, 1, 0, 0), (.iload 5, 2, 0, 0), (.ishl, 1, 0, 0), (.ior, 1, 0, 0), (.iastore, 1, 0, 0), (.aload_n 1, 1, 0, 0), (.iload 6, 2, 0, 0), (.iload 5, 2, 0, 0), (.aload_n 0, 1, 0, 0), (.aload_n 1, 1, 0, 0), (.iload_n 2, 1, 0, 0), (.iload 4, 2, 0, 0), (.bipush 8, 2, 0, 0), (.irem, 1, 0, 0), (.invokevirtual 131, 3, 2, 1), (.invokevirtual 134, 3, 3, 0), (.return_, 1, 0, 0)])], none)
noncomputable def Course_joinUp (o1 : Nat) (x2 : Int32) (x3 : Int32) (M : AM) : Option (Option Value × AM) := mD C_Course_joinUp [.ref 47, .ref o1, .int x2, .int x3] M
noncomputable def C_Course_run : MC := (7, 0, [(0, 0, 2, mD C_Course_happen), (0, 2, 2, mD C_Net_measure), (0, 7, 1, mD C_State_fade), (1, 0, 2, mD C_Jarr_fill), (0, 0, 4, mD C_Course_joinUp), (0, 0, 3, mD C_Course_packet)], [(0, [0, 1, 2], [(.aload_n 0, 1, 0, 0), (.getfield 35, 3, 0, 0), (.getfield 43, 3, 2, 6), (.astore_n 3, 1, 0, 0), (.iconst 0, 1, 0, 0), (.istore 4, 2, 0, 0)]),
  (11, [0, 1, 2, 3, 4], [(.iload 4, 2, 0, 0), (.iload_n 2, 1, 0, 0), (.if_icmp .ge 151, 3, 165, 0), (.aload_n 0, 1, 0, 0), (.getfield 25, 3, 0, 5), (.ifCond .ne 8, 3, 29, 0), (.aload_n 0, 1, 0, 0), (.aload_n 1, 1, 0, 0), (.invokevirtual 49, 3, 0, 0)]),
  (29, [0, 1, 2, 3, 4], [(.aload_n 0, 1, 0, 0), (.getfield 35, 3, 0, 0), (.aload_n 1, 1, 0, 0), (.getfield 53, 3, 7, 8), (.invokevirtual 58, 3, 1, 0), (.aload_n 1, 1, 0, 0), (.invokevirtual 62, 3, 2, 0), (.aload_n 0, 1, 0, 0), (.getfield 9, 3, 0, 1), (.iconst 0, 1, 0, 0), (.invokestatic 65, 3, 3, 0), (.iconst 0, 1, 0, 0), (.istore 5, 2, 0, 0)]),
  (55, [0, 1, 2, 3, 4, 5], [(.iload 5, 2, 0, 0), (.aload_n 3, 1, 0, 0), (.getfield 71, 3, 5, 11), (.if_icmp .ge 36, 3, 97, 0), (.iconst 0, 1, 0, 0), (.istore 6, 2, 0, 0)]),
  (67, [0, 1, 2, 3, 4, 5, 6], [(.iload 6, 2, 0, 0), (.aload_n 3, 1, 0, 0), (.getfield 76, 3, 5, 13), (.if_icmp .gt 18, 3, 91, 0), (.aload_n 0, 1, 0, 0), (.aload_n 1, 1, 0, 0), (.iload 6, 2, 0, 0), (.iload 5, 2, 0, 0), (.invokevirtual 79, 3, 4, 0), (.iinc 6 1, 3, 0, 0), (.goto (-21), 3, 67, 0)]),
  (91, [0, 1, 2, 3, 4, 5], [(.iinc 5 1, 3, 0, 0), (.goto (-39), 3, 55, 0)]),
  (97, [0, 1, 2, 3, 4], [(.iconst 0, 1, 0, 0), (.istore 5, 2, 0, 0)]),
  (100, [0, 1, 2, 3, 4, 5], [(.iload 5, 2, 0, 0), (.aload_n 3, 1, 0, 0), (.getfield 83, 3, 5, 15), (.if_icmp .ge 43, 3, 149, 0), (.aload_n 0, 1, 0, 0), (.getfield 25, 3, 0, 5), (.ifCond .ne 36, 3, 149, 0), (.aload_n 3, 1, 0, 0), (.getfield 86, 3, 5, 9), (.iload 5, 2, 0, 0), (.iaload, 1, 0, 0), (.aload_n 1, 1, 0, 0), (.getfield 89, 3, 7, 6), (.if_icmp .ne 16, 3, 143, 0), (.aload_n 0, 1, 0, 0), (.aload_n 1, 1, 0, 0), (.aload_n 3, 1, 0, 0), (.getfield 92, 3, 5, 8), (.iload 5, 2, 0, 0), (.iaload, 1, 0, 0), (.invokevirtual 95, 3, 5, 1), (.pop, 1, 0, 0)]),
  (143, [0, 1, 2, 3, 4, 5], [(.iinc 5 1, 3, 0, 0), (.goto (-46), 3, 100, 0)]),
  (149, [0, 1, 2, 3, 4], [(.aload_n 1, 1, 0, 0), (.dup, 1, 0, 0), (.getfield 89, 3, 7, 6), (.iconst 1, 1, 0, 0), (.iadd, 1, 0, 0), (.putfield 89, 3, 7, 6), (.iinc 4 1, 3, 0, 0), (.goto (-151), 3, 11, 0)]),
  (165, [], [(.return_, 1, 0, 0)])], none)
noncomputable def Course_run (o1 : Nat) (x2 : Int32) (M : AM) : Option (Option Value × AM) := mD C_Course_run [.ref 47, .ref o1, .int x2] M
noncomputable def Course_run_11 (o1 : Nat) (x2 : Int32) (o3 : Nat) (x4 : Int32) (M : AM) : Option (Option Value × AM) := it C_Course_run 11 [(0, .ref 47), (1, .ref o1), (2, .int x2), (3, .ref o3), (4, .int x4)] [] M
noncomputable def Course_run_29 (o1 : Nat) (x2 : Int32) (o3 : Nat) (x4 : Int32) (M : AM) : Option (Option Value × AM) := it C_Course_run 29 [(0, .ref 47), (1, .ref o1), (2, .int x2), (3, .ref o3), (4, .int x4)] [] M
noncomputable def Course_run_55 (o1 : Nat) (x2 : Int32) (o3 : Nat) (x4 : Int32) (x5 : Int32) (M : AM) : Option (Option Value × AM) := it C_Course_run 55 [(0, .ref 47), (1, .ref o1), (2, .int x2), (3, .ref o3), (4, .int x4), (5, .int x5)] [] M
noncomputable def Course_run_100 (o1 : Nat) (x2 : Int32) (o3 : Nat) (x4 : Int32) (x5 : Int32) (M : AM) : Option (Option Value × AM) := it C_Course_run 100 [(0, .ref 47), (1, .ref o1), (2, .int x2), (3, .ref o3), (4, .int x4), (5, .int x5)] [] M
noncomputable def Course_run_67 (o1 : Nat) (x2 : Int32) (o3 : Nat) (x4 : Int32) (x5 : Int32) (x6 : Int32) (M : AM) : Option (Option Value × AM) := it C_Course_run 67 [(0, .ref 47), (1, .ref o1), (2, .int x2), (3, .ref o3), (4, .int x4), (5, .int x5), (6, .int x6)] [] M
noncomputable def C_GT_go : MC := (2, 1, [(0, 4, 1, mD C_Past_clear), (0, 0, 1, mD C_Course_drawing), (0, 0, 3, mD C_Course_run)], [(0, [0, 1], [(.iload_n 1, 1, 0, 0), (.ifCond .lt 25, 3, 26, 0), (.iload_n 1, 1, 0, 0), (.sipush 200, 3, 0, 0), (.if_icmp .gt 18, 3, 26, 0), (.aload_n 0, 1, 0, 0), (.getfield 55, 3, 9, 5), (.getfield 233, 3, 7, 6), (.iload_n 1, 1, 0, 0), (.iadd, 1, 0, 0), (.sipush 9000, 3, 0, 0), (.if_icmp .le 5, 3, 28, 0)]),
  (26, [], [(.iconst (-1), 1, 0, 0), (.ireturn, 1, 0, 0)]),
  (28, [0, 1], [(.iload_n 1, 1, 0, 0), (.ifCond .le 10, 3, 39, 0), (.aload_n 0, 1, 0, 0), (.getfield 68, 3, 9, 8), (.invokevirtual 123, 3, 0, 0)]),
  (39, [0, 1], [(.aload_n 0, 1, 0, 0), (.getfield 48, 3, 9, 4), (.invokevirtual 236, 3, 1, 0), (.aload_n 0, 1, 0, 0), (.getfield 48, 3, 9, 4), (.aload_n 0, 1, 0, 0), (.getfield 55, 3, 9, 5), (.iload_n 1, 1, 0, 0), (.invokevirtual 239, 3, 2, 0), (.aload_n 0, 1, 0, 0), (.getfield 55, 3, 9, 5), (.getfield 233, 3, 7, 6), (.ireturn, 1, 0, 0)])], none)
noncomputable def GT_go (x1 : Int32) (M : AM) : Option (Option Value × AM) := mD C_GT_go [.ref 0, .int x1] M
noncomputable def GT_go_39 (x1 : Int32) (M : AM) : Option (Option Value × AM) := it C_GT_go 39 [(0, .ref 0), (1, .int x1)] [] M
noncomputable def C_State_copyFrom : MC := (2, 0, [(2, 0, 0, fun _ _ => none)], [(0, [0, 1], [(.aload_n 1, 1, 0, 0), (.getfield 9, 3, 7, 0), (.iconst 0, 1, 0, 0), (.aload_n 0, 1, 0, 0), (.getfield 9, 3, 7, 0), (.iconst 0, 1, 0, 0), (.iconst 3, 1, 0, 0), (.invokestatic 58, 3, 0, 0), (.aload_n 1, 1, 0, 0), (.getfield 15, 3, 7, 1), (.iconst 0, 1, 0, 0), (.aload_n 0, 1, 0, 0), (.getfield 15, 3, 7, 1), (.iconst 0, 1, 0, 0), (.bipush 7, 2, 0, 0), (.invokestatic 58, 3, 0, 0), (.aload_n 1, 1, 0, 0), (.getfield 18, 3, 7, 2), (.iconst 0, 1, 0, 0), (.aload_n 0, 1, 0, 0), (.getfield 18, 3, 7, 2), (.iconst 0, 1, 0, 0), (.bipush 7, 2, 0, 0), (.invokestatic 58, 3, 0, 0), (.aload_n 1, 1, 0, 0), (.getfield 21, 3, 7, 3), (.iconst 0, 1, 0, 0), (.aload_n 0, 1, 0, 0), (.getfield 21, 3, 7, 3), (.iconst 0, 1, 0, 0), (.bipush 7, 2, 0, 0), (.invokestatic 58, 3, 0, 0), (.aload_n 1, 1, 0, 0), (.getfield 24, 3, 7, 4), (.iconst 0, 1, 0, 0), (.aload_n 0, 1, 0, 0), (.getfield 24, 3, 7, 4), (.iconst 0, 1, 0, 0), (.sipush 224, 3, 0, 0), (.invokestatic 58, 3, 0, 0), (.aload_n 1, 1, 0, 0), (.getfield 27, 3, 7, 5), (.iconst 0, 1, 0, 0), (.aload_n 0, 1, 0, 0), (.getfield 27, 3, 7, 5), (.iconst 0, 1, 0, 0), (.bipush 28, 2, 0, 0), (.invokestatic 58, 3, 0, 0), (.aload_n 0, 1, 0, 0), (.aload_n 1, 1, 0, 0), (.getfield 30, 3, 7, 6), (.putfield 30, 3, 7, 6), (.aload_n 0, 1, 0, 0), (.aload_n 1, 1, 0, 0), (.getfield 34, 3, 7, 7), (.putfield 34, 3, 7, 7), (.aload_n 0, 1, 0, 0), (.aload_n 1, 1, 0, 0), (.getfield 37, 3, 7, 8), (.putfield 37, 3, 7, 8), (.aload_n 0, 1, 0, 0), (.aload_n 1, 1, 0, 0), (.getfield 40, 3, 7, 9), (.putfield 40, 3, 7, 9), (.aload_n 0, 1, 0, 0), (.aload_n 1, 1, 0, 0), (.getfield 43, 3, 7, 10), (.putfield 43, 3, 7, 10), (.aload_n 0, 1, 0, 0), (.aload_n 1, 1, 0, 0), (.getfield 46, 3, 7, 11), (.putfield 46, 3, 7, 11), (.aload_n 0, 1, 0, 0), (.aload_n 1, 1, 0, 0), (.getfield 49, 3, 7, 12), (.putfield 49, 3, 7, 12), (.return_, 1, 0, 0)])], none)
noncomputable def State_copyFrom (o0 : Nat) (o1 : Nat) (M : AM) : Option (Option Value × AM) := mD C_State_copyFrom [.ref o0, .ref o1] M
noncomputable def C_GT_sum : MC := (3, 1, [], [(0, [0], [(.iconst 0, 1, 0, 0), (.istore_n 1, 1, 0, 0), (.iconst 0, 1, 0, 0), (.istore_n 2, 1, 0, 0)]),
  (4, [0, 1, 2], [(.iload_n 2, 1, 0, 0), (.aload_n 0, 1, 0, 0), (.arraylength, 1, 0, 0), (.if_icmp .ge 15, 3, 22, 0), (.iload_n 1, 1, 0, 0), (.aload_n 0, 1, 0, 0), (.iload_n 2, 1, 0, 0), (.iaload, 1, 0, 0), (.iadd, 1, 0, 0), (.istore_n 1, 1, 0, 0), (.iinc 2 1, 3, 0, 0), (.goto (-15), 3, 4, 0)]),
  (22, [1], [(.iload_n 1, 1, 0, 0), (.ireturn, 1, 0, 0)])], none)
noncomputable def GT_sum (o0 : Nat) (M : AM) : Option (Option Value × AM) := mD C_GT_sum [.ref o0] M
noncomputable def GT_sum_4 (o0 : Nat) (x1 : Int32) (x2 : Int32) (M : AM) : Option (Option Value × AM) := it C_GT_sum 4 [(0, .ref o0), (1, .int x1), (2, .int x2)] [] M
noncomputable def C_GT_ahead : MC := (3, 1, [(0, 7, 2, mD C_State_copyFrom), (0, 0, 2, mD C_Course_plain), (0, 0, 3, mD C_Course_run), (1, 0, 1, mD C_GT_sum)], [(0, [0, 1, 2], [(.iload_n 1, 1, 0, 0), (.ifCond .lt 18, 3, 19, 0), (.iload_n 1, 1, 0, 0), (.bipush 60, 2, 0, 0), (.if_icmp .gt 12, 3, 19, 0), (.iload_n 2, 1, 0, 0), (.ifCond .lt 8, 3, 19, 0), (.iload_n 2, 1, 0, 0), (.iconst 4, 1, 0, 0), (.if_icmp .le 5, 3, 21, 0)]),
  (19, [], [(.iconst (-1), 1, 0, 0), (.ireturn, 1, 0, 0)]),
  (21, [0, 1, 2], [(.aload_n 0, 1, 0, 0), (.getfield 62, 3, 9, 7), (.aload_n 0, 1, 0, 0), (.getfield 55, 3, 9, 5), (.invokevirtual 243, 3, 0, 0), (.aload_n 0, 1, 0, 0), (.getfield 48, 3, 9, 4), (.iconst 0, 1, 0, 0), (.invokevirtual 225, 3, 1, 0), (.aload_n 0, 1, 0, 0), (.getfield 48, 3, 9, 4), (.aload_n 0, 1, 0, 0), (.getfield 62, 3, 9, 7), (.iload_n 1, 1, 0, 0), (.invokevirtual 239, 3, 2, 0), (.iload_n 2, 1, 0, 0), (.tableswitch 113 0 3 #[31, 53, 75, 97], 31, 0, 0)]),
  (84, [0], [(.aload_n 0, 1, 0, 0), (.getfield 62, 3, 9, 7), (.getfield 163, 3, 7, 1), (.invokestatic 246, 3, 3, 1), (.aload_n 0, 1, 0, 0), (.getfield 55, 3, 9, 5), (.getfield 163, 3, 7, 1), (.invokestatic 246, 3, 3, 1), (.isub, 1, 0, 0), (.ireturn, 1, 0, 0)]),
  (106, [0], [(.aload_n 0, 1, 0, 0), (.getfield 62, 3, 9, 7), (.getfield 166, 3, 7, 2), (.invokestatic 246, 3, 3, 1), (.aload_n 0, 1, 0, 0), (.getfield 55, 3, 9, 5), (.getfield 166, 3, 7, 2), (.invokestatic 246, 3, 3, 1), (.isub, 1, 0, 0), (.ireturn, 1, 0, 0)]),
  (128, [0], [(.aload_n 0, 1, 0, 0), (.getfield 62, 3, 9, 7), (.getfield 169, 3, 7, 3), (.invokestatic 246, 3, 3, 1), (.aload_n 0, 1, 0, 0), (.getfield 55, 3, 9, 5), (.getfield 169, 3, 7, 3), (.invokestatic 246, 3, 3, 1), (.isub, 1, 0, 0), (.ireturn, 1, 0, 0)]),
  (150, [0], [(.aload_n 0, 1, 0, 0), (.getfield 62, 3, 9, 7), (.getfield 250, 3, 7, 9), (.aload_n 0, 1, 0, 0), (.getfield 55, 3, 9, 5), (.getfield 250, 3, 7, 9), (.isub, 1, 0, 0), (.ireturn, 1, 0, 0)]),
  (166, [0], [(.aload_n 0, 1, 0, 0), (.getfield 62, 3, 9, 7), (.getfield 253, 3, 7, 10), (.aload_n 0, 1, 0, 0), (.getfield 55, 3, 9, 5), (.getfield 253, 3, 7, 10), (.isub, 1, 0, 0), (.ireturn, 1, 0, 0)])], none)
noncomputable def GT_ahead (x1 : Int32) (x2 : Int32) (M : AM) : Option (Option Value × AM) := mD C_GT_ahead [.ref 0, .int x1, .int x2] M
noncomputable def C_State_linksHeld : MC := (4, 1, [], [(0, [0, 1], [(.iconst 0, 1, 0, 0), (.istore_n 2, 1, 0, 0), (.iconst 0, 1, 0, 0), (.istore_n 3, 1, 0, 0)]),
  (4, [0, 1, 2, 3], [(.iload_n 3, 1, 0, 0), (.bipush 7, 2, 0, 0), (.if_icmp .ge 23, 3, 30, 0), (.iload_n 2, 1, 0, 0), (.aload_n 0, 1, 0, 0), (.getfield 27, 3, 7, 5), (.iload_n 1, 1, 0, 0), (.bipush 7, 2, 0, 0), (.imul, 1, 0, 0), (.iload_n 3, 1, 0, 0), (.iadd, 1, 0, 0), (.iaload, 1, 0, 0), (.ior, 1, 0, 0), (.istore_n 2, 1, 0, 0), (.iinc 3 1, 3, 0, 0), (.goto (-23), 3, 4, 0)]),
  (30, [2], [(.iload_n 2, 1, 0, 0), (.ireturn, 1, 0, 0)])], none)
noncomputable def State_linksHeld (o0 : Nat) (x1 : Int32) (M : AM) : Option (Option Value × AM) := mD C_State_linksHeld [.ref o0, .int x1] M
noncomputable def State_linksHeld_4 (o0 : Nat) (x1 : Int32) (x2 : Int32) (x3 : Int32) (M : AM) : Option (Option Value × AM) := it C_State_linksHeld 4 [(0, .ref o0), (1, .int x1), (2, .int x2), (3, .int x3)] [] M
noncomputable def C_GT_quiet : MC := (3, 1, [(0, 9, 2, mD C_GT_isTree), (0, 7, 2, mD C_State_copyFrom), (1, 0, 2, mD C_Jarr_fill), (0, 0, 2, mD C_Course_plain), (0, 7, 2, mD C_State_linksHeld), (0, 0, 3, mD C_Course_run)], [(0, [0, 1], [(.aload_n 0, 1, 0, 0), (.iload_n 1, 1, 0, 0), (.invokevirtual 189, 3, 0, 1), (.ifCond .ne 5, 3, 10, 0), (.iconst (-1), 1, 0, 0), (.ireturn, 1, 0, 0)]),
  (10, [0, 1], [(.aload_n 0, 1, 0, 0), (.getfield 62, 3, 9, 7), (.aload_n 0, 1, 0, 0), (.getfield 55, 3, 9, 5), (.invokevirtual 243, 3, 1, 0), (.aload_n 0, 1, 0, 0), (.getfield 62, 3, 9, 7), (.iconst 0, 1, 0, 0), (.putfield 156, 3, 7, 7), (.aload_n 0, 1, 0, 0), (.getfield 62, 3, 9, 7), (.getfield 256, 3, 7, 0), (.iconst 0, 1, 0, 0), (.invokestatic 259, 3, 2, 0), (.aload_n 0, 1, 0, 0), (.getfield 48, 3, 9, 4), (.iconst 1, 1, 0, 0), (.invokevirtual 225, 3, 3, 0), (.iconst 0, 1, 0, 0), (.istore_n 2, 1, 0, 0)]),
  (50, [0, 1, 2], [(.iload_n 2, 1, 0, 0), (.bipush 99, 2, 0, 0), (.if_icmp .gt 34, 3, 87, 0), (.aload_n 0, 1, 0, 0), (.getfield 62, 3, 9, 7), (.iload_n 1, 1, 0, 0), (.invokevirtual 265, 3, 4, 1), (.ifCond .ne 5, 3, 69, 0), (.iload_n 2, 1, 0, 0), (.ireturn, 1, 0, 0)]),
  (69, [0, 1, 2], [(.aload_n 0, 1, 0, 0), (.getfield 48, 3, 9, 4), (.aload_n 0, 1, 0, 0), (.getfield 62, 3, 9, 7), (.iconst 1, 1, 0, 0), (.invokevirtual 239, 3, 5, 0), (.iinc 2 1, 3, 0, 0), (.goto (-34), 3, 50, 0)]),
  (87, [], [(.bipush (-2), 2, 0, 0), (.ireturn, 1, 0, 0)])], none)
noncomputable def GT_quiet (x1 : Int32) (M : AM) : Option (Option Value × AM) := mD C_GT_quiet [.ref 0, .int x1] M
noncomputable def GT_quiet_50 (x1 : Int32) (x2 : Int32) (M : AM) : Option (Option Value × AM) := it C_GT_quiet 50 [(0, .ref 0), (1, .int x1), (2, .int x2)] [] M
noncomputable def C_Net_allJoined : MC := (6, 3, [(0, 2, 4, mD C_Net_wanted), (0, 2, 4, mD C_Net_climb)], [(0, [0, 1], [(.iconst 0, 1, 0, 0), (.istore_n 2, 1, 0, 0)]),
  (2, [0, 1, 2], [(.iload_n 2, 1, 0, 0), (.aload_n 0, 1, 0, 0), (.getfield 33, 3, 2, 6), (.getfield 53, 3, 5, 11), (.if_icmp .ge 93, 3, 103, 0), (.iconst 0, 1, 0, 0), (.istore_n 3, 1, 0, 0)]),
  (15, [0, 1, 2, 3], [(.iload_n 3, 1, 0, 0), (.aload_n 0, 1, 0, 0), (.getfield 33, 3, 2, 6), (.getfield 37, 3, 5, 13), (.if_icmp .gt 74, 3, 97, 0), (.aload_n 0, 1, 0, 0), (.aload_n 1, 1, 0, 0), (.iload_n 3, 1, 0, 0), (.iload_n 2, 1, 0, 0), (.invokevirtual 111, 3, 0, 1), (.ifCond .eq 58, 3, 91, 0), (.aload_n 0, 1, 0, 0), (.aload_n 1, 1, 0, 0), (.iload_n 3, 1, 0, 0), (.iload_n 2, 1, 0, 0), (.invokevirtual 114, 3, 1, 1), (.istore 4, 2, 0, 0), (.iload 4, 2, 0, 0), (.ifCond .ge 7, 3, 54, 0), (.iconst 0, 1, 0, 0), (.goto 18, 3, 69, 0)]),
  (54, [0, 1, 2, 3, 4], [(.aload_n 1, 1, 0, 0), (.getfield 100, 3, 7, 5), (.iload_n 3, 1, 0, 0), (.bipush 7, 2, 0, 0), (.imul, 1, 0, 0), (.iload 4, 2, 0, 0), (.bipush 8, 2, 0, 0), (.irem, 1, 0, 0), (.iadd, 1, 0, 0), (.iaload, 1, 0, 0)]),
  (69, [0, 1, 2, 3, 4], [(.istore 5, 2, 0, 0), (.iload 4, 2, 0, 0), (.ifCond .lt 18, 3, 91, 0), (.iload 5, 2, 0, 0), (.iload 4, 2, 0, 0), (.bipush 8, 2, 0, 0), (.idiv, 1, 0, 0), (.ishr, 1, 0, 0), (.iconst 1, 1, 0, 0), (.iand, 1, 0, 0), (.ifCond .ne 5, 3, 91, 0), (.iconst 0, 1, 0, 0), (.ireturn, 1, 0, 0)]),
  (91, [0, 1, 2, 3], [(.iinc 3 1, 3, 0, 0), (.goto (-79), 3, 15, 0)]),
  (97, [0, 1, 2], [(.iinc 2 1, 3, 0, 0), (.goto (-98), 3, 2, 0)]),
  (103, [], [(.iconst 1, 1, 0, 0), (.ireturn, 1, 0, 0)])], none)
noncomputable def Net_allJoined (M : AM) : Option (Option Value × AM) := mD C_Net_allJoined [.ref 26, .ref 65] M
noncomputable def Net_allJoined_2 (x2 : Int32) (M : AM) : Option (Option Value × AM) := it C_Net_allJoined 2 [(0, .ref 26), (1, .ref 65), (2, .int x2)] [] M
noncomputable def Net_allJoined_15 (x2 : Int32) (x3 : Int32) (M : AM) : Option (Option Value × AM) := it C_Net_allJoined 15 [(0, .ref 26), (1, .ref 65), (2, .int x2), (3, .int x3)] [] M
noncomputable def Net_allJoined_69 (x2 : Int32) (x3 : Int32) (x4 : Int32) (z0 : Int32) (M : AM) : Option (Option Value × AM) := it C_Net_allJoined 69 [(0, .ref 26), (1, .ref 65), (2, .int x2), (3, .int x3), (4, .int x4)] [.int z0] M
noncomputable def C_GT_settled : MC := (2, 1, [(0, 7, 2, mD C_State_copyFrom), (0, 0, 2, mD C_Course_plain), (0, 2, 2, mD C_Net_measure), (0, 2, 2, mD C_Net_allJoined), (0, 0, 3, mD C_Course_run)], [(0, [0], [(.aload_n 0, 1, 0, 0), (.getfield 62, 3, 9, 7), (.aload_n 0, 1, 0, 0), (.getfield 55, 3, 9, 5), (.invokevirtual 243, 3, 0, 0), (.aload_n 0, 1, 0, 0), (.getfield 48, 3, 9, 4), (.iconst 1, 1, 0, 0), (.invokevirtual 225, 3, 1, 0), (.aload_n 0, 1, 0, 0), (.getfield 39, 3, 9, 3), (.aload_n 0, 1, 0, 0), (.getfield 62, 3, 9, 7), (.getfield 186, 3, 7, 8), (.invokevirtual 192, 3, 2, 0), (.iconst 0, 1, 0, 0), (.istore_n 1, 1, 0, 0)]),
  (35, [0, 1], [(.iload_n 1, 1, 0, 0), (.bipush 99, 2, 0, 0), (.if_icmp .gt 37, 3, 75, 0), (.aload_n 0, 1, 0, 0), (.getfield 39, 3, 9, 3), (.aload_n 0, 1, 0, 0), (.getfield 62, 3, 9, 7), (.invokevirtual 268, 3, 3, 1), (.ifCond .eq 5, 3, 57, 0), (.iload_n 1, 1, 0, 0), (.ireturn, 1, 0, 0)]),
  (57, [0, 1], [(.aload_n 0, 1, 0, 0), (.getfield 48, 3, 9, 4), (.aload_n 0, 1, 0, 0), (.getfield 62, 3, 9, 7), (.iconst 1, 1, 0, 0), (.invokevirtual 239, 3, 4, 0), (.iinc 1 1, 3, 0, 0), (.goto (-37), 3, 35, 0)]),
  (75, [], [(.bipush (-2), 2, 0, 0), (.ireturn, 1, 0, 0)])], none)
noncomputable def GT_settled (M : AM) : Option (Option Value × AM) := mD C_GT_settled [.ref 0] M
noncomputable def GT_settled_35 (x1 : Int32) (M : AM) : Option (Option Value × AM) := it C_GT_settled 35 [(0, .ref 0), (1, .int x1)] [] M
noncomputable def C_GT_way : MC := (6, 1, [(0, 9, 2, mD C_GT_isTree), (0, 9, 2, mD C_GT_isNode), (0, 2, 2, mD C_Net_measure), (0, 2, 4, mD C_Net_climb)], [(0, [0, 1, 2], [(.aload_n 0, 1, 0, 0), (.iload_n 1, 1, 0, 0), (.invokevirtual 189, 3, 0, 1), (.ifCond .eq 11, 3, 16, 0), (.aload_n 0, 1, 0, 0), (.iload_n 2, 1, 0, 0), (.invokevirtual 145, 3, 1, 1), (.ifCond .ne 5, 3, 18, 0)]),
  (16, [], [(.iconst (-1), 1, 0, 0), (.ireturn, 1, 0, 0)]),
  (18, [0, 1, 2], [(.aload_n 0, 1, 0, 0), (.getfield 39, 3, 9, 3), (.aload_n 0, 1, 0, 0), (.getfield 55, 3, 9, 5), (.getfield 186, 3, 7, 8), (.invokevirtual 192, 3, 2, 0), (.aload_n 0, 1, 0, 0), (.getfield 39, 3, 9, 3), (.getfield 195, 3, 2, 0), (.iload_n 1, 1, 0, 0), (.bipush 7, 2, 0, 0), (.imul, 1, 0, 0), (.iload_n 2, 1, 0, 0), (.iadd, 1, 0, 0), (.iaload, 1, 0, 0), (.bipush 99, 2, 0, 0), (.if_icmp .lt 6, 3, 54, 0), (.bipush (-2), 2, 0, 0), (.ireturn, 1, 0, 0)]),
  (54, [0, 1, 2], [(.iconst 1, 1, 0, 0), (.iload_n 2, 1, 0, 0), (.ishl, 1, 0, 0), (.istore_n 3, 1, 0, 0), (.aload_n 0, 1, 0, 0), (.getfield 39, 3, 9, 3), (.aload_n 0, 1, 0, 0), (.getfield 55, 3, 9, 5), (.iload_n 1, 1, 0, 0), (.iload_n 2, 1, 0, 0), (.invokevirtual 198, 3, 3, 1), (.istore 4, 2, 0, 0), (.iconst 0, 1, 0, 0), (.istore 5, 2, 0, 0)]),
  (76, [0, 1, 3, 4, 5], [(.iload 5, 2, 0, 0), (.bipush 7, 2, 0, 0), (.if_icmp .ge 43, 3, 123, 0), (.iload 4, 2, 0, 0), (.ifCond .lt 38, 3, 123, 0), (.iload_n 3, 1, 0, 0), (.iconst 1, 1, 0, 0), (.iload 4, 2, 0, 0), (.bipush 8, 2, 0, 0), (.irem, 1, 0, 0), (.ishl, 1, 0, 0), (.ior, 1, 0, 0), (.istore_n 3, 1, 0, 0), (.aload_n 0, 1, 0, 0), (.getfield 39, 3, 9, 3), (.aload_n 0, 1, 0, 0), (.getfield 55, 3, 9, 5), (.iload_n 1, 1, 0, 0), (.iload 4, 2, 0, 0), (.bipush 8, 2, 0, 0), (.irem, 1, 0, 0), (.invokevirtual 198, 3, 3, 1), (.istore 4, 2, 0, 0), (.iinc 5 1, 3, 0, 0), (.goto (-44), 3, 76, 0)]),
  (123, [3], [(.iload_n 3, 1, 0, 0), (.ireturn, 1, 0, 0)])], none)
noncomputable def GT_way (x1 : Int32) (x2 : Int32) (M : AM) : Option (Option Value × AM) := mD C_GT_way [.ref 0, .int x1, .int x2] M
noncomputable def GT_way_76 (x1 : Int32) (x3 : Int32) (x4 : Int32) (x5 : Int32) (M : AM) : Option (Option Value × AM) := it C_GT_way 76 [(0, .ref 0), (1, .int x1), (3, .int x3), (4, .int x4), (5, .int x5)] [] M
noncomputable def C_GT_best : MC := (7, 1, [(0, 5, 6, mD C_Plan_spread)], [(0, [0, 1], [(.iload_n 1, 1, 0, 0), (.ifCond .lt 8, 3, 9, 0), (.iload_n 1, 1, 0, 0), (.iconst 1, 1, 0, 0), (.if_icmp .le 5, 3, 11, 0)]),
  (9, [], [(.iconst (-1), 1, 0, 0), (.ireturn, 1, 0, 0)]),
  (11, [0, 1], [(.bipush (-2), 2, 0, 0), (.istore_n 2, 1, 0, 0), (.bipush (-2), 2, 0, 0), (.istore_n 3, 1, 0, 0), (.iconst 0, 1, 0, 0), (.istore 4, 2, 0, 0)]),
  (20, [0, 1, 2, 3, 4], [(.iload 4, 2, 0, 0), (.aload_n 0, 1, 0, 0), (.getfield 39, 3, 9, 3), (.getfield 109, 3, 2, 6), (.getfield 132, 3, 5, 11), (.if_icmp .ge 111, 3, 143, 0), (.aload_n 0, 1, 0, 0), (.getfield 39, 3, 9, 3), (.getfield 109, 3, 2, 6), (.aload_n 0, 1, 0, 0), (.getfield 39, 3, 9, 3), (.getfield 109, 3, 2, 6), (.getfield 180, 3, 5, 1), (.aload_n 0, 1, 0, 0), (.getfield 55, 3, 9, 5), (.getfield 186, 3, 7, 8), (.iload 4, 2, 0, 0), (.aload_n 0, 1, 0, 0), (.getfield 79, 3, 9, 10), (.iconst 0, 1, 0, 0), (.invokevirtual 272, 3, 0, 0), (.iconst 0, 1, 0, 0), (.istore 5, 2, 0, 0), (.iconst 0, 1, 0, 0), (.istore 6, 2, 0, 0)]),
  (75, [0, 1, 2, 3, 4, 5, 6], [(.iload 6, 2, 0, 0), (.aload_n 0, 1, 0, 0), (.getfield 39, 3, 9, 3), (.getfield 109, 3, 2, 6), (.getfield 132, 3, 5, 11), (.if_icmp .ge 34, 3, 121, 0), (.iload 5, 2, 0, 0), (.aload_n 0, 1, 0, 0), (.getfield 55, 3, 9, 5), (.getfield 156, 3, 7, 7), (.iload 6, 2, 0, 0), (.ishr, 1, 0, 0), (.iconst 1, 1, 0, 0), (.iand, 1, 0, 0), (.aload_n 0, 1, 0, 0), (.getfield 79, 3, 9, 10), (.iload 6, 2, 0, 0), (.iaload, 1, 0, 0), (.imul, 1, 0, 0), (.iadd, 1, 0, 0), (.istore 5, 2, 0, 0), (.iinc 6 1, 3, 0, 0), (.goto (-43), 3, 75, 0)]),
  (121, [0, 1, 2, 3, 4, 5], [(.iload_n 2, 1, 0, 0), (.ifCond .lt 9, 3, 131, 0), (.iload 5, 2, 0, 0), (.iload_n 3, 1, 0, 0), (.if_icmp .ge 9, 3, 137, 0)]),
  (131, [0, 1, 4, 5], [(.iload 4, 2, 0, 0), (.istore_n 2, 1, 0, 0), (.iload 5, 2, 0, 0), (.istore_n 3, 1, 0, 0)]),
  (137, [0, 1, 2, 3, 4], [(.iinc 4 1, 3, 0, 0), (.goto (-120), 3, 20, 0)]),
  (143, [1, 2, 3], [(.iload_n 1, 1, 0, 0), (.ifCond .ne 7, 3, 151, 0), (.iload_n 2, 1, 0, 0), (.goto 4, 3, 152, 0)]),
  (151, [3], [(.iload_n 3, 1, 0, 0)]),
  (152, [], [(.ireturn, 1, 0, 0)])], none)
noncomputable def GT_best (x1 : Int32) (M : AM) : Option (Option Value × AM) := mD C_GT_best [.ref 0, .int x1] M
noncomputable def GT_best_20 (x1 : Int32) (x2 : Int32) (x3 : Int32) (x4 : Int32) (M : AM) : Option (Option Value × AM) := it C_GT_best 20 [(0, .ref 0), (1, .int x1), (2, .int x2), (3, .int x3), (4, .int x4)] [] M
noncomputable def GT_best_75 (x1 : Int32) (x2 : Int32) (x3 : Int32) (x4 : Int32) (x5 : Int32) (x6 : Int32) (M : AM) : Option (Option Value × AM) := it C_GT_best 75 [(0, .ref 0), (1, .int x1), (2, .int x2), (3, .int x3), (4, .int x4), (5, .int x5), (6, .int x6)] [] M
noncomputable def C_Plan_price : MC := (4, 1, [], [(0, [0, 1], [(.iconst 0, 1, 0, 0), (.istore_n 2, 1, 0, 0), (.iconst 0, 1, 0, 0), (.istore_n 3, 1, 0, 0)]),
  (4, [0, 1, 2, 3], [(.iload_n 3, 1, 0, 0), (.aload_n 0, 1, 0, 0), (.getfield 53, 3, 5, 12), (.if_icmp .ge 24, 3, 33, 0), (.iload_n 2, 1, 0, 0), (.iload_n 1, 1, 0, 0), (.iload_n 3, 1, 0, 0), (.ishr, 1, 0, 0), (.iconst 1, 1, 0, 0), (.iand, 1, 0, 0), (.aload_n 0, 1, 0, 0), (.getfield 15, 3, 5, 1), (.iload_n 3, 1, 0, 0), (.iaload, 1, 0, 0), (.imul, 1, 0, 0), (.iadd, 1, 0, 0), (.istore_n 2, 1, 0, 0), (.iinc 3 1, 3, 0, 0), (.goto (-26), 3, 4, 0)]),
  (33, [2], [(.iload_n 2, 1, 0, 0), (.ireturn, 1, 0, 0)])], none)
noncomputable def Plan_price (o0 : Nat) (x1 : Int32) (M : AM) : Option (Option Value × AM) := mD C_Plan_price [.ref o0, .int x1] M
noncomputable def Plan_price_4 (o0 : Nat) (x1 : Int32) (x2 : Int32) (x3 : Int32) (M : AM) : Option (Option Value × AM) := it C_Plan_price 4 [(0, .ref o0), (1, .int x1), (2, .int x2), (3, .int x3)] [] M
noncomputable def C_Plan_reach : MC := (6, 1, [], [(0, [0, 1, 2], [(.iload_n 1, 1, 0, 0), (.istore_n 3, 1, 0, 0), (.iconst 0, 1, 0, 0), (.istore 4, 2, 0, 0)]),
  (5, [0, 2, 3, 4], [(.iload 4, 2, 0, 0), (.aload_n 0, 1, 0, 0), (.getfield 53, 3, 5, 12), (.if_icmp .ge 58, 3, 69, 0), (.iconst 0, 1, 0, 0), (.istore 5, 2, 0, 0)]),
  (17, [0, 2, 3, 4, 5], [(.iload 5, 2, 0, 0), (.aload_n 0, 1, 0, 0), (.getfield 53, 3, 5, 12), (.if_icmp .ge 40, 3, 63, 0), (.iload_n 2, 1, 0, 0), (.iload 5, 2, 0, 0), (.ishr, 1, 0, 0), (.iconst 1, 1, 0, 0), (.iand, 1, 0, 0), (.ifCond .eq 25, 3, 57, 0), (.aload_n 0, 1, 0, 0), (.getfield 18, 3, 5, 2), (.iload 5, 2, 0, 0), (.iaload, 1, 0, 0), (.iload_n 3, 1, 0, 0), (.iand, 1, 0, 0), (.ifCond .eq 13, 3, 57, 0), (.iload_n 3, 1, 0, 0), (.aload_n 0, 1, 0, 0), (.getfield 18, 3, 5, 2), (.iload 5, 2, 0, 0), (.iaload, 1, 0, 0), (.ior, 1, 0, 0), (.istore_n 3, 1, 0, 0)]),
  (57, [0, 2, 3, 4, 5], [(.iinc 5 1, 3, 0, 0), (.goto (-43), 3, 17, 0)]),
  (63, [0, 2, 3, 4], [(.iinc 4 1, 3, 0, 0), (.goto (-61), 3, 5, 0)]),
  (69, [3], [(.iload_n 3, 1, 0, 0), (.ireturn, 1, 0, 0)])], none)
noncomputable def Plan_reach (o0 : Nat) (x1 : Int32) (x2 : Int32) (M : AM) : Option (Option Value × AM) := mD C_Plan_reach [.ref o0, .int x1, .int x2] M
noncomputable def Plan_reach_5 (o0 : Nat) (x2 : Int32) (x3 : Int32) (x4 : Int32) (M : AM) : Option (Option Value × AM) := it C_Plan_reach 5 [(0, .ref o0), (2, .int x2), (3, .int x3), (4, .int x4)] [] M
noncomputable def Plan_reach_17 (o0 : Nat) (x2 : Int32) (x3 : Int32) (x4 : Int32) (x5 : Int32) (M : AM) : Option (Option Value × AM) := it C_Plan_reach 17 [(0, .ref o0), (2, .int x2), (3, .int x3), (4, .int x4), (5, .int x5)] [] M
noncomputable def C_GT_least : MC := (9, 1, [(0, 9, 2, mD C_GT_isSource), (0, 5, 2, mD C_Plan_price), (0, 5, 3, mD C_Plan_reach)], [(0, [0, 1, 2], [(.aload_n 0, 1, 0, 0), (.iload_n 1, 1, 0, 0), (.invokevirtual 222, 3, 0, 1), (.ifCond .eq 12, 3, 17, 0), (.iload_n 2, 1, 0, 0), (.ifCond .lt 8, 3, 17, 0), (.iload_n 2, 1, 0, 0), (.iconst 1, 1, 0, 0), (.if_icmp .le 5, 3, 19, 0)]),
  (17, [], [(.iconst (-1), 1, 0, 0), (.ireturn, 1, 0, 0)]),
  (19, [0, 1, 2], [(.aload_n 0, 1, 0, 0), (.getfield 39, 3, 9, 3), (.getfield 109, 3, 2, 6), (.astore_n 3, 1, 0, 0), (.iconst 1, 1, 0, 0), (.aload_n 3, 1, 0, 0), (.getfield 276, 3, 5, 4), (.iload_n 1, 1, 0, 0), (.iaload, 1, 0, 0), (.ishl, 1, 0, 0), (.istore 4, 2, 0, 0), (.bipush (-2), 2, 0, 0), (.istore 5, 2, 0, 0), (.bipush (-2), 2, 0, 0), (.istore 6, 2, 0, 0), (.iconst 0, 1, 0, 0), (.istore 7, 2, 0, 0)]),
  (48, [0, 2, 3, 4, 5, 6, 7], [(.iload 7, 2, 0, 0), (.iconst 1, 1, 0, 0), (.aload_n 3, 1, 0, 0), (.getfield 279, 3, 5, 12), (.ishl, 1, 0, 0), (.if_icmp .ge 71, 3, 127, 0), (.iload 7, 2, 0, 0), (.aload_n 0, 1, 0, 0), (.getfield 55, 3, 9, 5), (.getfield 186, 3, 7, 8), (.iand, 1, 0, 0), (.ifCond .ne 52, 3, 121, 0), (.aload_n 3, 1, 0, 0), (.iload 7, 2, 0, 0), (.invokevirtual 282, 3, 1, 1), (.istore 8, 2, 0, 0), (.iload 5, 2, 0, 0), (.ifCond .lt 10, 3, 92, 0), (.iload 8, 2, 0, 0), (.iload 6, 2, 0, 0), (.if_icmp .ge 32, 3, 121, 0)]),
  (92, [0, 2, 3, 4, 5, 6, 7, 8], [(.aload_n 0, 1, 0, 0), (.getfield 55, 3, 9, 5), (.getfield 156, 3, 7, 7), (.aload_n 3, 1, 0, 0), (.iload 4, 2, 0, 0), (.iload 7, 2, 0, 0), (.invokevirtual 285, 3, 2, 1), (.iconst (-1), 1, 0, 0), (.ixor, 1, 0, 0), (.iand, 1, 0, 0), (.ifCond .ne 11, 3, 121, 0), (.iload 7, 2, 0, 0), (.istore 5, 2, 0, 0), (.iload 8, 2, 0, 0), (.istore 6, 2, 0, 0)]),
  (121, [0, 2, 3, 4, 5, 6, 7], [(.iinc 7 1, 3, 0, 0), (.goto (-76), 3, 48, 0)]),
  (127, [2, 5, 6], [(.iload_n 2, 1, 0, 0), (.ifCond .ne 8, 3, 136, 0), (.iload 5, 2, 0, 0), (.goto 5, 3, 138, 0)]),
  (136, [6], [(.iload 6, 2, 0, 0)]),
  (138, [], [(.ireturn, 1, 0, 0)])], none)
noncomputable def GT_least (x1 : Int32) (x2 : Int32) (M : AM) : Option (Option Value × AM) := mD C_GT_least [.ref 0, .int x1, .int x2] M
noncomputable def GT_least_48 (x2 : Int32) (o3 : Nat) (x4 : Int32) (x5 : Int32) (x6 : Int32) (x7 : Int32) (M : AM) : Option (Option Value × AM) := it C_GT_least 48 [(0, .ref 0), (2, .int x2), (3, .ref o3), (4, .int x4), (5, .int x5), (6, .int x6), (7, .int x7)] [] M
noncomputable def GT_least_92 (x2 : Int32) (o3 : Nat) (x4 : Int32) (x5 : Int32) (x6 : Int32) (x7 : Int32) (x8 : Int32) (M : AM) : Option (Option Value × AM) := it C_GT_least 92 [(0, .ref 0), (2, .int x2), (3, .ref o3), (4, .int x4), (5, .int x5), (6, .int x6), (7, .int x7), (8, .int x8)] [] M
noncomputable def C_GT_needed : MC := (9, 1, [(0, 9, 2, mD C_GT_isTree), (0, 5, 2, mD C_Plan_root), (0, 5, 3, mD C_Plan_reach)], [(0, [0, 1], [(.aload_n 0, 1, 0, 0), (.iload_n 1, 1, 0, 0), (.invokevirtual 189, 3, 0, 1), (.ifCond .ne 5, 3, 10, 0), (.iconst (-1), 1, 0, 0), (.ireturn, 1, 0, 0)]),
  (10, [0, 1], [(.aload_n 0, 1, 0, 0), (.getfield 39, 3, 9, 3), (.getfield 109, 3, 2, 6), (.astore_n 2, 1, 0, 0), (.aload_n 2, 1, 0, 0), (.iload_n 1, 1, 0, 0), (.invokevirtual 289, 3, 1, 1), (.istore_n 3, 1, 0, 0), (.iload_n 3, 1, 0, 0), (.ifCond .ge 5, 3, 30, 0), (.iconst 0, 1, 0, 0), (.ireturn, 1, 0, 0)]),
  (30, [0, 2, 3], [(.iconst 1, 1, 0, 0), (.aload_n 2, 1, 0, 0), (.getfield 279, 3, 5, 12), (.ishl, 1, 0, 0), (.iconst 1, 1, 0, 0), (.isub, 1, 0, 0), (.aload_n 0, 1, 0, 0), (.getfield 55, 3, 9, 5), (.getfield 186, 3, 7, 8), (.iconst (-1), 1, 0, 0), (.ixor, 1, 0, 0), (.iand, 1, 0, 0), (.istore 4, 2, 0, 0), (.aload_n 0, 1, 0, 0), (.getfield 55, 3, 9, 5), (.getfield 156, 3, 7, 7), (.aload_n 2, 1, 0, 0), (.iconst 1, 1, 0, 0), (.iload_n 3, 1, 0, 0), (.ishl, 1, 0, 0), (.iload 4, 2, 0, 0), (.invokevirtual 285, 3, 2, 1), (.iand, 1, 0, 0), (.istore 5, 2, 0, 0), (.iconst 0, 1, 0, 0), (.istore 6, 2, 0, 0), (.iconst 0, 1, 0, 0), (.istore 7, 2, 0, 0)]),
  (75, [2, 3, 4, 5, 6, 7], [(.iload 7, 2, 0, 0), (.aload_n 2, 1, 0, 0), (.getfield 279, 3, 5, 12), (.if_icmp .ge 52, 3, 133, 0), (.iconst 1, 1, 0, 0), (.iload 7, 2, 0, 0), (.ishl, 1, 0, 0), (.istore 8, 2, 0, 0), (.iload 4, 2, 0, 0), (.iload 8, 2, 0, 0), (.iand, 1, 0, 0), (.ifCond .eq 32, 3, 127, 0), (.iload 5, 2, 0, 0), (.aload_n 2, 1, 0, 0), (.iconst 1, 1, 0, 0), (.iload_n 3, 1, 0, 0), (.ishl, 1, 0, 0), (.iload 4, 2, 0, 0), (.iload 8, 2, 0, 0), (.iconst (-1), 1, 0, 0), (.ixor, 1, 0, 0), (.iand, 1, 0, 0), (.invokevirtual 285, 3, 2, 1), (.iconst (-1), 1, 0, 0), (.ixor, 1, 0, 0), (.iand, 1, 0, 0), (.ifCond .eq 10, 3, 127, 0), (.iload 6, 2, 0, 0), (.iload 8, 2, 0, 0), (.ior, 1, 0, 0), (.istore 6, 2, 0, 0)]),
  (127, [2, 3, 4, 5, 6, 7], [(.iinc 7 1, 3, 0, 0), (.goto (-55), 3, 75, 0)]),
  (133, [6], [(.iload 6, 2, 0, 0), (.ireturn, 1, 0, 0)])], none)
noncomputable def GT_needed (x1 : Int32) (M : AM) : Option (Option Value × AM) := mD C_GT_needed [.ref 0, .int x1] M
noncomputable def GT_needed_75 (o2 : Nat) (x3 : Int32) (x4 : Int32) (x5 : Int32) (x6 : Int32) (x7 : Int32) (M : AM) : Option (Option Value × AM) := it C_GT_needed 75 [(2, .ref o2), (3, .int x3), (4, .int x4), (5, .int x5), (6, .int x6), (7, .int x7)] [] M
noncomputable def C_GT_wide : MC := (5, 1, [(0, 9, 2, mD C_GT_isTree), (0, 2, 2, mD C_Net_measure), (4, 0, 0, fun _ _ => none)], [(0, [0, 1], [(.aload_n 0, 1, 0, 0), (.iload_n 1, 1, 0, 0), (.invokevirtual 189, 3, 0, 1), (.ifCond .ne 5, 3, 10, 0), (.iconst (-1), 1, 0, 0), (.ireturn, 1, 0, 0)]),
  (10, [0, 1], [(.aload_n 0, 1, 0, 0), (.getfield 39, 3, 9, 3), (.aload_n 0, 1, 0, 0), (.getfield 55, 3, 9, 5), (.getfield 186, 3, 7, 8), (.invokevirtual 192, 3, 1, 0), (.iconst 0, 1, 0, 0), (.istore_n 2, 1, 0, 0), (.iconst 0, 1, 0, 0), (.istore_n 3, 1, 0, 0)]),
  (28, [0, 1, 2, 3], [(.iload_n 3, 1, 0, 0), (.aload_n 0, 1, 0, 0), (.getfield 39, 3, 9, 3), (.getfield 109, 3, 2, 6), (.getfield 132, 3, 5, 11), (.if_icmp .ge 39, 3, 78, 0), (.aload_n 0, 1, 0, 0), (.getfield 39, 3, 9, 3), (.getfield 195, 3, 2, 0), (.iload_n 1, 1, 0, 0), (.bipush 7, 2, 0, 0), (.imul, 1, 0, 0), (.iload_n 3, 1, 0, 0), (.iadd, 1, 0, 0), (.iaload, 1, 0, 0), (.istore 4, 2, 0, 0), (.iload 4, 2, 0, 0), (.bipush 99, 2, 0, 0), (.if_icmp .ge 10, 3, 72, 0), (.iload_n 2, 1, 0, 0), (.iload 4, 2, 0, 0), (.invokestatic 292, 3, 2, 0), (.istore_n 2, 1, 0, 0)]),
  (72, [0, 1, 2, 3], [(.iinc 3 1, 3, 0, 0), (.goto (-47), 3, 28, 0)]),
  (78, [2], [(.iload_n 2, 1, 0, 0), (.ireturn, 1, 0, 0)])], none)
noncomputable def GT_wide (x1 : Int32) (M : AM) : Option (Option Value × AM) := mD C_GT_wide [.ref 0, .int x1] M
noncomputable def GT_wide_28 (x1 : Int32) (x2 : Int32) (x3 : Int32) (M : AM) : Option (Option Value × AM) := it C_GT_wide 28 [(0, .ref 0), (1, .int x1), (2, .int x2), (3, .int x3)] [] M
noncomputable def C_GT_used : MC := (2, 1, [(0, 9, 2, mD C_GT_isTree), (0, 7, 2, mD C_State_linksHeld)], [(0, [0, 1], [(.aload_n 0, 1, 0, 0), (.iload_n 1, 1, 0, 0), (.invokevirtual 189, 3, 0, 1), (.ifCond .eq 14, 3, 19, 0), (.aload_n 0, 1, 0, 0), (.getfield 55, 3, 9, 5), (.iload_n 1, 1, 0, 0), (.invokevirtual 265, 3, 1, 1), (.goto 4, 3, 20, 0)]),
  (19, [], [(.iconst (-1), 1, 0, 0)]),
  (20, [], [(.ireturn, 1, 0, 0)])], none)
noncomputable def GT_used (x1 : Int32) (M : AM) : Option (Option Value × AM) := mD C_GT_used [.ref 0, .int x1] M
noncomputable def C_GT_arePair : MC := (4, 3, [(0, 9, 2, mD C_GT_isTree), (0, 9, 2, mD C_GT_isNode)], [(0, [0, 1, 2, 3], [(.aload_n 0, 1, 0, 0), (.iload_n 1, 1, 0, 0), (.invokevirtual 189, 3, 0, 1), (.ifCond .eq 28, 3, 33, 0), (.aload_n 0, 1, 0, 0), (.iload_n 2, 1, 0, 0), (.invokevirtual 145, 3, 1, 1), (.ifCond .eq 20, 3, 33, 0), (.aload_n 0, 1, 0, 0), (.iload_n 3, 1, 0, 0), (.invokevirtual 145, 3, 1, 1), (.ifCond .eq 12, 3, 33, 0), (.iload_n 2, 1, 0, 0), (.iload_n 3, 1, 0, 0), (.if_icmp .eq 7, 3, 33, 0), (.iconst 1, 1, 0, 0), (.goto 4, 3, 34, 0)]),
  (33, [], [(.iconst 0, 1, 0, 0)]),
  (34, [], [(.ireturn, 1, 0, 0)])], none)
noncomputable def GT_arePair (x1 : Int32) (x2 : Int32) (x3 : Int32) (M : AM) : Option (Option Value × AM) := mD C_GT_arePair [.ref 0, .int x1, .int x2, .int x3] M
noncomputable def C_GT_gain : MC := (3, 1, [(4, 0, 0, fun _ _ => none)], [(0, [0, 1, 2], [(.iload_n 1, 1, 0, 0), (.ifCond .ne 29, 3, 30, 0), (.iload_n 2, 1, 0, 0), (.ifCond .ne 16, 3, 21, 0), (.iconst 0, 1, 0, 0), (.bipush 9, 2, 0, 0), (.iload_n 0, 1, 0, 0), (.isub, 1, 0, 0), (.invokestatic 292, 3, 0, 0), (.iconst 2, 1, 0, 0), (.idiv, 1, 0, 0), (.goto 11, 3, 29, 0)]),
  (21, [0], [(.iconst 0, 1, 0, 0), (.bipush 10, 2, 0, 0), (.iload_n 0, 1, 0, 0), (.isub, 1, 0, 0), (.invokestatic 292, 3, 0, 0)]),
  (29, [], [(.ireturn, 1, 0, 0)]),
  (30, [2], [(.iload_n 2, 1, 0, 0), (.ifCond .ne 7, 3, 38, 0), (.iconst 3, 1, 0, 0), (.goto 4, 3, 39, 0)]),
  (38, [], [(.iconst 0, 1, 0, 0)]),
  (39, [], [(.ireturn, 1, 0, 0)])], none)
noncomputable def GT_gain (x0 : Int32) (x1 : Int32) (x2 : Int32) (M : AM) : Option (Option Value × AM) := mD C_GT_gain [.int x0, .int x1, .int x2] M
noncomputable def C_GT_restBits : MC := (10, 1, [(0, 2, 2, mD C_Net_measure), (1, 0, 3, mD C_GT_gain)], [(0, [0, 1, 2, 3], [(.aload_n 0, 1, 0, 0), (.getfield 39, 3, 9, 3), (.aload_n 0, 1, 0, 0), (.getfield 55, 3, 9, 5), (.getfield 186, 3, 7, 8), (.invokevirtual 192, 3, 0, 0), (.aload_n 0, 1, 0, 0), (.getfield 39, 3, 9, 3), (.getfield 195, 3, 2, 0), (.iload_n 1, 1, 0, 0), (.bipush 7, 2, 0, 0), (.imul, 1, 0, 0), (.iload_n 2, 1, 0, 0), (.iadd, 1, 0, 0), (.iaload, 1, 0, 0), (.istore 4, 2, 0, 0), (.aload_n 0, 1, 0, 0), (.getfield 39, 3, 9, 3), (.getfield 195, 3, 2, 0), (.iload_n 1, 1, 0, 0), (.bipush 7, 2, 0, 0), (.imul, 1, 0, 0), (.iload_n 3, 1, 0, 0), (.iadd, 1, 0, 0), (.iaload, 1, 0, 0), (.istore 5, 2, 0, 0), (.iconst 0, 1, 0, 0), (.istore 6, 2, 0, 0), (.iconst 0, 1, 0, 0), (.istore 7, 2, 0, 0)]),
  (52, [4, 5, 6, 7], [(.iload 7, 2, 0, 0), (.iconst 4, 1, 0, 0), (.if_icmp .ge 76, 3, 131, 0), (.iload 7, 2, 0, 0), (.iconst 2, 1, 0, 0), (.idiv, 1, 0, 0), (.istore 8, 2, 0, 0), (.iload 7, 2, 0, 0), (.iconst 2, 1, 0, 0), (.irem, 1, 0, 0), (.istore 9, 2, 0, 0), (.iload 4, 2, 0, 0), (.iload 8, 2, 0, 0), (.iload 9, 2, 0, 0), (.invokestatic 373, 3, 1, 1), (.iload 4, 2, 0, 0), (.iconst 1, 1, 0, 0), (.iload 8, 2, 0, 0), (.isub, 1, 0, 0), (.iload 9, 2, 0, 0), (.invokestatic 373, 3, 1, 1), (.if_icmp .lt 35, 3, 125, 0), (.iload 5, 2, 0, 0), (.iload 9, 2, 0, 0), (.iload 8, 2, 0, 0), (.invokestatic 373, 3, 1, 1), (.iload 5, 2, 0, 0), (.iconst 1, 1, 0, 0), (.iload 9, 2, 0, 0), (.isub, 1, 0, 0), (.iload 8, 2, 0, 0), (.invokestatic 373, 3, 1, 1), (.if_icmp .lt 12, 3, 125, 0), (.iload 6, 2, 0, 0), (.iconst 1, 1, 0, 0), (.iload 7, 2, 0, 0), (.ishl, 1, 0, 0), (.ior, 1, 0, 0), (.istore 6, 2, 0, 0)]),
  (125, [4, 5, 6, 7], [(.iinc 7 1, 3, 0, 0), (.goto (-76), 3, 52, 0)]),
  (131, [6], [(.iload 6, 2, 0, 0), (.ireturn, 1, 0, 0)])], none)
noncomputable def GT_restBits (x1 : Int32) (x2 : Int32) (x3 : Int32) (M : AM) : Option (Option Value × AM) := mD C_GT_restBits [.ref 0, .int x1, .int x2, .int x3] M
noncomputable def GT_restBits_52 (x4 : Int32) (x5 : Int32) (x6 : Int32) (x7 : Int32) (M : AM) : Option (Option Value × AM) := it C_GT_restBits 52 [(4, .int x4), (5, .int x5), (6, .int x6), (7, .int x7)] [] M
noncomputable def C_GT_rests : MC := (4, 1, [(0, 9, 4, mD C_GT_arePair), (0, 9, 4, mD C_GT_restBits), (1, 0, 1, mD C_Jint_bitCount)], [(0, [0, 1, 2, 3], [(.aload_n 0, 1, 0, 0), (.iload_n 1, 1, 0, 0), (.iload_n 2, 1, 0, 0), (.iload_n 3, 1, 0, 0), (.invokevirtual 297, 3, 0, 1), (.ifCond .ne 5, 3, 12, 0), (.iconst (-1), 1, 0, 0), (.ireturn, 1, 0, 0)]),
  (12, [0, 1, 2, 3], [(.aload_n 0, 1, 0, 0), (.iload_n 1, 1, 0, 0), (.iload_n 2, 1, 0, 0), (.iload_n 3, 1, 0, 0), (.invokevirtual 301, 3, 1, 1), (.invokestatic 305, 3, 2, 1), (.ireturn, 1, 0, 0)])], none)
noncomputable def GT_rests (x1 : Int32) (x2 : Int32) (x3 : Int32) (M : AM) : Option (Option Value × AM) := mD C_GT_rests [.ref 0, .int x1, .int x2, .int x3] M
noncomputable def C_GT_rest : MC := (8, 1, [(0, 9, 4, mD C_GT_arePair), (0, 9, 4, mD C_GT_restBits)], [(0, [0, 1, 2, 3, 4], [(.aload_n 0, 1, 0, 0), (.iload_n 1, 1, 0, 0), (.iload_n 2, 1, 0, 0), (.iload_n 3, 1, 0, 0), (.invokevirtual 297, 3, 0, 1), (.ifCond .eq 8, 3, 15, 0), (.iload 4, 2, 0, 0), (.ifCond .ge 5, 3, 17, 0)]),
  (15, [], [(.iconst (-1), 1, 0, 0), (.ireturn, 1, 0, 0)]),
  (17, [0, 1, 2, 3, 4], [(.aload_n 0, 1, 0, 0), (.iload_n 1, 1, 0, 0), (.iload_n 2, 1, 0, 0), (.iload_n 3, 1, 0, 0), (.invokevirtual 301, 3, 1, 1), (.istore 5, 2, 0, 0), (.iload 4, 2, 0, 0), (.istore 6, 2, 0, 0), (.iconst 0, 1, 0, 0), (.istore 7, 2, 0, 0)]),
  (33, [5, 6, 7], [(.iload 7, 2, 0, 0), (.iconst 4, 1, 0, 0), (.if_icmp .ge 40, 3, 76, 0), (.iload 5, 2, 0, 0), (.iload 7, 2, 0, 0), (.ishr, 1, 0, 0), (.iconst 1, 1, 0, 0), (.iand, 1, 0, 0), (.ifCond .eq 24, 3, 70, 0), (.iload 6, 2, 0, 0), (.ifCond .ne 16, 3, 67, 0), (.iload 7, 2, 0, 0), (.iconst 2, 1, 0, 0), (.idiv, 1, 0, 0), (.bipush 10, 2, 0, 0), (.imul, 1, 0, 0), (.iload 7, 2, 0, 0), (.iconst 2, 1, 0, 0), (.irem, 1, 0, 0), (.iadd, 1, 0, 0), (.ireturn, 1, 0, 0)]),
  (67, [5, 6, 7], [(.iinc 6 (-1), 3, 0, 0)]),
  (70, [5, 6, 7], [(.iinc 7 1, 3, 0, 0), (.goto (-40), 3, 33, 0)]),
  (76, [], [(.bipush (-2), 2, 0, 0), (.ireturn, 1, 0, 0)])], none)
noncomputable def GT_rest (x1 : Int32) (x2 : Int32) (x3 : Int32) (x4 : Int32) (M : AM) : Option (Option Value × AM) := mD C_GT_rest [.ref 0, .int x1, .int x2, .int x3, .int x4] M
noncomputable def GT_rest_33 (x5 : Int32) (x6 : Int32) (x7 : Int32) (M : AM) : Option (Option Value × AM) := it C_GT_rest 33 [(5, .int x5), (6, .int x6), (7, .int x7)] [] M
noncomputable def C_GT_common : MC := (6, 1, [], [(0, [0, 1], [(.iload_n 0, 1, 0, 0), (.istore_n 2, 1, 0, 0), (.iload_n 1, 1, 0, 0), (.istore_n 3, 1, 0, 0), (.iconst 0, 1, 0, 0), (.istore 4, 2, 0, 0)]),
  (7, [2, 3, 4], [(.iload 4, 2, 0, 0), (.bipush 64, 2, 0, 0), (.if_icmp .ge 23, 3, 34, 0), (.iload_n 3, 1, 0, 0), (.ifCond .eq 19, 3, 34, 0), (.iload_n 2, 1, 0, 0), (.iload_n 3, 1, 0, 0), (.irem, 1, 0, 0), (.istore 5, 2, 0, 0), (.iload_n 3, 1, 0, 0), (.istore_n 2, 1, 0, 0), (.iload 5, 2, 0, 0), (.istore_n 3, 1, 0, 0), (.iinc 4 1, 3, 0, 0), (.goto (-24), 3, 7, 0)]),
  (34, [2], [(.iload_n 2, 1, 0, 0), (.ireturn, 1, 0, 0)])], none)
noncomputable def GT_common (x0 : Int32) (x1 : Int32) (M : AM) : Option (Option Value × AM) := mD C_GT_common [.int x0, .int x1] M
noncomputable def GT_common_7 (x2 : Int32) (x3 : Int32) (x4 : Int32) (M : AM) : Option (Option Value × AM) := it C_GT_common 7 [(2, .int x2), (3, .int x3), (4, .int x4)] [] M
noncomputable def C_GT_holds : MC := (10, 2, [(1, 0, 2, mD C_GT_common)], [(0, [0, 1, 2], [(.iload_n 1, 1, 0, 0), (.ifCond .lt 18, 3, 19, 0), (.iload_n 1, 1, 0, 0), (.bipush 6, 2, 0, 0), (.if_icmp .gt 12, 3, 19, 0), (.iload_n 2, 1, 0, 0), (.ifCond .lt 8, 3, 19, 0), (.iload_n 2, 1, 0, 0), (.iconst 1, 1, 0, 0), (.if_icmp .le 7, 3, 23, 0)]),
  (19, [], [(.ldc2_w 310, 3, 18446744073709551615, 0), (.lreturn, 1, 0, 0)]),
  (23, [0, 1, 2], [(.bipush 100, 2, 0, 0), (.aload_n 0, 1, 0, 0), (.getfield 39, 3, 9, 3), (.getfield 109, 3, 2, 6), (.getfield 312, 3, 5, 18), (.isub, 1, 0, 0), (.istore_n 3, 1, 0, 0), (.iload_n 3, 1, 0, 0), (.bipush 100, 2, 0, 0), (.invokestatic 315, 3, 0, 1), (.istore 4, 2, 0, 0), (.iload_n 2, 1, 0, 0), (.ifCond .ne 7, 3, 53, 0), (.iload_n 3, 1, 0, 0), (.goto 5, 3, 55, 0)]),
  (53, [1, 4], [(.bipush 100, 2, 0, 0)]),
  (55, [1, 4], [(.iload 4, 2, 0, 0), (.ifCond .ne 7, 3, 64, 0), (.iconst 1, 1, 0, 0), (.goto 5, 3, 66, 0)]),
  (64, [1, 4], [(.iload 4, 2, 0, 0)]),
  (66, [1], [(.idiv, 1, 0, 0), (.i2l, 1, 0, 0), (.lstore 5, 2, 0, 0), (.lconst 1, 1, 0, 0), (.lstore 7, 2, 0, 0), (.iconst 0, 1, 0, 0), (.istore 9, 2, 0, 0)]),
  (76, [1, 5, 7, 9], [(.iload 9, 2, 0, 0), (.iload_n 1, 1, 0, 0), (.if_icmp .ge 16, 3, 95, 0), (.lload 7, 2, 0, 0), (.lload 5, 2, 0, 0), (.lmul, 1, 0, 0), (.lstore 7, 2, 0, 0), (.iinc 9 1, 3, 0, 0), (.goto (-16), 3, 76, 0)]),
  (95, [7], [(.lload 7, 2, 0, 0), (.lreturn, 1, 0, 0)])], none)
noncomputable def GT_holds (x1 : Int32) (x2 : Int32) (M : AM) : Option (Option Value × AM) := mD C_GT_holds [.ref 0, .int x1, .int x2] M
noncomputable def GT_holds_55 (x1 : Int32) (x4 : Int32) (z0 : Int32) (M : AM) : Option (Option Value × AM) := it C_GT_holds 55 [(1, .int x1), (4, .int x4)] [.int z0] M
noncomputable def GT_holds_76 (x1 : Int32) (y5 : Int64) (y7 : Int64) (x9 : Int32) (M : AM) : Option (Option Value × AM) := it C_GT_holds 76 [(1, .int x1), (5, .long y5), (7, .long y7), (9, .int x9)] [] M
noncomputable def C_Notes_add : MC := (5, 1, [], [(0, [0, 1, 2, 3, 4], [(.aload_n 0, 1, 0, 0), (.getfield 34, 3, 3, 8), (.bipush 24, 2, 0, 0), (.if_icmp .lt 5, 3, 11, 0), (.iconst (-1), 1, 0, 0), (.ireturn, 1, 0, 0)]),
  (11, [0, 1, 2, 3, 4], [(.aload_n 0, 1, 0, 0), (.getfield 9, 3, 3, 1), (.aload_n 0, 1, 0, 0), (.getfield 34, 3, 3, 8), (.iload_n 1, 1, 0, 0), (.iastore, 1, 0, 0), (.aload_n 0, 1, 0, 0), (.getfield 15, 3, 3, 2), (.aload_n 0, 1, 0, 0), (.getfield 34, 3, 3, 8), (.iload_n 2, 1, 0, 0), (.iastore, 1, 0, 0), (.aload_n 0, 1, 0, 0), (.getfield 18, 3, 3, 3), (.aload_n 0, 1, 0, 0), (.getfield 34, 3, 3, 8), (.iload_n 3, 1, 0, 0), (.iastore, 1, 0, 0), (.aload_n 0, 1, 0, 0), (.getfield 21, 3, 3, 4), (.aload_n 0, 1, 0, 0), (.getfield 34, 3, 3, 8), (.iload 4, 2, 0, 0), (.iastore, 1, 0, 0), (.aload_n 0, 1, 0, 0), (.dup, 1, 0, 0), (.getfield 34, 3, 3, 8), (.iconst 1, 1, 0, 0), (.iadd, 1, 0, 0), (.putfield 34, 3, 3, 8), (.aload_n 0, 1, 0, 0), (.getfield 34, 3, 3, 8), (.iconst 1, 1, 0, 0), (.isub, 1, 0, 0), (.ireturn, 1, 0, 0)])], none)
noncomputable def Notes_add (x1 : Int32) (x2 : Int32) (x3 : Int32) (x4 : Int32) (M : AM) : Option (Option Value × AM) := mD C_Notes_add [.ref 74, .int x1, .int x2, .int x3, .int x4] M
noncomputable def C_GT_note : MC := (5, 1, [(0, 9, 2, mD C_GT_isNode), (0, 3, 5, mD C_Notes_add)], [(0, [0, 1, 2, 3, 4], [(.aload_n 0, 1, 0, 0), (.iload_n 1, 1, 0, 0), (.invokevirtual 145, 3, 0, 1), (.ifCond .eq 26, 3, 31, 0), (.aload_n 0, 1, 0, 0), (.iload_n 2, 1, 0, 0), (.invokevirtual 145, 3, 0, 1), (.ifCond .eq 18, 3, 31, 0), (.iload_n 1, 1, 0, 0), (.iload_n 2, 1, 0, 0), (.if_icmp .eq 13, 3, 31, 0), (.iload_n 3, 1, 0, 0), (.ifCond .lt 9, 3, 31, 0), (.iload_n 3, 1, 0, 0), (.bipush 99, 2, 0, 0), (.if_icmp .le 5, 3, 33, 0)]),
  (31, [], [(.iconst (-1), 1, 0, 0), (.ireturn, 1, 0, 0)]),
  (33, [0, 1, 2, 3, 4], [(.aload_n 0, 1, 0, 0), (.getfield 75, 3, 9, 9), (.iload 4, 2, 0, 0), (.ifCond .eq 7, 3, 46, 0), (.iconst 0, 1, 0, 0), (.goto 4, 3, 47, 0)]),
  (46, [1, 2, 3], [(.iconst 1, 1, 0, 0)]),
  (47, [1, 2, 3], [(.iload_n 1, 1, 0, 0), (.iload_n 2, 1, 0, 0), (.iload_n 3, 1, 0, 0), (.invokevirtual 318, 3, 1, 1), (.ireturn, 1, 0, 0)])], none)
noncomputable def GT_note (x1 : Int32) (x2 : Int32) (x3 : Int32) (x4 : Int32) (M : AM) : Option (Option Value × AM) := mD C_GT_note [.ref 0, .int x1, .int x2, .int x3, .int x4] M
noncomputable def C_GT_strike : MC := (2, 1, [(0, 3, 5, mD C_Notes_add)], [(0, [0, 1], [(.iload_n 1, 1, 0, 0), (.ifCond .lt 14, 3, 15, 0), (.iload_n 1, 1, 0, 0), (.aload_n 0, 1, 0, 0), (.getfield 75, 3, 9, 9), (.getfield 322, 3, 3, 8), (.if_icmp .lt 5, 3, 17, 0)]),
  (15, [], [(.iconst (-1), 1, 0, 0), (.ireturn, 1, 0, 0)]),
  (17, [0, 1], [(.aload_n 0, 1, 0, 0), (.getfield 75, 3, 9, 9), (.iconst 2, 1, 0, 0), (.iload_n 1, 1, 0, 0), (.iconst 0, 1, 0, 0), (.iconst 0, 1, 0, 0), (.invokevirtual 318, 3, 0, 1), (.ireturn, 1, 0, 0)])], none)
noncomputable def GT_strike (x1 : Int32) (M : AM) : Option (Option Value × AM) := mD C_GT_strike [.ref 0, .int x1] M
noncomputable def C_GT_known : MC := (2, 3, [], [(0, [0, 1], [(.iload_n 1, 1, 0, 0), (.iconst (-1), 1, 0, 0), (.if_icmp .lt 14, 3, 16, 0), (.iload_n 1, 1, 0, 0), (.aload_n 0, 1, 0, 0), (.getfield 75, 3, 9, 9), (.getfield 322, 3, 3, 8), (.if_icmp .le 5, 3, 18, 0)]),
  (16, [], [(.iconst 0, 1, 0, 0), (.ireturn, 1, 0, 0)]),
  (18, [0, 1], [(.aload_n 0, 1, 0, 0), (.getfield 75, 3, 9, 9), (.iload_n 1, 1, 0, 0), (.putfield 325, 3, 3, 9), (.iconst 1, 1, 0, 0), (.ireturn, 1, 0, 0)])], none)
noncomputable def GT_known (x1 : Int32) (M : AM) : Option (Option Value × AM) := mD C_GT_known [.ref 0, .int x1] M
noncomputable def C_Notes_farAt : MC := (3, 1, [], [(0, [0, 1, 2], [(.iload_n 0, 1, 0, 0), (.iconst 1, 1, 0, 0), (.isub, 1, 0, 0), (.bipush 7, 2, 0, 0), (.imul, 1, 0, 0), (.iload_n 1, 1, 0, 0), (.iadd, 1, 0, 0), (.bipush 7, 2, 0, 0), (.imul, 1, 0, 0), (.iload_n 2, 1, 0, 0), (.iadd, 1, 0, 0), (.ireturn, 1, 0, 0)])], none)
noncomputable def Notes_farAt (x0 : Int32) (x1 : Int32) (x2 : Int32) (M : AM) : Option (Option Value × AM) := mD C_Notes_farAt [.int x0, .int x1, .int x2] M
noncomputable def C_Notes_tabulate : MC := (5, 0, [(2, 0, 0, fun _ _ => none), (1, 0, 3, mD C_Notes_farAt), (0, 5, 6, mD C_Plan_spread)], [(0, [0, 1], [(.aload_n 0, 1, 0, 0), (.getfield 30, 3, 3, 7), (.iload_n 1, 1, 0, 0), (.if_icmp .ne 4, 3, 9, 0), (.return_, 1, 0, 0)]),
  (9, [0, 1], [(.aload_n 0, 1, 0, 0), (.getfield 49, 3, 3, 0), (.getfield 53, 3, 2, 6), (.astore_n 2, 1, 0, 0), (.aload_n 2, 1, 0, 0), (.getfield 59, 3, 5, 1), (.iconst 0, 1, 0, 0), (.aload_n 0, 1, 0, 0), (.getfield 24, 3, 3, 5), (.iconst 0, 1, 0, 0), (.bipush 8, 2, 0, 0), (.invokestatic 64, 3, 0, 0), (.iconst 1, 1, 0, 0), (.istore_n 3, 1, 0, 0)]),
  (34, [0, 1, 2, 3], [(.iload_n 3, 1, 0, 0), (.bipush 9, 2, 0, 0), (.if_icmp .gt 56, 3, 93, 0), (.aload_n 0, 1, 0, 0), (.getfield 24, 3, 3, 5), (.iload_n 1, 1, 0, 0), (.iload_n 3, 1, 0, 0), (.iastore, 1, 0, 0), (.iconst 0, 1, 0, 0), (.istore 4, 2, 0, 0)]),
  (50, [0, 1, 2, 3, 4], [(.iload 4, 2, 0, 0), (.aload_n 2, 1, 0, 0), (.getfield 70, 3, 5, 11), (.if_icmp .ge 31, 3, 87, 0), (.aload_n 2, 1, 0, 0), (.aload_n 0, 1, 0, 0), (.getfield 24, 3, 3, 5), (.iconst 0, 1, 0, 0), (.iload 4, 2, 0, 0), (.aload_n 0, 1, 0, 0), (.getfield 27, 3, 3, 6), (.iload_n 3, 1, 0, 0), (.iload 4, 2, 0, 0), (.iconst 0, 1, 0, 0), (.invokestatic 73, 3, 1, 1), (.invokevirtual 77, 3, 2, 0), (.iinc 4 1, 3, 0, 0), (.goto (-34), 3, 50, 0)]),
  (87, [0, 1, 2, 3], [(.iinc 3 1, 3, 0, 0), (.goto (-56), 3, 34, 0)]),
  (93, [0, 1], [(.aload_n 0, 1, 0, 0), (.iload_n 1, 1, 0, 0), (.putfield 30, 3, 3, 7), (.return_, 1, 0, 0)])], none)
noncomputable def Notes_tabulate (x1 : Int32) (M : AM) : Option (Option Value × AM) := mD C_Notes_tabulate [.ref 74, .int x1] M
noncomputable def Notes_tabulate_34 (x1 : Int32) (o2 : Nat) (x3 : Int32) (M : AM) : Option (Option Value × AM) := it C_Notes_tabulate 34 [(0, .ref 74), (1, .int x1), (2, .ref o2), (3, .int x3)] [] M
noncomputable def Notes_tabulate_50 (x1 : Int32) (o2 : Nat) (x3 : Int32) (x4 : Int32) (M : AM) : Option (Option Value × AM) := it C_Notes_tabulate 50 [(0, .ref 74), (1, .int x1), (2, .ref o2), (3, .int x3), (4, .int x4)] [] M
noncomputable def C_Notes_inForce : MC := (1, 1, [], [(0, [0], [(.aload_n 0, 1, 0, 0), (.getfield 37, 3, 3, 9), (.iconst (-1), 1, 0, 0), (.if_icmp .ne 10, 3, 15, 0), (.aload_n 0, 1, 0, 0), (.getfield 34, 3, 3, 8), (.goto 7, 3, 19, 0)]),
  (15, [0], [(.aload_n 0, 1, 0, 0), (.getfield 37, 3, 3, 9)]),
  (19, [], [(.ireturn, 1, 0, 0)])], none)
noncomputable def Notes_inForce (M : AM) : Option (Option Value × AM) := mD C_Notes_inForce [.ref 74] M
noncomputable def C_Notes_standing : MC := (4, 1, [(0, 3, 1, mD C_Notes_inForce)], [(0, [0], [(.iconst 0, 1, 0, 0), (.istore_n 1, 1, 0, 0), (.iconst 0, 1, 0, 0), (.istore_n 2, 1, 0, 0), (.aload_n 0, 1, 0, 0), (.invokevirtual 81, 3, 0, 1), (.iconst 1, 1, 0, 0), (.isub, 1, 0, 0), (.istore_n 3, 1, 0, 0)]),
  (11, [0, 1, 2, 3], [(.iload_n 3, 1, 0, 0), (.ifCond .lt 47, 3, 59, 0), (.iload_n 1, 1, 0, 0), (.iload_n 3, 1, 0, 0), (.ishr, 1, 0, 0), (.iconst 1, 1, 0, 0), (.iand, 1, 0, 0), (.ifCond .ne 33, 3, 53, 0), (.aload_n 0, 1, 0, 0), (.getfield 9, 3, 3, 1), (.iload_n 3, 1, 0, 0), (.iaload, 1, 0, 0), (.iconst 2, 1, 0, 0), (.if_icmp .ne 17, 3, 47, 0), (.iload_n 1, 1, 0, 0), (.iconst 1, 1, 0, 0), (.aload_n 0, 1, 0, 0), (.getfield 15, 3, 3, 2), (.iload_n 3, 1, 0, 0), (.iaload, 1, 0, 0), (.ishl, 1, 0, 0), (.ior, 1, 0, 0), (.istore_n 1, 1, 0, 0), (.goto 9, 3, 53, 0)]),
  (47, [0, 1, 2, 3], [(.iload_n 2, 1, 0, 0), (.iconst 1, 1, 0, 0), (.iload_n 3, 1, 0, 0), (.ishl, 1, 0, 0), (.ior, 1, 0, 0), (.istore_n 2, 1, 0, 0)]),
  (53, [0, 1, 2, 3], [(.iinc 3 (-1), 3, 0, 0), (.goto (-45), 3, 11, 0)]),
  (59, [2], [(.iload_n 2, 1, 0, 0), (.ireturn, 1, 0, 0)])], none)
noncomputable def Notes_standing (M : AM) : Option (Option Value × AM) := mD C_Notes_standing [.ref 74] M
noncomputable def Notes_standing_11 (x1 : Int32) (x2 : Int32) (x3 : Int32) (M : AM) : Option (Option Value × AM) := it C_Notes_standing 11 [(0, .ref 74), (1, .int x1), (2, .int x2), (3, .int x3)] [] M
noncomputable def C_Notes_fits : MC := (5, 3, [(1, 0, 3, mD C_Notes_farAt)], [(0, [0, 1, 2], [(.iconst 0, 1, 0, 0), (.istore_n 3, 1, 0, 0)]),
  (2, [0, 1, 2, 3], [(.iload_n 3, 1, 0, 0), (.aload_n 0, 1, 0, 0), (.getfield 34, 3, 3, 8), (.if_icmp .ge 75, 3, 82, 0), (.iload_n 2, 1, 0, 0), (.iload_n 3, 1, 0, 0), (.ishr, 1, 0, 0), (.iconst 1, 1, 0, 0), (.iand, 1, 0, 0), (.ifCond .eq 61, 3, 76, 0), (.aload_n 0, 1, 0, 0), (.getfield 27, 3, 3, 6), (.iload_n 1, 1, 0, 0), (.aload_n 0, 1, 0, 0), (.getfield 15, 3, 3, 2), (.iload_n 3, 1, 0, 0), (.iaload, 1, 0, 0), (.aload_n 0, 1, 0, 0), (.getfield 18, 3, 3, 3), (.iload_n 3, 1, 0, 0), (.iaload, 1, 0, 0), (.invokestatic 73, 3, 0, 1), (.iaload, 1, 0, 0), (.aload_n 0, 1, 0, 0), (.getfield 21, 3, 3, 4), (.iload_n 3, 1, 0, 0), (.iaload, 1, 0, 0), (.if_icmp .gt 7, 3, 52, 0), (.iconst 1, 1, 0, 0), (.goto 4, 3, 53, 0)]),
  (52, [0, 1, 2, 3], [(.iconst 0, 1, 0, 0)]),
  (53, [0, 1, 2, 3], [(.istore 4, 2, 0, 0), (.iload 4, 2, 0, 0), (.aload_n 0, 1, 0, 0), (.getfield 9, 3, 3, 1), (.iload_n 3, 1, 0, 0), (.iaload, 1, 0, 0), (.ifCond .ne 7, 3, 70, 0), (.iconst 1, 1, 0, 0), (.goto 4, 3, 71, 0)]),
  (70, [0, 1, 2, 3], [(.iconst 0, 1, 0, 0)]),
  (71, [0, 1, 2, 3], [(.if_icmp .eq 5, 3, 76, 0), (.iconst 0, 1, 0, 0), (.ireturn, 1, 0, 0)]),
  (76, [0, 1, 2, 3], [(.iinc 3 1, 3, 0, 0), (.goto (-77), 3, 2, 0)]),
  (82, [], [(.iconst 1, 1, 0, 0), (.ireturn, 1, 0, 0)])], none)
noncomputable def Notes_fits (x1 : Int32) (x2 : Int32) (M : AM) : Option (Option Value × AM) := mD C_Notes_fits [.ref 74, .int x1, .int x2] M
noncomputable def Notes_fits_2 (x1 : Int32) (x2 : Int32) (x3 : Int32) (M : AM) : Option (Option Value × AM) := it C_Notes_fits 2 [(0, .ref 74), (1, .int x1), (2, .int x2), (3, .int x3)] [] M
noncomputable def Notes_fits_53 (x1 : Int32) (x2 : Int32) (x3 : Int32) (z0 : Int32) (M : AM) : Option (Option Value × AM) := it C_Notes_fits 53 [(0, .ref 74), (1, .int x1), (2, .int x2), (3, .int x3)] [.int z0] M
noncomputable def C_Notes_fitting : MC := (5, 1, [(0, 3, 2, mD C_Notes_tabulate), (0, 3, 1, mD C_Notes_standing), (0, 3, 3, mD C_Notes_fits)], [(0, [0, 1], [(.aload_n 0, 1, 0, 0), (.iload_n 1, 1, 0, 0), (.invokevirtual 85, 3, 0, 0), (.aload_n 0, 1, 0, 0), (.invokevirtual 89, 3, 1, 1), (.istore_n 2, 1, 0, 0), (.iconst 0, 1, 0, 0), (.istore_n 3, 1, 0, 0), (.iconst 1, 1, 0, 0), (.istore 4, 2, 0, 0)]),
  (15, [0, 2, 3, 4], [(.iload 4, 2, 0, 0), (.bipush 9, 2, 0, 0), (.if_icmp .gt 28, 3, 47, 0), (.aload_n 0, 1, 0, 0), (.iload 4, 2, 0, 0), (.iload_n 2, 1, 0, 0), (.invokevirtual 92, 3, 2, 1), (.ifCond .eq 12, 3, 41, 0), (.iload_n 3, 1, 0, 0), (.iconst 1, 1, 0, 0), (.iload 4, 2, 0, 0), (.iconst 1, 1, 0, 0), (.isub, 1, 0, 0), (.ishl, 1, 0, 0), (.ior, 1, 0, 0), (.istore_n 3, 1, 0, 0)]),
  (41, [0, 2, 3, 4], [(.iinc 4 1, 3, 0, 0), (.goto (-29), 3, 15, 0)]),
  (47, [3], [(.iload_n 3, 1, 0, 0), (.ireturn, 1, 0, 0)])], none)
noncomputable def Notes_fitting (x1 : Int32) (M : AM) : Option (Option Value × AM) := mD C_Notes_fitting [.ref 74, .int x1] M
noncomputable def Notes_fitting_15 (x2 : Int32) (x3 : Int32) (x4 : Int32) (M : AM) : Option (Option Value × AM) := it C_Notes_fitting 15 [(0, .ref 74), (2, .int x2), (3, .int x3), (4, .int x4)] [] M
noncomputable def C_GT_costs : MC := (2, 1, [(0, 9, 2, mD C_GT_isLink), (0, 3, 2, mD C_Notes_fitting)], [(0, [0, 1], [(.aload_n 0, 1, 0, 0), (.iload_n 1, 1, 0, 0), (.invokevirtual 177, 3, 0, 1), (.ifCond .eq 14, 3, 19, 0), (.aload_n 0, 1, 0, 0), (.getfield 75, 3, 9, 9), (.iload_n 1, 1, 0, 0), (.invokevirtual 328, 3, 1, 1), (.goto 4, 3, 20, 0)]),
  (19, [], [(.iconst (-1), 1, 0, 0)]),
  (20, [], [(.ireturn, 1, 0, 0)])], none)
noncomputable def GT_costs (x1 : Int32) (M : AM) : Option (Option Value × AM) := mD C_GT_costs [.ref 0, .int x1] M
noncomputable def C_Notes_atWorst : MC := (8, 1, [(1, 0, 3, mD C_Notes_farAt), (4, 0, 0, fun _ _ => none)], [(0, [0, 1, 2, 3], [(.iconst 0, 1, 0, 0), (.istore 4, 2, 0, 0), (.iconst 1, 1, 0, 0), (.istore 5, 2, 0, 0)]),
  (6, [0, 1, 2, 3, 4, 5], [(.iload 5, 2, 0, 0), (.bipush 9, 2, 0, 0), (.if_icmp .gt 89, 3, 99, 0), (.iload_n 1, 1, 0, 0), (.iload 5, 2, 0, 0), (.iconst 1, 1, 0, 0), (.isub, 1, 0, 0), (.ishr, 1, 0, 0), (.iconst 1, 1, 0, 0), (.iand, 1, 0, 0), (.ifCond .eq 72, 3, 93, 0), (.iconst 0, 1, 0, 0), (.istore 6, 2, 0, 0), (.iconst 1, 1, 0, 0), (.istore 7, 2, 0, 0)]),
  (30, [0, 1, 2, 3, 4, 5, 6, 7], [(.iload 7, 2, 0, 0), (.bipush 9, 2, 0, 0), (.if_icmp .gt 50, 3, 84, 0), (.iload_n 1, 1, 0, 0), (.iload 7, 2, 0, 0), (.iconst 1, 1, 0, 0), (.isub, 1, 0, 0), (.ishr, 1, 0, 0), (.iconst 1, 1, 0, 0), (.iand, 1, 0, 0), (.ifCond .eq 33, 3, 78, 0), (.aload_n 0, 1, 0, 0), (.getfield 27, 3, 3, 6), (.iload 7, 2, 0, 0), (.iload_n 2, 1, 0, 0), (.iload_n 3, 1, 0, 0), (.invokestatic 73, 3, 0, 1), (.iaload, 1, 0, 0), (.aload_n 0, 1, 0, 0), (.getfield 27, 3, 3, 6), (.iload 5, 2, 0, 0), (.iload_n 2, 1, 0, 0), (.iload_n 3, 1, 0, 0), (.invokestatic 73, 3, 0, 1), (.iaload, 1, 0, 0), (.if_icmp .ne 6, 3, 78, 0), (.iinc 6 1, 3, 0, 0)]),
  (78, [0, 1, 2, 3, 4, 5, 6, 7], [(.iinc 7 1, 3, 0, 0), (.goto (-51), 3, 30, 0)]),
  (84, [0, 1, 2, 3, 4, 5, 6], [(.iload 4, 2, 0, 0), (.iload 6, 2, 0, 0), (.invokestatic 103, 3, 1, 0), (.istore 4, 2, 0, 0)]),
  (93, [0, 1, 2, 3, 4, 5], [(.iinc 5 1, 3, 0, 0), (.goto (-90), 3, 6, 0)]),
  (99, [4], [(.iload 4, 2, 0, 0), (.ireturn, 1, 0, 0)])], none)
noncomputable def Notes_atWorst (x1 : Int32) (x2 : Int32) (x3 : Int32) (M : AM) : Option (Option Value × AM) := mD C_Notes_atWorst [.ref 74, .int x1, .int x2, .int x3] M
noncomputable def Notes_atWorst_6 (x1 : Int32) (x2 : Int32) (x3 : Int32) (x4 : Int32) (x5 : Int32) (M : AM) : Option (Option Value × AM) := it C_Notes_atWorst 6 [(0, .ref 74), (1, .int x1), (2, .int x2), (3, .int x3), (4, .int x4), (5, .int x5)] [] M
noncomputable def Notes_atWorst_30 (x1 : Int32) (x2 : Int32) (x3 : Int32) (x4 : Int32) (x5 : Int32) (x6 : Int32) (x7 : Int32) (M : AM) : Option (Option Value × AM) := it C_Notes_atWorst 30 [(0, .ref 74), (1, .int x1), (2, .int x2), (3, .int x3), (4, .int x4), (5, .int x5), (6, .int x6), (7, .int x7)] [] M
noncomputable def C_Notes_question : MC := (6, 0, [(0, 3, 2, mD C_Notes_fitting), (0, 3, 4, mD C_Notes_atWorst)], [(0, [0, 1], [(.aload_n 0, 1, 0, 0), (.iload_n 1, 1, 0, 0), (.invokevirtual 96, 3, 0, 1), (.istore_n 2, 1, 0, 0), (.aload_n 0, 1, 0, 0), (.iconst (-1), 1, 0, 0), (.putfield 46, 3, 3, 12), (.iconst 0, 1, 0, 0), (.istore_n 3, 1, 0, 0)]),
  (13, [0, 2, 3], [(.iload_n 3, 1, 0, 0), (.aload_n 0, 1, 0, 0), (.getfield 49, 3, 3, 0), (.getfield 53, 3, 2, 6), (.getfield 70, 3, 5, 11), (.if_icmp .ge 78, 3, 102, 0), (.iload_n 3, 1, 0, 0), (.iconst 1, 1, 0, 0), (.iadd, 1, 0, 0), (.istore 4, 2, 0, 0)]),
  (32, [0, 2, 3, 4], [(.iload 4, 2, 0, 0), (.aload_n 0, 1, 0, 0), (.getfield 49, 3, 3, 0), (.getfield 53, 3, 2, 6), (.getfield 70, 3, 5, 11), (.if_icmp .ge 52, 3, 96, 0), (.aload_n 0, 1, 0, 0), (.iload_n 2, 1, 0, 0), (.iload_n 3, 1, 0, 0), (.iload 4, 2, 0, 0), (.invokevirtual 100, 3, 1, 1), (.istore 5, 2, 0, 0), (.aload_n 0, 1, 0, 0), (.getfield 46, 3, 3, 12), (.ifCond .lt 12, 3, 73, 0), (.iload 5, 2, 0, 0), (.aload_n 0, 1, 0, 0), (.getfield 46, 3, 3, 12), (.if_icmp .ge 20, 3, 90, 0)]),
  (73, [0, 2, 3, 4, 5], [(.aload_n 0, 1, 0, 0), (.iload_n 3, 1, 0, 0), (.putfield 40, 3, 3, 10), (.aload_n 0, 1, 0, 0), (.iload 4, 2, 0, 0), (.putfield 43, 3, 3, 11), (.aload_n 0, 1, 0, 0), (.iload 5, 2, 0, 0), (.putfield 46, 3, 3, 12)]),
  (90, [0, 2, 3, 4], [(.iinc 4 1, 3, 0, 0), (.goto (-61), 3, 32, 0)]),
  (96, [0, 2, 3], [(.iinc 3 1, 3, 0, 0), (.goto (-86), 3, 13, 0)]),
  (102, [], [(.return_, 1, 0, 0)])], none)
noncomputable def Notes_question (x1 : Int32) (M : AM) : Option (Option Value × AM) := mD C_Notes_question [.ref 74, .int x1] M
noncomputable def Notes_question_13 (x2 : Int32) (x3 : Int32) (M : AM) : Option (Option Value × AM) := it C_Notes_question 13 [(0, .ref 74), (2, .int x2), (3, .int x3)] [] M
noncomputable def Notes_question_32 (x2 : Int32) (x3 : Int32) (x4 : Int32) (M : AM) : Option (Option Value × AM) := it C_Notes_question 32 [(0, .ref 74), (2, .int x2), (3, .int x3), (4, .int x4)] [] M
noncomputable def C_GT_ask : MC := (3, 1, [(0, 9, 2, mD C_GT_isLink), (0, 3, 2, mD C_Notes_question)], [(0, [0, 1, 2], [(.aload_n 0, 1, 0, 0), (.iload_n 1, 1, 0, 0), (.invokevirtual 177, 3, 0, 1), (.ifCond .eq 12, 3, 17, 0), (.iload_n 2, 1, 0, 0), (.ifCond .lt 8, 3, 17, 0), (.iload_n 2, 1, 0, 0), (.iconst 2, 1, 0, 0), (.if_icmp .le 5, 3, 19, 0)]),
  (17, [], [(.iconst (-1), 1, 0, 0), (.ireturn, 1, 0, 0)]),
  (19, [0, 1, 2], [(.aload_n 0, 1, 0, 0), (.getfield 39, 3, 9, 3), (.getfield 109, 3, 2, 6), (.getfield 132, 3, 5, 11), (.iconst 2, 1, 0, 0), (.if_icmp .ge 6, 3, 36, 0), (.bipush (-2), 2, 0, 0), (.ireturn, 1, 0, 0)]),
  (36, [0, 1, 2], [(.aload_n 0, 1, 0, 0), (.getfield 75, 3, 9, 9), (.iload_n 1, 1, 0, 0), (.invokevirtual 331, 3, 1, 0), (.iload_n 2, 1, 0, 0), (.lookupswitch 43 #[(0, 27), (1, 35)], 27, 0, 0)]),
  (72, [0], [(.aload_n 0, 1, 0, 0), (.getfield 75, 3, 9, 9), (.getfield 334, 3, 3, 10), (.ireturn, 1, 0, 0)]),
  (80, [0], [(.aload_n 0, 1, 0, 0), (.getfield 75, 3, 9, 9), (.getfield 337, 3, 3, 11), (.ireturn, 1, 0, 0)]),
  (88, [0], [(.aload_n 0, 1, 0, 0), (.getfield 75, 3, 9, 9), (.getfield 340, 3, 3, 12), (.ireturn, 1, 0, 0)])], none)
noncomputable def GT_ask (x1 : Int32) (x2 : Int32) (M : AM) : Option (Option Value × AM) := mD C_GT_ask [.ref 0, .int x1, .int x2] M
noncomputable def C_GT_chance : MC := (10, 1, [(0, 9, 2, mD C_GT_isNode), (0, 0, 1, mD C_Course_drawing), (0, 7, 2, mD C_State_copyFrom), (0, 0, 3, mD C_Course_run)], [(0, [0, 1, 2, 3, 4], [(.iload_n 1, 1, 0, 0), (.ifCond .lt 34, 3, 35, 0), (.iload_n 2, 1, 0, 0), (.iconst 1, 1, 0, 0), (.if_icmp .lt 29, 3, 35, 0), (.iload_n 2, 1, 0, 0), (.bipush 40, 2, 0, 0), (.if_icmp .gt 23, 3, 35, 0), (.aload_n 0, 1, 0, 0), (.iload_n 3, 1, 0, 0), (.invokevirtual 145, 3, 0, 1), (.ifCond .eq 15, 3, 35, 0), (.iload 4, 2, 0, 0), (.ifCond .lt 10, 3, 35, 0), (.iload 4, 2, 0, 0), (.bipush 99, 2, 0, 0), (.if_icmp .le 5, 3, 37, 0)]),
  (35, [], [(.iconst (-1), 1, 0, 0), (.ireturn, 1, 0, 0)]),
  (37, [0, 1, 2, 3, 4], [(.aload_n 0, 1, 0, 0), (.getfield 48, 3, 9, 4), (.invokevirtual 236, 3, 1, 0), (.aload_n 0, 1, 0, 0), (.getfield 39, 3, 9, 3), (.getfield 109, 3, 2, 6), (.getfield 312, 3, 5, 18), (.istore 5, 2, 0, 0), (.iload 5, 2, 0, 0), (.ifCond .eq 10, 3, 68, 0), (.iload 5, 2, 0, 0), (.bipush 100, 2, 0, 0), (.if_icmp .ne 7, 3, 72, 0)]),
  (68, [0, 1, 2, 3, 4], [(.iconst 1, 1, 0, 0), (.goto 5, 3, 74, 0)]),
  (72, [0, 1, 2, 3, 4], [(.bipush 10, 2, 0, 0)]),
  (74, [0, 1, 2, 3, 4], [(.istore 6, 2, 0, 0), (.iload_n 1, 1, 0, 0), (.istore 7, 2, 0, 0), (.iconst 0, 1, 0, 0), (.istore 8, 2, 0, 0), (.iconst 0, 1, 0, 0), (.istore 9, 2, 0, 0)]),
  (85, [0, 2, 3, 4, 6, 7, 8, 9], [(.iload 9, 2, 0, 0), (.iload 6, 2, 0, 0), (.if_icmp .ge 67, 3, 156, 0), (.aload_n 0, 1, 0, 0), (.getfield 62, 3, 9, 7), (.aload_n 0, 1, 0, 0), (.getfield 55, 3, 9, 5), (.invokevirtual 243, 3, 2, 0), (.aload_n 0, 1, 0, 0), (.getfield 62, 3, 9, 7), (.iload 7, 2, 0, 0), (.putfield 343, 3, 7, 12), (.aload_n 0, 1, 0, 0), (.getfield 48, 3, 9, 4), (.aload_n 0, 1, 0, 0), (.getfield 62, 3, 9, 7), (.iload_n 2, 1, 0, 0), (.invokevirtual 239, 3, 3, 0), (.aload_n 0, 1, 0, 0), (.getfield 62, 3, 9, 7), (.getfield 343, 3, 7, 12), (.istore 7, 2, 0, 0), (.aload_n 0, 1, 0, 0), (.getfield 62, 3, 9, 7), (.getfield 163, 3, 7, 1), (.iload_n 3, 1, 0, 0), (.iaload, 1, 0, 0), (.iload 4, 2, 0, 0), (.if_icmp .lt 6, 3, 150, 0), (.iinc 8 1, 3, 0, 0)]),
  (150, [0, 2, 3, 4, 6, 7, 8, 9], [(.iinc 9 1, 3, 0, 0), (.goto (-68), 3, 85, 0)]),
  (156, [6, 8], [(.iload 6, 2, 0, 0), (.iconst 1, 1, 0, 0), (.if_icmp .ne 11, 3, 170, 0), (.iload 8, 2, 0, 0), (.bipush 10, 2, 0, 0), (.imul, 1, 0, 0), (.goto 5, 3, 172, 0)]),
  (170, [8], [(.iload 8, 2, 0, 0)]),
  (172, [], [(.ireturn, 1, 0, 0)])], none)
noncomputable def GT_chance (x1 : Int32) (x2 : Int32) (x3 : Int32) (x4 : Int32) (M : AM) : Option (Option Value × AM) := mD C_GT_chance [.ref 0, .int x1, .int x2, .int x3, .int x4] M
noncomputable def GT_chance_85 (x2 : Int32) (x3 : Int32) (x4 : Int32) (x6 : Int32) (x7 : Int32) (x8 : Int32) (x9 : Int32) (M : AM) : Option (Option Value × AM) := it C_GT_chance 85 [(0, .ref 0), (2, .int x2), (3, .int x3), (4, .int x4), (6, .int x6), (7, .int x7), (8, .int x8), (9, .int x9)] [] M
noncomputable def C_Course_otherwise : MC := (3, 0, [(0, 0, 2, mD C_Course_plain)], [(0, [0, 1, 2], [(.aload_n 0, 1, 0, 0), (.iconst 0, 1, 0, 0), (.invokevirtual 39, 3, 0, 0), (.aload_n 0, 1, 0, 0), (.iload_n 1, 1, 0, 0), (.putfield 28, 3, 0, 6), (.aload_n 0, 1, 0, 0), (.iload_n 1, 1, 0, 0), (.iconst 2, 1, 0, 0), (.if_icmp .ne 7, 3, 20, 0), (.iload_n 2, 1, 0, 0), (.goto 4, 3, 21, 0)]),
  (20, [], [(.iconst (-1), 1, 0, 0)]),
  (21, [], [(.putfield 32, 3, 0, 7), (.return_, 1, 0, 0)])], none)
noncomputable def Course_otherwise (x1 : Int32) (x2 : Int32) (M : AM) : Option (Option Value × AM) := mD C_Course_otherwise [.ref 47, .int x1, .int x2] M
noncomputable def C_GT_tried : MC := (4, 1, [(0, 9, 2, mD C_GT_isNode), (0, 7, 2, mD C_State_copyFrom), (0, 7, 2, mD C_State_stopListening), (0, 0, 3, mD C_Course_otherwise), (0, 0, 3, mD C_Course_run), (1, 0, 1, mD C_GT_sum)], [(0, [0, 1, 2, 3], [(.iload_n 1, 1, 0, 0), (.ifCond .lt 18, 3, 19, 0), (.iload_n 1, 1, 0, 0), (.iconst 4, 1, 0, 0), (.if_icmp .gt 13, 3, 19, 0), (.iload_n 3, 1, 0, 0), (.ifCond .lt 9, 3, 19, 0), (.iload_n 3, 1, 0, 0), (.bipush 60, 2, 0, 0), (.if_icmp .le 5, 3, 21, 0)]),
  (19, [], [(.iconst (-1), 1, 0, 0), (.ireturn, 1, 0, 0)]),
  (21, [0, 1, 2, 3], [(.iload_n 1, 1, 0, 0), (.iconst 2, 1, 0, 0), (.if_icmp .ne 14, 3, 37, 0), (.aload_n 0, 1, 0, 0), (.iload_n 2, 1, 0, 0), (.invokevirtual 145, 3, 0, 1), (.ifCond .ne 12, 3, 43, 0), (.goto 7, 3, 41, 0)]),
  (37, [0, 1, 2, 3], [(.iload_n 2, 1, 0, 0), (.ifCond .eq 5, 3, 43, 0)]),
  (41, [], [(.iconst (-1), 1, 0, 0), (.ireturn, 1, 0, 0)]),
  (43, [0, 1, 2, 3], [(.aload_n 0, 1, 0, 0), (.getfield 62, 3, 9, 7), (.aload_n 0, 1, 0, 0), (.getfield 55, 3, 9, 5), (.invokevirtual 243, 3, 1, 0), (.iload_n 1, 1, 0, 0), (.iconst 2, 1, 0, 0), (.if_icmp .ne 11, 3, 67, 0), (.aload_n 0, 1, 0, 0), (.getfield 62, 3, 9, 7), (.iload_n 2, 1, 0, 0), (.invokevirtual 219, 3, 2, 0)]),
  (67, [0, 1, 2, 3], [(.aload_n 0, 1, 0, 0), (.getfield 48, 3, 9, 4), (.iload_n 1, 1, 0, 0), (.iload_n 2, 1, 0, 0), (.invokevirtual 346, 3, 3, 0), (.aload_n 0, 1, 0, 0), (.getfield 48, 3, 9, 4), (.aload_n 0, 1, 0, 0), (.getfield 62, 3, 9, 7), (.iload_n 3, 1, 0, 0), (.invokevirtual 239, 3, 4, 0), (.aload_n 0, 1, 0, 0), (.getfield 62, 3, 9, 7), (.getfield 163, 3, 7, 1), (.invokestatic 246, 3, 5, 1), (.aload_n 0, 1, 0, 0), (.getfield 55, 3, 9, 5), (.getfield 163, 3, 7, 1), (.invokestatic 246, 3, 5, 1), (.isub, 1, 0, 0), (.ireturn, 1, 0, 0)])], none)
noncomputable def GT_tried (x1 : Int32) (x2 : Int32) (x3 : Int32) (M : AM) : Option (Option Value × AM) := mD C_GT_tried [.ref 0, .int x1, .int x2, .int x3] M
noncomputable def GT_tried_43 (x1 : Int32) (x2 : Int32) (x3 : Int32) (M : AM) : Option (Option Value × AM) := it C_GT_tried 43 [(0, .ref 0), (1, .int x1), (2, .int x2), (3, .int x3)] [] M
noncomputable def GT_tried_67 (x1 : Int32) (x2 : Int32) (x3 : Int32) (M : AM) : Option (Option Value × AM) := it C_GT_tried 67 [(0, .ref 0), (1, .int x1), (2, .int x2), (3, .int x3)] [] M
noncomputable def C_State_unpack : MC := (4, 0, [(2, 0, 0, fun _ _ => none)], [(0, [0, 1, 2], [(.aload_n 0, 1, 0, 0), (.aload_n 1, 1, 0, 0), (.iload_n 2, 1, 0, 0), (.iaload, 1, 0, 0), (.putfield 34, 3, 7, 7), (.aload_n 0, 1, 0, 0), (.aload_n 1, 1, 0, 0), (.iload_n 2, 1, 0, 0), (.iconst 1, 1, 0, 0), (.iadd, 1, 0, 0), (.iaload, 1, 0, 0), (.putfield 37, 3, 7, 8), (.aload_n 0, 1, 0, 0), (.aload_n 1, 1, 0, 0), (.iload_n 2, 1, 0, 0), (.iconst 2, 1, 0, 0), (.iadd, 1, 0, 0), (.iaload, 1, 0, 0), (.putfield 40, 3, 7, 9), (.aload_n 0, 1, 0, 0), (.aload_n 1, 1, 0, 0), (.iload_n 2, 1, 0, 0), (.iconst 3, 1, 0, 0), (.iadd, 1, 0, 0), (.iaload, 1, 0, 0), (.putfield 46, 3, 7, 11), (.iload_n 2, 1, 0, 0), (.iconst 4, 1, 0, 0), (.iadd, 1, 0, 0), (.istore_n 3, 1, 0, 0), (.aload_n 1, 1, 0, 0), (.iload_n 3, 1, 0, 0), (.aload_n 0, 1, 0, 0), (.getfield 9, 3, 7, 0), (.iconst 0, 1, 0, 0), (.iconst 3, 1, 0, 0), (.invokestatic 58, 3, 0, 0), (.aload_n 1, 1, 0, 0), (.iload_n 3, 1, 0, 0), (.iconst 3, 1, 0, 0), (.iadd, 1, 0, 0), (.aload_n 0, 1, 0, 0), (.getfield 15, 3, 7, 1), (.iconst 0, 1, 0, 0), (.bipush 7, 2, 0, 0), (.invokestatic 58, 3, 0, 0), (.aload_n 1, 1, 0, 0), (.iload_n 3, 1, 0, 0), (.iconst 3, 1, 0, 0), (.iadd, 1, 0, 0), (.bipush 7, 2, 0, 0), (.iadd, 1, 0, 0), (.aload_n 0, 1, 0, 0), (.getfield 18, 3, 7, 2), (.iconst 0, 1, 0, 0), (.bipush 7, 2, 0, 0), (.invokestatic 58, 3, 0, 0), (.aload_n 1, 1, 0, 0), (.iload_n 3, 1, 0, 0), (.iconst 3, 1, 0, 0), (.iadd, 1, 0, 0), (.bipush 14, 2, 0, 0), (.iadd, 1, 0, 0), (.aload_n 0, 1, 0, 0), (.getfield 21, 3, 7, 3), (.iconst 0, 1, 0, 0), (.bipush 7, 2, 0, 0), (.invokestatic 58, 3, 0, 0), (.return_, 1, 0, 0)])], none)
noncomputable def State_unpack (x2 : Int32) (M : AM) : Option (Option Value × AM) := mD C_State_unpack [.ref 51, .ref 73, .int x2] M
noncomputable def C_Past_recall : MC := (2, 0, [(0, 7, 3, mD C_State_unpack)], [(0, [0, 1], [(.aload_n 0, 1, 0, 0), (.aload_n 0, 1, 0, 0), (.getfield 17, 3, 4, 1), (.bipush 20, 2, 0, 0), (.iadd, 1, 0, 0), (.iconst 1, 1, 0, 0), (.isub, 1, 0, 0), (.bipush 20, 2, 0, 0), (.irem, 1, 0, 0), (.putfield 17, 3, 4, 1), (.aload_n 0, 1, 0, 0), (.dup, 1, 0, 0), (.getfield 21, 3, 4, 2), (.iconst 1, 1, 0, 0), (.isub, 1, 0, 0), (.putfield 21, 3, 4, 2), (.aload_n 1, 1, 0, 0), (.aload_n 0, 1, 0, 0), (.getfield 11, 3, 4, 0), (.aload_n 0, 1, 0, 0), (.getfield 17, 3, 4, 1), (.bipush 28, 2, 0, 0), (.imul, 1, 0, 0), (.invokevirtual 34, 3, 0, 0), (.return_, 1, 0, 0)])], none)
noncomputable def Past_recall (M : AM) : Option (Option Value × AM) := mD C_Past_recall [.ref 72, .ref 51] M
noncomputable def C_GT_undo : MC := (1, 1, [(0, 4, 2, mD C_Past_recall)], [(0, [0], [(.aload_n 0, 1, 0, 0), (.getfield 68, 3, 9, 8), (.getfield 350, 3, 4, 2), (.ifCond .ne 5, 3, 12, 0), (.iconst (-1), 1, 0, 0), (.ireturn, 1, 0, 0)]),
  (12, [0], [(.aload_n 0, 1, 0, 0), (.getfield 68, 3, 9, 8), (.aload_n 0, 1, 0, 0), (.getfield 55, 3, 9, 5), (.invokevirtual 351, 3, 0, 0), (.aload_n 0, 1, 0, 0), (.getfield 68, 3, 9, 8), (.getfield 350, 3, 4, 2), (.ireturn, 1, 0, 0)])], none)
noncomputable def GT_undo (M : AM) : Option (Option Value × AM) := mD C_GT_undo [.ref 0] M
noncomputable def C_GT_keep : MC := (1, 1, [(0, 7, 2, mD C_State_copyFrom)], [(0, [0], [(.aload_n 0, 1, 0, 0), (.getfield 59, 3, 9, 6), (.aload_n 0, 1, 0, 0), (.getfield 55, 3, 9, 5), (.invokevirtual 243, 3, 0, 0), (.aload_n 0, 1, 0, 0), (.iconst 1, 1, 0, 0), (.putfield 83, 3, 9, 11), (.aload_n 0, 1, 0, 0), (.getfield 55, 3, 9, 5), (.getfield 233, 3, 7, 6), (.ireturn, 1, 0, 0)])], none)
noncomputable def GT_keep (M : AM) : Option (Option Value × AM) := mD C_GT_keep [.ref 0] M
noncomputable def C_GT_back : MC := (1, 1, [(0, 7, 2, mD C_State_copyFrom), (0, 4, 1, mD C_Past_clear)], [(0, [0], [(.aload_n 0, 1, 0, 0), (.getfield 83, 3, 9, 11), (.ifCond .ne 5, 3, 9, 0), (.iconst (-1), 1, 0, 0), (.ireturn, 1, 0, 0)]),
  (9, [0], [(.aload_n 0, 1, 0, 0), (.getfield 55, 3, 9, 5), (.aload_n 0, 1, 0, 0), (.getfield 59, 3, 9, 6), (.invokevirtual 243, 3, 0, 0), (.aload_n 0, 1, 0, 0), (.getfield 68, 3, 9, 8), (.invokevirtual 123, 3, 1, 0), (.aload_n 0, 1, 0, 0), (.getfield 55, 3, 9, 5), (.getfield 233, 3, 7, 6), (.ireturn, 1, 0, 0)])], none)
noncomputable def GT_back (M : AM) : Option (Option Value × AM) := mD C_GT_back [.ref 0] M
noncomputable def C_State_heldInAll : MC := (3, 1, [(1, 0, 1, mD C_Jint_bitCount)], [(0, [0], [(.iconst 0, 1, 0, 0), (.istore_n 1, 1, 0, 0), (.iconst 0, 1, 0, 0), (.istore_n 2, 1, 0, 0)]),
  (4, [0, 1, 2], [(.iload_n 2, 1, 0, 0), (.aload_n 0, 1, 0, 0), (.getfield 27, 3, 7, 5), (.arraylength, 1, 0, 0), (.if_icmp .ge 21, 3, 31, 0), (.iload_n 1, 1, 0, 0), (.aload_n 0, 1, 0, 0), (.getfield 27, 3, 7, 5), (.iload_n 2, 1, 0, 0), (.iaload, 1, 0, 0), (.invokestatic 64, 3, 0, 1), (.iadd, 1, 0, 0), (.istore_n 1, 1, 0, 0), (.iinc 2 1, 3, 0, 0), (.goto (-24), 3, 4, 0)]),
  (31, [1], [(.iload_n 1, 1, 0, 0), (.ireturn, 1, 0, 0)])], none)
noncomputable def State_heldInAll (M : AM) : Option (Option Value × AM) := mD C_State_heldInAll [.ref 51] M
noncomputable def State_heldInAll_4 (x1 : Int32) (x2 : Int32) (M : AM) : Option (Option Value × AM) := it C_State_heldInAll 4 [(0, .ref 51), (1, .int x1), (2, .int x2)] [] M
noncomputable def C_GT_count : MC := (2, 1, [(1, 0, 1, mD C_Jint_bitCount), (1, 0, 1, mD C_GT_sum), (0, 7, 1, mD C_State_heldInAll), (0, 5, 2, mD C_Plan_root), (0, 3, 1, mD C_Notes_inForce)], [(0, [0, 1], [(.iload_n 1, 1, 0, 0), (.tableswitch 268 0 16 #[83, 94, 105, 116, 130, 138, 149, 160, 171, 182, 190, 198, 206, 214, 244, 252, 260], 83, 0, 0)]),
  (84, [0], [(.aload_n 0, 1, 0, 0), (.getfield 39, 3, 9, 3), (.getfield 109, 3, 2, 6), (.getfield 132, 3, 5, 11), (.ireturn, 1, 0, 0)]),
  (95, [0], [(.aload_n 0, 1, 0, 0), (.getfield 39, 3, 9, 3), (.getfield 109, 3, 2, 6), (.getfield 279, 3, 5, 12), (.ireturn, 1, 0, 0)]),
  (106, [0], [(.aload_n 0, 1, 0, 0), (.getfield 39, 3, 9, 3), (.getfield 109, 3, 2, 6), (.getfield 142, 3, 5, 13), (.ireturn, 1, 0, 0)]),
  (117, [0], [(.aload_n 0, 1, 0, 0), (.getfield 39, 3, 9, 3), (.getfield 109, 3, 2, 6), (.getfield 354, 3, 5, 10), (.getfield 358, 3, 1, 4), (.ireturn, 1, 0, 0)]),
  (131, [0], [(.aload_n 0, 1, 0, 0), (.getfield 55, 3, 9, 5), (.getfield 233, 3, 7, 6), (.ireturn, 1, 0, 0)]),
  (139, [0], [(.aload_n 0, 1, 0, 0), (.getfield 55, 3, 9, 5), (.getfield 156, 3, 7, 7), (.invokestatic 305, 3, 0, 1), (.ireturn, 1, 0, 0)]),
  (150, [0], [(.aload_n 0, 1, 0, 0), (.getfield 55, 3, 9, 5), (.getfield 163, 3, 7, 1), (.invokestatic 246, 3, 1, 1), (.ireturn, 1, 0, 0)]),
  (161, [0], [(.aload_n 0, 1, 0, 0), (.getfield 55, 3, 9, 5), (.getfield 166, 3, 7, 2), (.invokestatic 246, 3, 1, 1), (.ireturn, 1, 0, 0)]),
  (172, [0], [(.aload_n 0, 1, 0, 0), (.getfield 55, 3, 9, 5), (.getfield 169, 3, 7, 3), (.invokestatic 246, 3, 1, 1), (.ireturn, 1, 0, 0)]),
  (183, [0], [(.aload_n 0, 1, 0, 0), (.getfield 55, 3, 9, 5), (.getfield 250, 3, 7, 9), (.ireturn, 1, 0, 0)]),
  (191, [0], [(.aload_n 0, 1, 0, 0), (.getfield 55, 3, 9, 5), (.getfield 253, 3, 7, 10), (.ireturn, 1, 0, 0)]),
  (199, [0], [(.aload_n 0, 1, 0, 0), (.getfield 55, 3, 9, 5), (.getfield 363, 3, 7, 11), (.ireturn, 1, 0, 0)]),
  (207, [0], [(.aload_n 0, 1, 0, 0), (.getfield 55, 3, 9, 5), (.invokevirtual 366, 3, 2, 1), (.ireturn, 1, 0, 0)]),
  (215, [0], [(.aload_n 0, 1, 0, 0), (.getfield 39, 3, 9, 3), (.getfield 109, 3, 2, 6), (.getfield 132, 3, 5, 11), (.ifCond .ne 8, 3, 233, 0), (.bipush (-2), 2, 0, 0), (.goto 14, 3, 244, 0)]),
  (233, [0], [(.aload_n 0, 1, 0, 0), (.getfield 39, 3, 9, 3), (.getfield 109, 3, 2, 6), (.iconst 0, 1, 0, 0), (.invokevirtual 289, 3, 3, 1)]),
  (244, [], [(.ireturn, 1, 0, 0)]),
  (245, [0], [(.aload_n 0, 1, 0, 0), (.getfield 75, 3, 9, 9), (.getfield 322, 3, 3, 8), (.ireturn, 1, 0, 0)]),
  (253, [0], [(.aload_n 0, 1, 0, 0), (.getfield 75, 3, 9, 9), (.invokevirtual 370, 3, 4, 1), (.ireturn, 1, 0, 0)]),
  (261, [0], [(.aload_n 0, 1, 0, 0), (.getfield 68, 3, 9, 8), (.getfield 350, 3, 4, 2), (.ireturn, 1, 0, 0)]),
  (269, [], [(.iconst (-1), 1, 0, 0), (.ireturn, 1, 0, 0)])], none)
noncomputable def GT_count (x1 : Int32) (M : AM) : Option (Option Value × AM) := mD C_GT_count [.ref 0, .int x1] M
noncomputable def C_State_switchedTo : MC := (4, 1, [], [(0, [0, 1], [(.iconst 0, 1, 0, 0), (.istore_n 2, 1, 0, 0), (.iconst 0, 1, 0, 0), (.istore_n 3, 1, 0, 0)]),
  (4, [0, 1, 2, 3], [(.iload_n 3, 1, 0, 0), (.iconst 3, 1, 0, 0), (.if_icmp .ge 24, 3, 30, 0), (.iload_n 2, 1, 0, 0), (.aload_n 0, 1, 0, 0), (.getfield 9, 3, 7, 0), (.iload_n 3, 1, 0, 0), (.iaload, 1, 0, 0), (.iload_n 1, 1, 0, 0), (.ishr, 1, 0, 0), (.iconst 1, 1, 0, 0), (.iand, 1, 0, 0), (.iload_n 3, 1, 0, 0), (.ishl, 1, 0, 0), (.ior, 1, 0, 0), (.istore_n 2, 1, 0, 0), (.iinc 3 1, 3, 0, 0), (.goto (-23), 3, 4, 0)]),
  (30, [2], [(.iload_n 2, 1, 0, 0), (.ireturn, 1, 0, 0)])], none)
noncomputable def State_switchedTo (x1 : Int32) (M : AM) : Option (Option Value × AM) := mD C_State_switchedTo [.ref 51, .int x1] M
noncomputable def State_switchedTo_4 (x1 : Int32) (x2 : Int32) (x3 : Int32) (M : AM) : Option (Option Value × AM) := it C_State_switchedTo 4 [(0, .ref 51), (1, .int x1), (2, .int x2), (3, .int x3)] [] M
noncomputable def C_Mo_plain : MC := (2, 0, [], [(0, [0], [(.aload_n 0, 1, 0, 0), (.iconst 0, 1, 0, 0), (.putfield 222, 3, 10, 18), (.aload_n 0, 1, 0, 0), (.iconst 0, 1, 0, 0), (.putfield 225, 3, 10, 19), (.aload_n 0, 1, 0, 0), (.iconst 0, 1, 0, 0), (.putfield 228, 3, 10, 20), (.aload_n 0, 1, 0, 0), (.iconst 0, 1, 0, 0), (.putfield 231, 3, 10, 21), (.aload_n 0, 1, 0, 0), (.iconst 0, 1, 0, 0), (.putfield 234, 3, 10, 22), (.aload_n 0, 1, 0, 0), (.iconst 0, 1, 0, 0), (.putfield 237, 3, 10, 23), (.aload_n 0, 1, 0, 0), (.iconst 0, 1, 0, 0), (.putfield 240, 3, 10, 48), (.aload_n 0, 1, 0, 0), (.getfield 20, 3, 10, 24), (.iconst 1, 1, 0, 0), (.iconst (-1), 1, 0, 0), (.iastore, 1, 0, 0), (.iconst 0, 1, 0, 0), (.istore_n 1, 1, 0, 0)]),
  (44, [0, 1], [(.iload_n 1, 1, 0, 0), (.iconst 3, 1, 0, 0), (.if_icmp .ge 33, 3, 79, 0), (.aload_n 0, 1, 0, 0), (.getfield 23, 3, 10, 25), (.iload_n 1, 1, 0, 0), (.iconst 0, 1, 0, 0), (.bastore, 1, 0, 0), (.aload_n 0, 1, 0, 0), (.getfield 27, 3, 10, 26), (.iconst 3, 1, 0, 0), (.iload_n 1, 1, 0, 0), (.iadd, 1, 0, 0), (.iload_n 1, 1, 0, 0), (.ifCond .ne 7, 3, 71, 0), (.iconst 4, 1, 0, 0), (.goto 4, 3, 72, 0)]),
  (71, [0, 1], [(.iconst 0, 1, 0, 0)]),
  (72, [0, 1], [(.iastore, 1, 0, 0), (.iinc 1 1, 3, 0, 0), (.goto (-32), 3, 44, 0)]),
  (79, [0], [(.iconst 3, 1, 0, 0), (.istore_n 1, 1, 0, 0)]),
  (81, [0, 1], [(.iload_n 1, 1, 0, 0), (.bipush 6, 2, 0, 0), (.if_icmp .ge 16, 3, 100, 0), (.aload_n 0, 1, 0, 0), (.getfield 60, 3, 10, 37), (.iload_n 1, 1, 0, 0), (.iconst 0, 1, 0, 0), (.bastore, 1, 0, 0), (.iinc 1 1, 3, 0, 0), (.goto (-16), 3, 81, 0)]),
  (100, [], [(.return_, 1, 0, 0)])], none)
noncomputable def Mo_plain (M : AM) : Option (Option Value × AM) := mD C_Mo_plain [.ref 82] M
noncomputable def Mo_plain_44 (x1 : Int32) (M : AM) : Option (Option Value × AM) := it C_Mo_plain 44 [(0, .ref 82), (1, .int x1)] [] M
noncomputable def Mo_plain_81 (x1 : Int32) (M : AM) : Option (Option Value × AM) := it C_Mo_plain 81 [(0, .ref 82), (1, .int x1)] [] M
noncomputable def C_Mo_copies : MC := (3, 0, [], [(0, [0, 1], [(.iconst 0, 1, 0, 0), (.istore_n 2, 1, 0, 0)]),
  (2, [0, 1, 2], [(.iload_n 2, 1, 0, 0), (.iload_n 1, 1, 0, 0), (.if_icmp .ge 17, 3, 21, 0), (.aload_n 0, 1, 0, 0), (.iload_n 2, 1, 0, 0), (.aload_n 0, 1, 0, 0), (.iload_n 1, 1, 0, 0), (.iload_n 2, 1, 0, 0), (.iadd, 1, 0, 0), (.iaload, 1, 0, 0), (.iastore, 1, 0, 0), (.iinc 2 1, 3, 0, 0), (.goto (-16), 3, 2, 0)]),
  (21, [], [(.return_, 1, 0, 0)])], none)
noncomputable def Mo_copies (o0 : Nat) (x1 : Int32) (M : AM) : Option (Option Value × AM) := mD C_Mo_copies [.ref o0, .int x1] M
noncomputable def Mo_copies_2 (o0 : Nat) (x1 : Int32) (x2 : Int32) (M : AM) : Option (Option Value × AM) := it C_Mo_copies 2 [(0, .ref o0), (1, .int x1), (2, .int x2)] [] M
noncomputable def C_Mo_plainTried : MC := (1, 0, [], [(0, [0], [(.aload_n 0, 1, 0, 0), (.iconst 0, 1, 0, 0), (.putfield 395, 3, 10, 66), (.aload_n 0, 1, 0, 0), (.iconst 0, 1, 0, 0), (.putfield 398, 3, 10, 67), (.aload_n 0, 1, 0, 0), (.iconst 0, 1, 0, 0), (.putfield 401, 3, 10, 68), (.aload_n 0, 1, 0, 0), (.iconst 0, 1, 0, 0), (.putfield 404, 3, 10, 69), (.aload_n 0, 1, 0, 0), (.iconst 0, 1, 0, 0), (.putfield 407, 3, 10, 70), (.aload_n 0, 1, 0, 0), (.iconst 0, 1, 0, 0), (.putfield 410, 3, 10, 71), (.aload_n 0, 1, 0, 0), (.iconst (-1), 1, 0, 0), (.putfield 413, 3, 10, 72), (.aload_n 0, 1, 0, 0), (.iconst (-1), 1, 0, 0), (.putfield 416, 3, 10, 73), (.aload_n 0, 1, 0, 0), (.iconst 0, 1, 0, 0), (.putfield 419, 3, 10, 74), (.return_, 1, 0, 0)])], none)
noncomputable def Mo_plainTried (M : AM) : Option (Option Value × AM) := mD C_Mo_plainTried [.ref 82] M
noncomputable def C_Mo_begin : MC := (2, 0, [(0, 10, 1, mD C_Mo_plainTried)], [(0, [0], [(.aload_n 0, 1, 0, 0), (.getfield 91, 3, 10, 54), (.iconst 0, 1, 0, 0), (.iconst 0, 1, 0, 0), (.iastore, 1, 0, 0), (.aload_n 0, 1, 0, 0), (.getfield 94, 3, 10, 55), (.iconst 0, 1, 0, 0), (.iconst 0, 1, 0, 0), (.iastore, 1, 0, 0), (.iconst 0, 1, 0, 0), (.istore_n 1, 1, 0, 0)]),
  (16, [0, 1], [(.iload_n 1, 1, 0, 0), (.iconst 3, 1, 0, 0), (.if_icmp .ge 16, 3, 34, 0), (.aload_n 0, 1, 0, 0), (.getfield 97, 3, 10, 56), (.iload_n 1, 1, 0, 0), (.iconst 0, 1, 0, 0), (.iastore, 1, 0, 0), (.iinc 1 1, 3, 0, 0), (.goto (-15), 3, 16, 0)]),
  (34, [0], [(.iconst 0, 1, 0, 0), (.istore_n 1, 1, 0, 0)]),
  (36, [0, 1], [(.iload_n 1, 1, 0, 0), (.sipush 224, 3, 0, 0), (.if_icmp .ge 16, 3, 56, 0), (.aload_n 0, 1, 0, 0), (.getfield 100, 3, 10, 57), (.iload_n 1, 1, 0, 0), (.iconst 0, 1, 0, 0), (.iastore, 1, 0, 0), (.iinc 1 1, 3, 0, 0), (.goto (-17), 3, 36, 0)]),
  (56, [0], [(.iconst 0, 1, 0, 0), (.istore_n 1, 1, 0, 0)]),
  (58, [0, 1], [(.iload_n 1, 1, 0, 0), (.bipush 7, 2, 0, 0), (.if_icmp .ge 30, 3, 91, 0), (.aload_n 0, 1, 0, 0), (.getfield 103, 3, 10, 58), (.iload_n 1, 1, 0, 0), (.iconst 0, 1, 0, 0), (.iastore, 1, 0, 0), (.aload_n 0, 1, 0, 0), (.getfield 106, 3, 10, 59), (.iload_n 1, 1, 0, 0), (.iconst 0, 1, 0, 0), (.iastore, 1, 0, 0), (.aload_n 0, 1, 0, 0), (.getfield 109, 3, 10, 60), (.iload_n 1, 1, 0, 0), (.iconst 0, 1, 0, 0), (.iastore, 1, 0, 0), (.iinc 1 1, 3, 0, 0), (.goto (-30), 3, 58, 0)]),
  (91, [0], [(.aload_n 0, 1, 0, 0), (.getfield 112, 3, 10, 61), (.iconst 0, 1, 0, 0), (.iconst 0, 1, 0, 0), (.iastore, 1, 0, 0), (.aload_n 0, 1, 0, 0), (.getfield 115, 3, 10, 62), (.iconst 0, 1, 0, 0), (.iconst 0, 1, 0, 0), (.iastore, 1, 0, 0), (.aload_n 0, 1, 0, 0), (.getfield 118, 3, 10, 63), (.iconst 0, 1, 0, 0), (.iconst 0, 1, 0, 0), (.iastore, 1, 0, 0), (.aload_n 0, 1, 0, 0), (.getfield 121, 3, 10, 64), (.iconst 0, 1, 0, 0), (.iconst 0, 1, 0, 0), (.iastore, 1, 0, 0), (.aload_n 0, 1, 0, 0), (.aload_n 0, 1, 0, 0), (.getfield 27, 3, 10, 26), (.iconst 2, 1, 0, 0), (.iaload, 1, 0, 0), (.i2l, 1, 0, 0), (.putfield 379, 3, 10, 65), (.aload_n 0, 1, 0, 0), (.invokevirtual 383, 3, 0, 0), (.aload_n 0, 1, 0, 0), (.iconst 0, 1, 0, 0), (.putfield 386, 3, 10, 80), (.aload_n 0, 1, 0, 0), (.iconst (-1), 1, 0, 0), (.putfield 136, 3, 10, 81), (.aload_n 0, 1, 0, 0), (.iconst 0, 1, 0, 0), (.putfield 389, 3, 10, 85), (.aload_n 0, 1, 0, 0), (.iconst 0, 1, 0, 0), (.putfield 392, 3, 10, 87), (.return_, 1, 0, 0)])], none)
noncomputable def Mo_begin (M : AM) : Option (Option Value × AM) := mD C_Mo_begin [.ref 82] M
noncomputable def Mo_begin_16 (x1 : Int32) (M : AM) : Option (Option Value × AM) := it C_Mo_begin 16 [(0, .ref 82), (1, .int x1)] [] M
noncomputable def Mo_begin_36 (x1 : Int32) (M : AM) : Option (Option Value × AM) := it C_Mo_begin 36 [(0, .ref 82), (1, .int x1)] [] M
noncomputable def Mo_begin_58 (x1 : Int32) (M : AM) : Option (Option Value × AM) := it C_Mo_begin 58 [(0, .ref 82), (1, .int x1)] [] M
noncomputable def C_Mo_keepText : MC := (2, 0, [(1, 0, 2, mD C_Mo_copies), (0, 10, 1, mD C_Mo_begin)], [(0, [0], [(.aload_n 0, 1, 0, 0), (.aload_n 0, 1, 0, 0), (.getfield 222, 3, 10, 18), (.putfield 243, 3, 10, 12), (.aload_n 0, 1, 0, 0), (.aload_n 0, 1, 0, 0), (.getfield 225, 3, 10, 19), (.putfield 246, 3, 10, 13), (.aload_n 0, 1, 0, 0), (.aload_n 0, 1, 0, 0), (.getfield 228, 3, 10, 20), (.putfield 249, 3, 10, 14), (.aload_n 0, 1, 0, 0), (.aload_n 0, 1, 0, 0), (.getfield 231, 3, 10, 21), (.putfield 252, 3, 10, 15), (.aload_n 0, 1, 0, 0), (.aload_n 0, 1, 0, 0), (.getfield 234, 3, 10, 22), (.putfield 255, 3, 10, 16), (.aload_n 0, 1, 0, 0), (.aload_n 0, 1, 0, 0), (.getfield 237, 3, 10, 23), (.putfield 258, 3, 10, 17), (.aload_n 0, 1, 0, 0), (.getfield 20, 3, 10, 24), (.iconst 0, 1, 0, 0), (.aload_n 0, 1, 0, 0), (.getfield 20, 3, 10, 24), (.iconst 1, 1, 0, 0), (.iaload, 1, 0, 0), (.ifCond .lt 12, 3, 71, 0), (.aload_n 0, 1, 0, 0), (.getfield 20, 3, 10, 24), (.iconst 1, 1, 0, 0), (.iaload, 1, 0, 0), (.goto 15, 3, 83, 0)]),
  (71, [0], [(.aload_n 0, 1, 0, 0), (.getfield 243, 3, 10, 12), (.ifCond .le 7, 3, 82, 0), (.iconst 0, 1, 0, 0), (.goto 4, 3, 83, 0)]),
  (82, [0], [(.iconst (-1), 1, 0, 0)]),
  (83, [0], [(.iastore, 1, 0, 0), (.aload_n 0, 1, 0, 0), (.getfield 27, 3, 10, 26), (.iconst 3, 1, 0, 0), (.invokestatic 261, 3, 0, 0), (.aload_n 0, 1, 0, 0), (.getfield 30, 3, 10, 27), (.bipush 7, 2, 0, 0), (.invokestatic 261, 3, 0, 0), (.aload_n 0, 1, 0, 0), (.getfield 33, 3, 10, 28), (.bipush 8, 2, 0, 0), (.invokestatic 261, 3, 0, 0), (.aload_n 0, 1, 0, 0), (.getfield 36, 3, 10, 29), (.bipush 8, 2, 0, 0), (.invokestatic 261, 3, 0, 0), (.aload_n 0, 1, 0, 0), (.getfield 39, 3, 10, 30), (.iconst 3, 1, 0, 0), (.invokestatic 261, 3, 0, 0), (.aload_n 0, 1, 0, 0), (.getfield 42, 3, 10, 31), (.iconst 3, 1, 0, 0), (.invokestatic 261, 3, 0, 0), (.aload_n 0, 1, 0, 0), (.getfield 45, 3, 10, 32), (.bipush 16, 2, 0, 0), (.invokestatic 261, 3, 0, 0), (.aload_n 0, 1, 0, 0), (.getfield 48, 3, 10, 33), (.bipush 16, 2, 0, 0), (.invokestatic 261, 3, 0, 0), (.aload_n 0, 1, 0, 0), (.getfield 51, 3, 10, 34), (.bipush 16, 2, 0, 0), (.invokestatic 261, 3, 0, 0), (.aload_n 0, 1, 0, 0), (.getfield 54, 3, 10, 35), (.bipush 14, 2, 0, 0), (.invokestatic 261, 3, 0, 0), (.aload_n 0, 1, 0, 0), (.getfield 57, 3, 10, 36), (.bipush 14, 2, 0, 0), (.invokestatic 261, 3, 0, 0), (.iconst 0, 1, 0, 0), (.istore_n 1, 1, 0, 0)]),
  (182, [0, 1], [(.iload_n 1, 1, 0, 0), (.iconst 3, 1, 0, 0), (.if_icmp .ge 23, 3, 207, 0), (.aload_n 0, 1, 0, 0), (.getfield 60, 3, 10, 37), (.iload_n 1, 1, 0, 0), (.aload_n 0, 1, 0, 0), (.getfield 60, 3, 10, 37), (.iconst 3, 1, 0, 0), (.iload_n 1, 1, 0, 0), (.iadd, 1, 0, 0), (.baload, 1, 0, 0), (.bastore, 1, 0, 0), (.iinc 1 1, 3, 0, 0), (.goto (-22), 3, 182, 0)]),
  (207, [0], [(.aload_n 0, 1, 0, 0), (.getfield 63, 3, 10, 38), (.iconst 3, 1, 0, 0), (.invokestatic 261, 3, 0, 0), (.aload_n 0, 1, 0, 0), (.getfield 66, 3, 10, 39), (.iconst 3, 1, 0, 0), (.invokestatic 261, 3, 0, 0), (.aload_n 0, 1, 0, 0), (.getfield 69, 3, 10, 40), (.bipush 64, 2, 0, 0), (.invokestatic 261, 3, 0, 0), (.aload_n 0, 1, 0, 0), (.getfield 72, 3, 10, 41), (.bipush 64, 2, 0, 0), (.invokestatic 261, 3, 0, 0), (.aload_n 0, 1, 0, 0), (.getfield 75, 3, 10, 42), (.bipush 64, 2, 0, 0), (.invokestatic 261, 3, 0, 0), (.aload_n 0, 1, 0, 0), (.invokevirtual 265, 3, 1, 0), (.return_, 1, 0, 0)])], none)
noncomputable def Mo_keepText (M : AM) : Option (Option Value × AM) := mD C_Mo_keepText [.ref 82] M
noncomputable def Mo_keepText_83 (z1 : Int32) (z2 : Int32) (M : AM) : Option (Option Value × AM) := it C_Mo_keepText 83 [(0, .ref 82)] [.int z2, .int z1, .ref 85] M
noncomputable def Mo_keepText_182 (x1 : Int32) (M : AM) : Option (Option Value × AM) := it C_Mo_keepText 182 [(0, .ref 82), (1, .int x1)] [] M
noncomputable def C_Mo_thrown : MC := (1, 1, [], [(0, [0], [(.aload_n 0, 1, 0, 0), (.getfield 160, 3, 10, 2), (.ireturn, 1, 0, 0)])], none)
noncomputable def Mo_thrown (M : AM) : Option (Option Value × AM) := mD C_Mo_thrown [.ref 82] M
noncomputable def C_Mo_feed : MC := (8, 1, [], [(0, [0, 1, 2, 3, 4, 5], [(.aload_n 0, 1, 0, 0), (.iconst 0, 1, 0, 0), (.putfield 160, 3, 10, 2), (.aload_n 0, 1, 0, 0), (.getfield 163, 3, 10, 1), (.bipush 20, 2, 0, 0), (.iadd, 1, 0, 0), (.sipush 700, 3, 0, 0), (.if_icmp .le 5, 3, 20, 0), (.iconst (-1), 1, 0, 0), (.ireturn, 1, 0, 0)]),
  (20, [0, 1, 2, 3, 4, 5], [(.iconst 0, 1, 0, 0), (.istore 6, 2, 0, 0)]),
  (23, [0, 1, 2, 3, 4, 5, 6], [(.iload 6, 2, 0, 0), (.bipush 20, 2, 0, 0), (.if_icmp .ge 86, 3, 113, 0), (.iload 6, 2, 0, 0), (.iconst 4, 1, 0, 0), (.if_icmp .ge 7, 3, 40, 0), (.iload_n 1, 1, 0, 0), (.goto 39, 3, 76, 0)]),
  (40, [0, 1, 2, 3, 4, 5, 6], [(.iload 6, 2, 0, 0), (.bipush 8, 2, 0, 0), (.if_icmp .ge 7, 3, 51, 0), (.iload_n 2, 1, 0, 0), (.goto 28, 3, 76, 0)]),
  (51, [0, 1, 2, 3, 4, 5, 6], [(.iload 6, 2, 0, 0), (.bipush 12, 2, 0, 0), (.if_icmp .ge 7, 3, 62, 0), (.iload_n 3, 1, 0, 0), (.goto 17, 3, 76, 0)]),
  (62, [0, 1, 2, 3, 4, 5, 6], [(.iload 6, 2, 0, 0), (.bipush 16, 2, 0, 0), (.if_icmp .ge 8, 3, 74, 0), (.iload 4, 2, 0, 0), (.goto 5, 3, 76, 0)]),
  (74, [0, 1, 2, 3, 4, 5, 6], [(.iload 5, 2, 0, 0)]),
  (76, [0, 1, 2, 3, 4, 5, 6], [(.istore 7, 2, 0, 0), (.aload_n 0, 1, 0, 0), (.getfield 7, 3, 10, 0), (.aload_n 0, 1, 0, 0), (.getfield 163, 3, 10, 1), (.iload 6, 2, 0, 0), (.iadd, 1, 0, 0), (.iload 7, 2, 0, 0), (.bipush 24, 2, 0, 0), (.bipush 8, 2, 0, 0), (.iload 6, 2, 0, 0), (.iconst 4, 1, 0, 0), (.irem, 1, 0, 0), (.imul, 1, 0, 0), (.isub, 1, 0, 0), (.ishr, 1, 0, 0), (.sipush 255, 3, 0, 0), (.iand, 1, 0, 0), (.iastore, 1, 0, 0), (.iinc 6 1, 3, 0, 0), (.goto (-87), 3, 23, 0)]),
  (113, [0], [(.aload_n 0, 1, 0, 0), (.dup, 1, 0, 0), (.getfield 163, 3, 10, 1), (.bipush 20, 2, 0, 0), (.iadd, 1, 0, 0), (.putfield 163, 3, 10, 1), (.aload_n 0, 1, 0, 0), (.getfield 163, 3, 10, 1), (.ireturn, 1, 0, 0)])], none)
noncomputable def Mo_feed (x1 : Int32) (x2 : Int32) (x3 : Int32) (x4 : Int32) (x5 : Int32) (M : AM) : Option (Option Value × AM) := mD C_Mo_feed [.ref 82, .int x1, .int x2, .int x3, .int x4, .int x5] M
noncomputable def Mo_feed_23 (x1 : Int32) (x2 : Int32) (x3 : Int32) (x4 : Int32) (x5 : Int32) (x6 : Int32) (M : AM) : Option (Option Value × AM) := it C_Mo_feed 23 [(0, .ref 82), (1, .int x1), (2, .int x2), (3, .int x3), (4, .int x4), (5, .int x5), (6, .int x6)] [] M
noncomputable def Mo_feed_76 (x1 : Int32) (x2 : Int32) (x3 : Int32) (x4 : Int32) (x5 : Int32) (x6 : Int32) (z0 : Int32) (M : AM) : Option (Option Value × AM) := it C_Mo_feed 76 [(0, .ref 82), (1, .int x1), (2, .int x2), (3, .int x3), (4, .int x4), (5, .int x5), (6, .int x6)] [.int z0] M
noncomputable def C_Mo_isSmall : MC := (2, 3, [], [(0, [0, 1], [(.iload_n 1, 1, 0, 0), (.aload_n 0, 1, 0, 0), (.getfield 172, 3, 10, 6), (.if_icmp .ge 29, 3, 34, 0), (.aload_n 0, 1, 0, 0), (.getfield 7, 3, 10, 0), (.iload_n 1, 1, 0, 0), (.iaload, 1, 0, 0), (.bipush 97, 2, 0, 0), (.if_icmp .lt 18, 3, 34, 0), (.aload_n 0, 1, 0, 0), (.getfield 7, 3, 10, 0), (.iload_n 1, 1, 0, 0), (.iaload, 1, 0, 0), (.bipush 122, 2, 0, 0), (.if_icmp .gt 7, 3, 34, 0), (.iconst 1, 1, 0, 0), (.goto 4, 3, 35, 0)]),
  (34, [], [(.iconst 0, 1, 0, 0)]),
  (35, [], [(.ireturn, 1, 0, 0)])], none)
noncomputable def Mo_isSmall (x1 : Int32) (M : AM) : Option (Option Value × AM) := mD C_Mo_isSmall [.ref 82, .int x1] M
noncomputable def C_Mo_wordAt : MC := (8, 1, [], [(0, [0, 1, 2], [(.iconst 0, 1, 0, 0), (.istore_n 3, 1, 0, 0), (.iconst 0, 1, 0, 0), (.istore 4, 2, 0, 0)]),
  (5, [0, 1, 2, 3, 4], [(.iload 4, 2, 0, 0), (.aload_n 0, 1, 0, 0), (.getfield 13, 3, 10, 3), (.arraylength, 1, 0, 0), (.if_icmp .ge 114, 3, 126, 0), (.iconst 0, 1, 0, 0), (.istore 5, 2, 0, 0)]),
  (18, [0, 1, 2, 3, 4, 5], [(.aload_n 0, 1, 0, 0), (.getfield 13, 3, 10, 3), (.iload 4, 2, 0, 0), (.iload 5, 2, 0, 0), (.iadd, 1, 0, 0), (.iaload, 1, 0, 0), (.bipush 32, 2, 0, 0), (.if_icmp .eq 9, 3, 39, 0), (.iinc 5 1, 3, 0, 0), (.goto (-18), 3, 18, 0)]),
  (39, [0, 1, 2, 3, 4, 5], [(.iload 5, 2, 0, 0), (.iload_n 2, 1, 0, 0), (.iload_n 1, 1, 0, 0), (.isub, 1, 0, 0), (.if_icmp .ne 7, 3, 51, 0), (.iconst 1, 1, 0, 0), (.goto 4, 3, 52, 0)]),
  (51, [0, 1, 2, 3, 4, 5], [(.iconst 0, 1, 0, 0)]),
  (52, [0, 1, 2, 3, 4, 5], [(.istore 6, 2, 0, 0), (.iconst 0, 1, 0, 0), (.istore 7, 2, 0, 0)]),
  (57, [0, 1, 2, 3, 4, 5, 6, 7], [(.iload 7, 2, 0, 0), (.iload 5, 2, 0, 0), (.if_icmp .ge 43, 3, 104, 0), (.iload 6, 2, 0, 0), (.ifCond .eq 38, 3, 104, 0), (.aload_n 0, 1, 0, 0), (.getfield 13, 3, 10, 3), (.iload 4, 2, 0, 0), (.iload 7, 2, 0, 0), (.iadd, 1, 0, 0), (.iaload, 1, 0, 0), (.aload_n 0, 1, 0, 0), (.getfield 7, 3, 10, 0), (.iload_n 1, 1, 0, 0), (.iload 7, 2, 0, 0), (.iadd, 1, 0, 0), (.iaload, 1, 0, 0), (.if_icmp .ne 7, 3, 95, 0), (.iconst 1, 1, 0, 0), (.goto 4, 3, 96, 0)]),
  (95, [0, 1, 2, 3, 4, 5, 7], [(.iconst 0, 1, 0, 0)]),
  (96, [0, 1, 2, 3, 4, 5, 7], [(.istore 6, 2, 0, 0), (.iinc 7 1, 3, 0, 0), (.goto (-44), 3, 57, 0)]),
  (104, [0, 1, 2, 3, 4, 5, 6], [(.iload 6, 2, 0, 0), (.ifCond .eq 5, 3, 111, 0), (.iload_n 3, 1, 0, 0), (.ireturn, 1, 0, 0)]),
  (111, [0, 1, 2, 3, 4, 5], [(.iload 4, 2, 0, 0), (.iload 5, 2, 0, 0), (.iconst 1, 1, 0, 0), (.iadd, 1, 0, 0), (.iadd, 1, 0, 0), (.istore 4, 2, 0, 0), (.iinc 3 1, 3, 0, 0), (.goto (-118), 3, 5, 0)]),
  (126, [], [(.iconst (-1), 1, 0, 0), (.ireturn, 1, 0, 0)])], none)
noncomputable def Mo_wordAt (x1 : Int32) (x2 : Int32) (M : AM) : Option (Option Value × AM) := mD C_Mo_wordAt [.ref 82, .int x1, .int x2] M
noncomputable def Mo_wordAt_5 (x1 : Int32) (x2 : Int32) (x3 : Int32) (x4 : Int32) (M : AM) : Option (Option Value × AM) := it C_Mo_wordAt 5 [(0, .ref 82), (1, .int x1), (2, .int x2), (3, .int x3), (4, .int x4)] [] M
noncomputable def Mo_wordAt_18 (x1 : Int32) (x2 : Int32) (x3 : Int32) (x4 : Int32) (x5 : Int32) (M : AM) : Option (Option Value × AM) := it C_Mo_wordAt 18 [(0, .ref 82), (1, .int x1), (2, .int x2), (3, .int x3), (4, .int x4), (5, .int x5)] [] M
noncomputable def Mo_wordAt_57 (x1 : Int32) (x2 : Int32) (x3 : Int32) (x4 : Int32) (x5 : Int32) (x6 : Int32) (x7 : Int32) (M : AM) : Option (Option Value × AM) := it C_Mo_wordAt 57 [(0, .ref 82), (1, .int x1), (2, .int x2), (3, .int x3), (4, .int x4), (5, .int x5), (6, .int x6), (7, .int x7)] [] M
noncomputable def C_Mo_packed : MC := (5, 1, [], [(0, [0, 1, 2], [(.iconst 0, 1, 0, 0), (.istore_n 3, 1, 0, 0), (.iload_n 1, 1, 0, 0), (.istore 4, 2, 0, 0)]),
  (5, [0, 1, 2, 3, 4], [(.iload 4, 2, 0, 0), (.iload_n 1, 1, 0, 0), (.bipush 6, 2, 0, 0), (.iadd, 1, 0, 0), (.if_icmp .ge 34, 3, 45, 0), (.iload_n 3, 1, 0, 0), (.iconst 5, 1, 0, 0), (.ishl, 1, 0, 0), (.iload 4, 2, 0, 0), (.iload_n 2, 1, 0, 0), (.if_icmp .ge 16, 3, 36, 0), (.aload_n 0, 1, 0, 0), (.getfield 7, 3, 10, 0), (.iload 4, 2, 0, 0), (.iaload, 1, 0, 0), (.bipush 96, 2, 0, 0), (.isub, 1, 0, 0), (.goto 4, 3, 37, 0)]),
  (36, [0, 1, 2, 4], [(.iconst 0, 1, 0, 0)]),
  (37, [0, 1, 2, 4], [(.ior, 1, 0, 0), (.istore_n 3, 1, 0, 0), (.iinc 4 1, 3, 0, 0), (.goto (-37), 3, 5, 0)]),
  (45, [3], [(.iload_n 3, 1, 0, 0), (.ireturn, 1, 0, 0)])], none)
noncomputable def Mo_packed (x1 : Int32) (x2 : Int32) (M : AM) : Option (Option Value × AM) := mD C_Mo_packed [.ref 82, .int x1, .int x2] M
noncomputable def Mo_packed_5 (x1 : Int32) (x2 : Int32) (x3 : Int32) (x4 : Int32) (M : AM) : Option (Option Value × AM) := it C_Mo_packed 5 [(0, .ref 82), (1, .int x1), (2, .int x2), (3, .int x3), (4, .int x4)] [] M
noncomputable def C_Mo_isDigit : MC := (2, 3, [], [(0, [0, 1], [(.iload_n 1, 1, 0, 0), (.aload_n 0, 1, 0, 0), (.getfield 172, 3, 10, 6), (.if_icmp .ge 29, 3, 34, 0), (.aload_n 0, 1, 0, 0), (.getfield 7, 3, 10, 0), (.iload_n 1, 1, 0, 0), (.iaload, 1, 0, 0), (.bipush 48, 2, 0, 0), (.if_icmp .lt 18, 3, 34, 0), (.aload_n 0, 1, 0, 0), (.getfield 7, 3, 10, 0), (.iload_n 1, 1, 0, 0), (.iaload, 1, 0, 0), (.bipush 57, 2, 0, 0), (.if_icmp .gt 7, 3, 34, 0), (.iconst 1, 1, 0, 0), (.goto 4, 3, 35, 0)]),
  (34, [], [(.iconst 0, 1, 0, 0)]),
  (35, [], [(.ireturn, 1, 0, 0)])], none)
noncomputable def Mo_isDigit (x1 : Int32) (M : AM) : Option (Option Value × AM) := mD C_Mo_isDigit [.ref 82, .int x1] M
noncomputable def C_Mo_signToken : MC := (4, 0, [], [(0, [0], [(.aload_n 0, 1, 0, 0), (.aload_n 0, 1, 0, 0), (.getfield 7, 3, 10, 0), (.aload_n 0, 1, 0, 0), (.getfield 175, 3, 10, 7), (.iaload, 1, 0, 0), (.putfield 189, 3, 10, 9), (.aload_n 0, 1, 0, 0), (.dup, 1, 0, 0), (.getfield 175, 3, 10, 7), (.iconst 1, 1, 0, 0), (.iadd, 1, 0, 0), (.putfield 175, 3, 10, 7), (.aload_n 0, 1, 0, 0), (.getfield 189, 3, 10, 9), (.bipush 60, 2, 0, 0), (.if_icmp .eq 21, 3, 50, 0), (.aload_n 0, 1, 0, 0), (.getfield 189, 3, 10, 9), (.bipush 62, 2, 0, 0), (.if_icmp .eq 12, 3, 50, 0), (.aload_n 0, 1, 0, 0), (.getfield 189, 3, 10, 9), (.bipush 61, 2, 0, 0), (.if_icmp .ne 151, 3, 198, 0)]),
  (50, [0], [(.aload_n 0, 1, 0, 0), (.getfield 175, 3, 10, 7), (.aload_n 0, 1, 0, 0), (.getfield 172, 3, 10, 6), (.if_icmp .ge 15, 3, 73, 0), (.aload_n 0, 1, 0, 0), (.getfield 7, 3, 10, 0), (.aload_n 0, 1, 0, 0), (.getfield 175, 3, 10, 7), (.iaload, 1, 0, 0), (.goto 4, 3, 74, 0)]),
  (73, [0], [(.iconst 0, 1, 0, 0)]),
  (74, [0], [(.istore_n 1, 1, 0, 0), (.aload_n 0, 1, 0, 0), (.getfield 189, 3, 10, 9), (.bipush 61, 2, 0, 0), (.if_icmp .eq 13, 3, 94, 0), (.iload_n 1, 1, 0, 0), (.bipush 61, 2, 0, 0), (.if_icmp .ne 7, 3, 94, 0), (.iconst 1, 1, 0, 0), (.goto 4, 3, 95, 0)]),
  (94, [0, 1], [(.iconst 0, 1, 0, 0)]),
  (95, [0, 1], [(.istore_n 2, 1, 0, 0), (.aload_n 0, 1, 0, 0), (.getfield 189, 3, 10, 9), (.bipush 60, 2, 0, 0), (.if_icmp .ne 13, 3, 115, 0), (.iload_n 1, 1, 0, 0), (.bipush 62, 2, 0, 0), (.if_icmp .ne 7, 3, 115, 0), (.iconst 1, 1, 0, 0), (.goto 4, 3, 116, 0)]),
  (115, [0, 2], [(.iconst 0, 1, 0, 0)]),
  (116, [0, 2], [(.istore_n 3, 1, 0, 0), (.iload_n 2, 1, 0, 0), (.ifCond .ne 7, 3, 125, 0), (.iload_n 3, 1, 0, 0), (.ifCond .eq 13, 3, 135, 0)]),
  (125, [0, 2, 3], [(.aload_n 0, 1, 0, 0), (.dup, 1, 0, 0), (.getfield 175, 3, 10, 7), (.iconst 1, 1, 0, 0), (.iadd, 1, 0, 0), (.putfield 175, 3, 10, 7)]),
  (135, [0, 2, 3], [(.aload_n 0, 1, 0, 0), (.iconst 5, 1, 0, 0), (.putfield 178, 3, 10, 8), (.aload_n 0, 1, 0, 0), (.aload_n 0, 1, 0, 0), (.getfield 189, 3, 10, 9), (.bipush 61, 2, 0, 0), (.if_icmp .ne 7, 3, 154, 0), (.iconst 2, 1, 0, 0), (.goto 41, 3, 192, 0)]),
  (154, [0, 2, 3], [(.aload_n 0, 1, 0, 0), (.getfield 189, 3, 10, 9), (.bipush 60, 2, 0, 0), (.if_icmp .ne 23, 3, 183, 0), (.iload_n 2, 1, 0, 0), (.ifCond .eq 7, 3, 171, 0), (.iconst 1, 1, 0, 0), (.goto 24, 3, 192, 0)]),
  (171, [3], [(.iload_n 3, 1, 0, 0), (.ifCond .eq 7, 3, 179, 0), (.iconst 3, 1, 0, 0), (.goto 16, 3, 192, 0)]),
  (179, [], [(.iconst 0, 1, 0, 0), (.goto 12, 3, 192, 0)]),
  (183, [2], [(.iload_n 2, 1, 0, 0), (.ifCond .eq 7, 3, 191, 0), (.iconst 4, 1, 0, 0), (.goto 4, 3, 192, 0)]),
  (191, [], [(.iconst 5, 1, 0, 0)]),
  (192, [], [(.putfield 189, 3, 10, 9), (.goto 95, 3, 290, 0)]),
  (198, [0], [(.aload_n 0, 1, 0, 0), (.getfield 189, 3, 10, 9), (.bipush 59, 2, 0, 0), (.if_icmp .eq 66, 3, 270, 0), (.aload_n 0, 1, 0, 0), (.getfield 189, 3, 10, 9), (.bipush 40, 2, 0, 0), (.if_icmp .eq 57, 3, 270, 0), (.aload_n 0, 1, 0, 0), (.getfield 189, 3, 10, 9), (.bipush 41, 2, 0, 0), (.if_icmp .eq 48, 3, 270, 0), (.aload_n 0, 1, 0, 0), (.getfield 189, 3, 10, 9), (.bipush 43, 2, 0, 0), (.if_icmp .eq 39, 3, 270, 0), (.aload_n 0, 1, 0, 0), (.getfield 189, 3, 10, 9), (.bipush 45, 2, 0, 0), (.if_icmp .eq 30, 3, 270, 0), (.aload_n 0, 1, 0, 0), (.getfield 189, 3, 10, 9), (.bipush 42, 2, 0, 0), (.if_icmp .eq 21, 3, 270, 0), (.aload_n 0, 1, 0, 0), (.getfield 189, 3, 10, 9), (.bipush 47, 2, 0, 0), (.if_icmp .eq 12, 3, 270, 0), (.aload_n 0, 1, 0, 0), (.getfield 189, 3, 10, 9), (.bipush 37, 2, 0, 0), (.if_icmp .ne 7, 3, 274, 0)]),
  (270, [0], [(.iconst 1, 1, 0, 0), (.goto 4, 3, 275, 0)]),
  (274, [0], [(.iconst 0, 1, 0, 0)]),
  (275, [0], [(.istore_n 1, 1, 0, 0), (.aload_n 0, 1, 0, 0), (.iload_n 1, 1, 0, 0), (.ifCond .eq 7, 3, 285, 0), (.iconst 4, 1, 0, 0), (.goto 5, 3, 287, 0)]),
  (285, [], [(.bipush 6, 2, 0, 0)]),
  (287, [], [(.putfield 178, 3, 10, 8)]),
  (290, [], [(.return_, 1, 0, 0)])], none)
noncomputable def Mo_signToken (M : AM) : Option (Option Value × AM) := mD C_Mo_signToken [.ref 82] M
noncomputable def Mo_signToken_50 (M : AM) : Option (Option Value × AM) := it C_Mo_signToken 50 [(0, .ref 82)] [] M
noncomputable def Mo_signToken_270 (M : AM) : Option (Option Value × AM) := it C_Mo_signToken 270 [(0, .ref 82)] [] M
noncomputable def Mo_signToken_95 (x1 : Int32) (z0 : Int32) (M : AM) : Option (Option Value × AM) := it C_Mo_signToken 95 [(0, .ref 82), (1, .int x1)] [.int z0] M
noncomputable def Mo_signToken_135 (x2 : Int32) (x3 : Int32) (M : AM) : Option (Option Value × AM) := it C_Mo_signToken 135 [(0, .ref 82), (2, .int x2), (3, .int x3)] [] M
noncomputable def Mo_signToken_192 (z1 : Int32) (M : AM) : Option (Option Value × AM) := it C_Mo_signToken 192 [] [.int z1, .ref 82] M
noncomputable def C_Mo_token : MC := (1, 0, [(0, 10, 2, mD C_Mo_isSmall), (0, 10, 3, mD C_Mo_wordAt), (0, 10, 3, mD C_Mo_packed), (0, 10, 2, mD C_Mo_isDigit), (0, 10, 1, mD C_Mo_signToken)], [(0, [0], [(.aload_n 0, 1, 0, 0), (.getfield 175, 3, 10, 7), (.aload_n 0, 1, 0, 0), (.getfield 172, 3, 10, 6), (.if_icmp .ge 44, 3, 52, 0), (.aload_n 0, 1, 0, 0), (.getfield 7, 3, 10, 0), (.aload_n 0, 1, 0, 0), (.getfield 175, 3, 10, 7), (.iaload, 1, 0, 0), (.bipush 10, 2, 0, 0), (.if_icmp .eq 17, 3, 39, 0), (.aload_n 0, 1, 0, 0), (.getfield 7, 3, 10, 0), (.aload_n 0, 1, 0, 0), (.getfield 175, 3, 10, 7), (.iaload, 1, 0, 0), (.bipush 32, 2, 0, 0), (.if_icmp .ne 16, 3, 52, 0)]),
  (39, [0], [(.aload_n 0, 1, 0, 0), (.dup, 1, 0, 0), (.getfield 175, 3, 10, 7), (.iconst 1, 1, 0, 0), (.iadd, 1, 0, 0), (.putfield 175, 3, 10, 7), (.goto (-49), 3, 0, 0)]),
  (52, [0], [(.aload_n 0, 1, 0, 0), (.aload_n 0, 1, 0, 0), (.getfield 175, 3, 10, 7), (.putfield 169, 3, 10, 10), (.aload_n 0, 1, 0, 0), (.getfield 175, 3, 10, 7), (.aload_n 0, 1, 0, 0), (.getfield 172, 3, 10, 6), (.if_icmp .ne 11, 3, 79, 0), (.aload_n 0, 1, 0, 0), (.iconst 0, 1, 0, 0), (.putfield 178, 3, 10, 8), (.goto 205, 3, 281, 0)]),
  (79, [0], [(.aload_n 0, 1, 0, 0), (.aload_n 0, 1, 0, 0), (.getfield 175, 3, 10, 7), (.invokevirtual 181, 3, 0, 1), (.ifCond .eq 105, 3, 192, 0)]),
  (90, [0], [(.aload_n 0, 1, 0, 0), (.aload_n 0, 1, 0, 0), (.getfield 175, 3, 10, 7), (.invokevirtual 181, 3, 0, 1), (.ifCond .eq 16, 3, 114, 0), (.aload_n 0, 1, 0, 0), (.dup, 1, 0, 0), (.getfield 175, 3, 10, 7), (.iconst 1, 1, 0, 0), (.iadd, 1, 0, 0), (.putfield 175, 3, 10, 7), (.goto (-21), 3, 90, 0)]),
  (114, [0], [(.aload_n 0, 1, 0, 0), (.aload_n 0, 1, 0, 0), (.aload_n 0, 1, 0, 0), (.getfield 169, 3, 10, 10), (.aload_n 0, 1, 0, 0), (.getfield 175, 3, 10, 7), (.invokevirtual 185, 3, 1, 1), (.putfield 189, 3, 10, 9), (.aload_n 0, 1, 0, 0), (.aload_n 0, 1, 0, 0), (.getfield 189, 3, 10, 9), (.ifCond .lt 7, 3, 142, 0), (.iconst 1, 1, 0, 0), (.goto 23, 3, 162, 0)]),
  (142, [0], [(.aload_n 0, 1, 0, 0), (.getfield 175, 3, 10, 7), (.aload_n 0, 1, 0, 0), (.getfield 169, 3, 10, 10), (.isub, 1, 0, 0), (.bipush 6, 2, 0, 0), (.if_icmp .le 8, 3, 161, 0), (.bipush 6, 2, 0, 0), (.goto 4, 3, 162, 0)]),
  (161, [0], [(.iconst 2, 1, 0, 0)]),
  (162, [0], [(.putfield 178, 3, 10, 8), (.aload_n 0, 1, 0, 0), (.getfield 178, 3, 10, 8), (.iconst 2, 1, 0, 0), (.if_icmp .ne 111, 3, 281, 0), (.aload_n 0, 1, 0, 0), (.aload_n 0, 1, 0, 0), (.aload_n 0, 1, 0, 0), (.getfield 169, 3, 10, 10), (.aload_n 0, 1, 0, 0), (.getfield 175, 3, 10, 7), (.invokevirtual 192, 3, 2, 1), (.putfield 189, 3, 10, 9), (.goto 92, 3, 281, 0)]),
  (192, [0], [(.aload_n 0, 1, 0, 0), (.aload_n 0, 1, 0, 0), (.getfield 175, 3, 10, 7), (.invokevirtual 195, 3, 3, 1), (.ifCond .eq 77, 3, 277, 0), (.aload_n 0, 1, 0, 0), (.iconst 3, 1, 0, 0), (.putfield 178, 3, 10, 8), (.aload_n 0, 1, 0, 0), (.iconst 0, 1, 0, 0), (.putfield 189, 3, 10, 9)]),
  (213, [0], [(.aload_n 0, 1, 0, 0), (.aload_n 0, 1, 0, 0), (.getfield 175, 3, 10, 7), (.invokevirtual 195, 3, 3, 1), (.ifCond .eq 60, 3, 281, 0), (.aload_n 0, 1, 0, 0), (.aload_n 0, 1, 0, 0), (.getfield 189, 3, 10, 9), (.ldc 198, 2, 99999, 0), (.if_icmp .le 10, 3, 241, 0), (.aload_n 0, 1, 0, 0), (.getfield 189, 3, 10, 9), (.goto 23, 3, 261, 0)]),
  (241, [0], [(.bipush 10, 2, 0, 0), (.aload_n 0, 1, 0, 0), (.getfield 189, 3, 10, 9), (.imul, 1, 0, 0), (.aload_n 0, 1, 0, 0), (.getfield 7, 3, 10, 0), (.aload_n 0, 1, 0, 0), (.getfield 175, 3, 10, 7), (.iaload, 1, 0, 0), (.iadd, 1, 0, 0), (.bipush 48, 2, 0, 0), (.isub, 1, 0, 0)]),
  (261, [0], [(.putfield 189, 3, 10, 9), (.aload_n 0, 1, 0, 0), (.dup, 1, 0, 0), (.getfield 175, 3, 10, 7), (.iconst 1, 1, 0, 0), (.iadd, 1, 0, 0), (.putfield 175, 3, 10, 7), (.goto (-61), 3, 213, 0)]),
  (277, [0], [(.aload_n 0, 1, 0, 0), (.invokevirtual 199, 3, 4, 0)]),
  (281, [], [(.return_, 1, 0, 0)])], none)
noncomputable def Mo_token (M : AM) : Option (Option Value × AM) := mD C_Mo_token [.ref 82] M
noncomputable def Mo_token_52 (M : AM) : Option (Option Value × AM) := it C_Mo_token 52 [(0, .ref 82)] [] M
noncomputable def Mo_token_0 (M : AM) : Option (Option Value × AM) := it C_Mo_token 0 [(0, .ref 82)] [] M
noncomputable def Mo_token_213 (M : AM) : Option (Option Value × AM) := it C_Mo_token 213 [(0, .ref 82)] [] M
noncomputable def Mo_token_90 (M : AM) : Option (Option Value × AM) := it C_Mo_token 90 [(0, .ref 82)] [] M
noncomputable def Mo_token_162 (z1 : Int32) (M : AM) : Option (Option Value × AM) := it C_Mo_token 162 [(0, .ref 82)] [.int z1, .ref 82] M
noncomputable def C_Mo_wrong : MC := (2, 3, [], [(0, [0, 1], [(.aload_n 0, 1, 0, 0), (.iload_n 1, 1, 0, 0), (.putfield 166, 3, 10, 4), (.aload_n 0, 1, 0, 0), (.aload_n 0, 1, 0, 0), (.getfield 169, 3, 10, 10), (.putfield 16, 3, 10, 5), (.iconst 0, 1, 0, 0), (.ireturn, 1, 0, 0)])], none)
noncomputable def Mo_wrong (x1 : Int32) (M : AM) : Option (Option Value × AM) := mD C_Mo_wrong [.ref 82, .int x1] M
noncomputable def C_Mo_find : MC := (5, 1, [], [(0, [0, 1, 2, 3], [(.iconst 0, 1, 0, 0), (.istore 4, 2, 0, 0)]),
  (3, [0, 1, 2, 3, 4], [(.iload 4, 2, 0, 0), (.iload_n 2, 1, 0, 0), (.if_icmp .ge 22, 3, 28, 0), (.aload_n 0, 1, 0, 0), (.iload_n 1, 1, 0, 0), (.iload 4, 2, 0, 0), (.iadd, 1, 0, 0), (.iaload, 1, 0, 0), (.iload_n 3, 1, 0, 0), (.if_icmp .ne 6, 3, 22, 0), (.iload 4, 2, 0, 0), (.ireturn, 1, 0, 0)]),
  (22, [0, 1, 2, 3, 4], [(.iinc 4 1, 3, 0, 0), (.goto (-22), 3, 3, 0)]),
  (28, [], [(.iconst (-1), 1, 0, 0), (.ireturn, 1, 0, 0)])], none)
noncomputable def Mo_find (o0 : Nat) (x1 : Int32) (x2 : Int32) (x3 : Int32) (M : AM) : Option (Option Value × AM) := mD C_Mo_find [.ref o0, .int x1, .int x2, .int x3] M
noncomputable def Mo_find_3 (o0 : Nat) (x1 : Int32) (x2 : Int32) (x3 : Int32) (x4 : Int32) (M : AM) : Option (Option Value × AM) := it C_Mo_find 3 [(0, .ref o0), (1, .int x1), (2, .int x2), (3, .int x3), (4, .int x4)] [] M
noncomputable def C_Mo_newName : MC := (4, 3, [(0, 10, 2, mD C_Mo_wrong), (1, 0, 4, mD C_Mo_find), (0, 10, 1, mD C_Mo_token)], [(0, [0, 1, 2, 3], [(.aload_n 0, 1, 0, 0), (.getfield 178, 3, 10, 8), (.iconst 2, 1, 0, 0), (.if_icmp .eq 9, 3, 14, 0), (.aload_n 0, 1, 0, 0), (.iconst 1, 1, 0, 0), (.invokevirtual 202, 3, 0, 1), (.ireturn, 1, 0, 0)]),
  (14, [0, 1, 2, 3], [(.aload_n 1, 1, 0, 0), (.iload_n 2, 1, 0, 0), (.iload_n 3, 1, 0, 0), (.aload_n 0, 1, 0, 0), (.getfield 189, 3, 10, 9), (.invokestatic 268, 3, 1, 1), (.ifCond .lt 9, 3, 33, 0), (.aload_n 0, 1, 0, 0), (.iconst 3, 1, 0, 0), (.invokevirtual 202, 3, 0, 1), (.ireturn, 1, 0, 0)]),
  (33, [0, 1, 2, 3], [(.aload_n 1, 1, 0, 0), (.iload_n 2, 1, 0, 0), (.iload_n 3, 1, 0, 0), (.iadd, 1, 0, 0), (.aload_n 0, 1, 0, 0), (.getfield 189, 3, 10, 9), (.iastore, 1, 0, 0), (.aload_n 0, 1, 0, 0), (.invokevirtual 212, 3, 2, 0), (.iconst 1, 1, 0, 0), (.ireturn, 1, 0, 0)])], none)
noncomputable def Mo_newName (o1 : Nat) (x2 : Int32) (x3 : Int32) (M : AM) : Option (Option Value × AM) := mD C_Mo_newName [.ref 82, .ref o1, .int x2, .int x3] M
noncomputable def C_Mo_nodeLine : MC := (1, 3, [(0, 10, 2, mD C_Mo_wrong), (0, 10, 1, mD C_Mo_token), (0, 10, 4, mD C_Mo_newName)], [(0, [0], [(.aload_n 0, 1, 0, 0), (.getfield 222, 3, 10, 18), (.bipush 7, 2, 0, 0), (.if_icmp .ne 9, 3, 15, 0), (.aload_n 0, 1, 0, 0), (.iconst 2, 1, 0, 0), (.invokevirtual 202, 3, 0, 1), (.ireturn, 1, 0, 0)]),
  (15, [0], [(.aload_n 0, 1, 0, 0), (.invokevirtual 212, 3, 1, 0), (.aload_n 0, 1, 0, 0), (.aload_n 0, 1, 0, 0), (.getfield 30, 3, 10, 27), (.bipush 7, 2, 0, 0), (.aload_n 0, 1, 0, 0), (.getfield 222, 3, 10, 18), (.invokevirtual 272, 3, 2, 1), (.ifCond .ne 5, 3, 38, 0), (.iconst 0, 1, 0, 0), (.ireturn, 1, 0, 0)]),
  (38, [0], [(.aload_n 0, 1, 0, 0), (.dup, 1, 0, 0), (.getfield 222, 3, 10, 18), (.iconst 1, 1, 0, 0), (.iadd, 1, 0, 0), (.putfield 222, 3, 10, 18), (.iconst 1, 1, 0, 0), (.ireturn, 1, 0, 0)])], none)
noncomputable def Mo_nodeLine (M : AM) : Option (Option Value × AM) := mD C_Mo_nodeLine [.ref 82] M
noncomputable def C_Mo_isIn : MC := (3, 3, [], [(0, [0, 1, 2], [(.iload_n 0, 1, 0, 0), (.iload_n 1, 1, 0, 0), (.if_icmp .lt 12, 3, 14, 0), (.iload_n 0, 1, 0, 0), (.iload_n 2, 1, 0, 0), (.if_icmp .gt 7, 3, 14, 0), (.iconst 1, 1, 0, 0), (.goto 4, 3, 15, 0)]),
  (14, [], [(.iconst 0, 1, 0, 0)]),
  (15, [], [(.ireturn, 1, 0, 0)])], none)
noncomputable def Mo_isIn (x0 : Int32) (x1 : Int32) (x2 : Int32) (M : AM) : Option (Option Value × AM) := mD C_Mo_isIn [.int x0, .int x1, .int x2] M
noncomputable def C_Mo_number : MC := (3, 3, [(0, 10, 2, mD C_Mo_wrong), (1, 0, 3, mD C_Mo_isIn), (0, 10, 1, mD C_Mo_token)], [(0, [0, 1, 2], [(.aload_n 0, 1, 0, 0), (.getfield 178, 3, 10, 8), (.iconst 3, 1, 0, 0), (.if_icmp .eq 9, 3, 14, 0), (.aload_n 0, 1, 0, 0), (.iconst 1, 1, 0, 0), (.invokevirtual 202, 3, 0, 1), (.ireturn, 1, 0, 0)]),
  (14, [0, 1, 2], [(.aload_n 0, 1, 0, 0), (.getfield 189, 3, 10, 9), (.iload_n 1, 1, 0, 0), (.iload_n 2, 1, 0, 0), (.invokestatic 205, 3, 1, 1), (.ifCond .ne 9, 3, 32, 0), (.aload_n 0, 1, 0, 0), (.iconst 2, 1, 0, 0), (.invokevirtual 202, 3, 0, 1), (.ireturn, 1, 0, 0)]),
  (32, [0], [(.aload_n 0, 1, 0, 0), (.aload_n 0, 1, 0, 0), (.getfield 189, 3, 10, 9), (.putfield 209, 3, 10, 11), (.aload_n 0, 1, 0, 0), (.invokevirtual 212, 3, 2, 0), (.iconst 1, 1, 0, 0), (.ireturn, 1, 0, 0)])], none)
noncomputable def Mo_number (x1 : Int32) (x2 : Int32) (M : AM) : Option (Option Value × AM) := mD C_Mo_number [.ref 82, .int x1, .int x2] M
noncomputable def C_Mo_thereIn : MC := (5, 3, [(0, 10, 2, mD C_Mo_wrong), (1, 0, 4, mD C_Mo_find), (0, 10, 1, mD C_Mo_token)], [(0, [0, 1, 2, 3], [(.aload_n 0, 1, 0, 0), (.getfield 178, 3, 10, 8), (.iconst 2, 1, 0, 0), (.if_icmp .eq 9, 3, 14, 0), (.aload_n 0, 1, 0, 0), (.iconst 1, 1, 0, 0), (.invokevirtual 202, 3, 0, 1), (.ireturn, 1, 0, 0)]),
  (14, [0, 1, 2, 3], [(.aload_n 1, 1, 0, 0), (.iload_n 2, 1, 0, 0), (.iload_n 3, 1, 0, 0), (.aload_n 0, 1, 0, 0), (.getfield 189, 3, 10, 9), (.invokestatic 268, 3, 1, 1), (.istore 4, 2, 0, 0), (.iload 4, 2, 0, 0), (.ifCond .ge 9, 3, 37, 0), (.aload_n 0, 1, 0, 0), (.iconst 4, 1, 0, 0), (.invokevirtual 202, 3, 0, 1), (.ireturn, 1, 0, 0)]),
  (37, [0, 4], [(.aload_n 0, 1, 0, 0), (.invokevirtual 212, 3, 2, 0), (.aload_n 0, 1, 0, 0), (.iload 4, 2, 0, 0), (.putfield 209, 3, 10, 11), (.iconst 1, 1, 0, 0), (.ireturn, 1, 0, 0)])], none)
noncomputable def Mo_thereIn (o1 : Nat) (x2 : Int32) (x3 : Int32) (M : AM) : Option (Option Value × AM) := mD C_Mo_thereIn [.ref 82, .ref o1, .int x2, .int x3] M
noncomputable def C_Mo_isOf : MC := (2, 3, [], [(0, [0, 1], [(.iload_n 0, 1, 0, 0), (.iload_n 1, 1, 0, 0), (.ishr, 1, 0, 0), (.iconst 1, 1, 0, 0), (.iand, 1, 0, 0), (.iconst 1, 1, 0, 0), (.if_icmp .ne 7, 3, 13, 0), (.iconst 1, 1, 0, 0), (.goto 4, 3, 14, 0)]),
  (13, [], [(.iconst 0, 1, 0, 0)]),
  (14, [], [(.ireturn, 1, 0, 0)])], none)
noncomputable def Mo_isOf (x0 : Int32) (x1 : Int32) (M : AM) : Option (Option Value × AM) := mD C_Mo_isOf [.int x0, .int x1] M
noncomputable def C_Mo_linkLine : MC := (4, 3, [(0, 10, 2, mD C_Mo_wrong), (0, 10, 1, mD C_Mo_token), (0, 10, 3, mD C_Mo_number), (0, 10, 4, mD C_Mo_thereIn), (1, 0, 2, mD C_Mo_isOf)], [(0, [0], [(.aload_n 0, 1, 0, 0), (.getfield 225, 3, 10, 19), (.bipush 8, 2, 0, 0), (.if_icmp .ne 9, 3, 15, 0), (.aload_n 0, 1, 0, 0), (.iconst 2, 1, 0, 0), (.invokevirtual 202, 3, 0, 1), (.ireturn, 1, 0, 0)]),
  (15, [0], [(.aload_n 0, 1, 0, 0), (.invokevirtual 212, 3, 1, 0), (.aload_n 0, 1, 0, 0), (.iconst 1, 1, 0, 0), (.bipush 9, 2, 0, 0), (.invokevirtual 218, 3, 2, 1), (.ifCond .ne 5, 3, 31, 0), (.iconst 0, 1, 0, 0), (.ireturn, 1, 0, 0)]),
  (31, [0], [(.bipush 8, 2, 0, 0), (.aload_n 0, 1, 0, 0), (.getfield 225, 3, 10, 19), (.iadd, 1, 0, 0), (.istore_n 1, 1, 0, 0), (.aload_n 0, 1, 0, 0), (.getfield 33, 3, 10, 28), (.iload_n 1, 1, 0, 0), (.aload_n 0, 1, 0, 0), (.getfield 209, 3, 10, 11), (.iastore, 1, 0, 0), (.aload_n 0, 1, 0, 0), (.getfield 36, 3, 10, 29), (.iload_n 1, 1, 0, 0), (.iconst 0, 1, 0, 0), (.iastore, 1, 0, 0), (.iconst 0, 1, 0, 0), (.istore_n 2, 1, 0, 0)]),
  (58, [0, 1, 2], [(.iload_n 2, 1, 0, 0), (.iconst 2, 1, 0, 0), (.if_icmp .lt 11, 3, 71, 0), (.aload_n 0, 1, 0, 0), (.getfield 178, 3, 10, 8), (.iconst 2, 1, 0, 0), (.if_icmp .ne 94, 3, 162, 0)]),
  (71, [0, 1, 2], [(.aload_n 0, 1, 0, 0), (.getfield 169, 3, 10, 10), (.istore_n 3, 1, 0, 0), (.aload_n 0, 1, 0, 0), (.getfield 178, 3, 10, 8), (.iconst 2, 1, 0, 0), (.if_icmp .ne 14, 3, 95, 0), (.iload_n 2, 1, 0, 0), (.iconst 4, 1, 0, 0), (.if_icmp .ne 9, 3, 95, 0), (.aload_n 0, 1, 0, 0), (.iconst 2, 1, 0, 0), (.invokevirtual 202, 3, 0, 1), (.ireturn, 1, 0, 0)]),
  (95, [0, 1, 2, 3], [(.aload_n 0, 1, 0, 0), (.aload_n 0, 1, 0, 0), (.getfield 30, 3, 10, 27), (.bipush 7, 2, 0, 0), (.aload_n 0, 1, 0, 0), (.getfield 222, 3, 10, 18), (.invokevirtual 276, 3, 3, 1), (.ifCond .ne 5, 3, 114, 0), (.iconst 0, 1, 0, 0), (.ireturn, 1, 0, 0)]),
  (114, [0, 1, 2, 3], [(.aload_n 0, 1, 0, 0), (.getfield 36, 3, 10, 29), (.iload_n 1, 1, 0, 0), (.iaload, 1, 0, 0), (.aload_n 0, 1, 0, 0), (.getfield 209, 3, 10, 11), (.invokestatic 279, 3, 4, 1), (.ifCond .eq 14, 3, 141, 0), (.aload_n 0, 1, 0, 0), (.iload_n 3, 1, 0, 0), (.putfield 169, 3, 10, 10), (.aload_n 0, 1, 0, 0), (.iconst 3, 1, 0, 0), (.invokevirtual 202, 3, 0, 1), (.ireturn, 1, 0, 0)]),
  (141, [0, 1, 2], [(.aload_n 0, 1, 0, 0), (.getfield 36, 3, 10, 29), (.iload_n 1, 1, 0, 0), (.dup2, 1, 0, 0), (.iaload, 1, 0, 0), (.iconst 1, 1, 0, 0), (.aload_n 0, 1, 0, 0), (.getfield 209, 3, 10, 11), (.ishl, 1, 0, 0), (.ior, 1, 0, 0), (.iastore, 1, 0, 0), (.iinc 2 1, 3, 0, 0), (.goto (-101), 3, 58, 0)]),
  (162, [0], [(.aload_n 0, 1, 0, 0), (.dup, 1, 0, 0), (.getfield 225, 3, 10, 19), (.iconst 1, 1, 0, 0), (.iadd, 1, 0, 0), (.putfield 225, 3, 10, 19), (.iconst 1, 1, 0, 0), (.ireturn, 1, 0, 0)])], none)
noncomputable def Mo_linkLine (M : AM) : Option (Option Value × AM) := mD C_Mo_linkLine [.ref 82] M
noncomputable def Mo_linkLine_58 (x1 : Int32) (x2 : Int32) (M : AM) : Option (Option Value × AM) := it C_Mo_linkLine 58 [(0, .ref 82), (1, .int x1), (2, .int x2)] [] M
noncomputable def Mo_linkLine_71 (x1 : Int32) (x2 : Int32) (M : AM) : Option (Option Value × AM) := it C_Mo_linkLine 71 [(0, .ref 82), (1, .int x1), (2, .int x2)] [] M
noncomputable def Mo_linkLine_95 (x1 : Int32) (x2 : Int32) (x3 : Int32) (M : AM) : Option (Option Value × AM) := it C_Mo_linkLine 95 [(0, .ref 82), (1, .int x1), (2, .int x2), (3, .int x3)] [] M
noncomputable def C_Mo_meetLine : MC := (1, 3, [(0, 10, 2, mD C_Mo_wrong), (0, 10, 1, mD C_Mo_token), (0, 10, 4, mD C_Mo_thereIn)], [(0, [0], [(.aload_n 0, 1, 0, 0), (.getfield 20, 3, 10, 24), (.iconst 1, 1, 0, 0), (.iaload, 1, 0, 0), (.ifCond .lt 9, 3, 15, 0), (.aload_n 0, 1, 0, 0), (.iconst 3, 1, 0, 0), (.invokevirtual 202, 3, 0, 1), (.ireturn, 1, 0, 0)]),
  (15, [0], [(.aload_n 0, 1, 0, 0), (.invokevirtual 212, 3, 1, 0), (.aload_n 0, 1, 0, 0), (.aload_n 0, 1, 0, 0), (.getfield 30, 3, 10, 27), (.bipush 7, 2, 0, 0), (.aload_n 0, 1, 0, 0), (.getfield 222, 3, 10, 18), (.invokevirtual 276, 3, 2, 1), (.ifCond .ne 5, 3, 38, 0), (.iconst 0, 1, 0, 0), (.ireturn, 1, 0, 0)]),
  (38, [0], [(.aload_n 0, 1, 0, 0), (.getfield 20, 3, 10, 24), (.iconst 1, 1, 0, 0), (.aload_n 0, 1, 0, 0), (.getfield 209, 3, 10, 11), (.iastore, 1, 0, 0), (.iconst 1, 1, 0, 0), (.ireturn, 1, 0, 0)])], none)
noncomputable def Mo_meetLine (M : AM) : Option (Option Value × AM) := mD C_Mo_meetLine [.ref 82] M
noncomputable def C_Mo_sourceLine : MC := (1, 3, [(0, 10, 2, mD C_Mo_wrong), (0, 10, 1, mD C_Mo_token), (0, 10, 4, mD C_Mo_newName), (0, 10, 4, mD C_Mo_thereIn)], [(0, [0], [(.aload_n 0, 1, 0, 0), (.getfield 228, 3, 10, 20), (.iconst 3, 1, 0, 0), (.if_icmp .ne 9, 3, 14, 0), (.aload_n 0, 1, 0, 0), (.iconst 2, 1, 0, 0), (.invokevirtual 202, 3, 0, 1), (.ireturn, 1, 0, 0)]),
  (14, [0], [(.aload_n 0, 1, 0, 0), (.invokevirtual 212, 3, 1, 0), (.aload_n 0, 1, 0, 0), (.aload_n 0, 1, 0, 0), (.getfield 39, 3, 10, 30), (.iconst 3, 1, 0, 0), (.aload_n 0, 1, 0, 0), (.getfield 228, 3, 10, 20), (.invokevirtual 272, 3, 2, 1), (.ifCond .ne 5, 3, 36, 0), (.iconst 0, 1, 0, 0), (.ireturn, 1, 0, 0)]),
  (36, [0], [(.aload_n 0, 1, 0, 0), (.aload_n 0, 1, 0, 0), (.getfield 30, 3, 10, 27), (.bipush 7, 2, 0, 0), (.aload_n 0, 1, 0, 0), (.getfield 222, 3, 10, 18), (.invokevirtual 276, 3, 3, 1), (.ifCond .ne 5, 3, 55, 0), (.iconst 0, 1, 0, 0), (.ireturn, 1, 0, 0)]),
  (55, [0], [(.aload_n 0, 1, 0, 0), (.getfield 42, 3, 10, 31), (.iconst 3, 1, 0, 0), (.aload_n 0, 1, 0, 0), (.getfield 228, 3, 10, 20), (.iadd, 1, 0, 0), (.aload_n 0, 1, 0, 0), (.getfield 209, 3, 10, 11), (.iastore, 1, 0, 0), (.aload_n 0, 1, 0, 0), (.dup, 1, 0, 0), (.getfield 228, 3, 10, 20), (.iconst 1, 1, 0, 0), (.iadd, 1, 0, 0), (.putfield 228, 3, 10, 20), (.iconst 1, 1, 0, 0), (.ireturn, 1, 0, 0)])], none)
noncomputable def Mo_sourceLine (M : AM) : Option (Option Value × AM) := mD C_Mo_sourceLine [.ref 82] M
noncomputable def C_Mo_eventLine : MC := (3, 3, [(0, 10, 2, mD C_Mo_wrong), (0, 10, 1, mD C_Mo_token), (0, 10, 4, mD C_Mo_thereIn), (0, 10, 3, mD C_Mo_number)], [(0, [0], [(.aload_n 0, 1, 0, 0), (.getfield 231, 3, 10, 21), (.bipush 16, 2, 0, 0), (.if_icmp .ne 9, 3, 15, 0), (.aload_n 0, 1, 0, 0), (.iconst 2, 1, 0, 0), (.invokevirtual 202, 3, 0, 1), (.ireturn, 1, 0, 0)]),
  (15, [0], [(.bipush 16, 2, 0, 0), (.aload_n 0, 1, 0, 0), (.getfield 231, 3, 10, 21), (.iadd, 1, 0, 0), (.istore_n 1, 1, 0, 0), (.aload_n 0, 1, 0, 0), (.getfield 45, 3, 10, 32), (.iload_n 1, 1, 0, 0), (.aload_n 0, 1, 0, 0), (.getfield 189, 3, 10, 9), (.iastore, 1, 0, 0), (.aload_n 0, 1, 0, 0), (.invokevirtual 212, 3, 1, 0), (.aload_n 0, 1, 0, 0), (.getfield 45, 3, 10, 32), (.iload_n 1, 1, 0, 0), (.iaload, 1, 0, 0), (.iconst 4, 1, 0, 0), (.if_icmp .eq 13, 3, 57, 0), (.aload_n 0, 1, 0, 0), (.getfield 45, 3, 10, 32), (.iload_n 1, 1, 0, 0), (.iaload, 1, 0, 0), (.iconst 5, 1, 0, 0), (.if_icmp .ne 22, 3, 76, 0)]),
  (57, [0, 1], [(.aload_n 0, 1, 0, 0), (.aload_n 0, 1, 0, 0), (.getfield 30, 3, 10, 27), (.bipush 7, 2, 0, 0), (.aload_n 0, 1, 0, 0), (.getfield 222, 3, 10, 18), (.invokevirtual 276, 3, 2, 1), (.ifCond .ne 44, 3, 115, 0), (.iconst 0, 1, 0, 0), (.ireturn, 1, 0, 0)]),
  (76, [0, 1], [(.aload_n 0, 1, 0, 0), (.getfield 169, 3, 10, 10), (.istore_n 2, 1, 0, 0), (.aload_n 0, 1, 0, 0), (.iconst 0, 1, 0, 0), (.bipush 7, 2, 0, 0), (.invokevirtual 218, 3, 3, 1), (.ifCond .ne 5, 3, 93, 0), (.iconst 0, 1, 0, 0), (.ireturn, 1, 0, 0)]),
  (93, [0, 1, 2], [(.aload_n 0, 1, 0, 0), (.getfield 209, 3, 10, 11), (.aload_n 0, 1, 0, 0), (.getfield 225, 3, 10, 19), (.if_icmp .lt 14, 3, 115, 0), (.aload_n 0, 1, 0, 0), (.iload_n 2, 1, 0, 0), (.putfield 169, 3, 10, 10), (.aload_n 0, 1, 0, 0), (.iconst 4, 1, 0, 0), (.invokevirtual 202, 3, 0, 1), (.ireturn, 1, 0, 0)]),
  (115, [0, 1], [(.aload_n 0, 1, 0, 0), (.getfield 48, 3, 10, 33), (.iload_n 1, 1, 0, 0), (.aload_n 0, 1, 0, 0), (.getfield 209, 3, 10, 11), (.iastore, 1, 0, 0), (.aload_n 0, 1, 0, 0), (.iconst 0, 1, 0, 0), (.bipush 99, 2, 0, 0), (.invokevirtual 218, 3, 3, 1), (.ifCond .ne 5, 3, 137, 0), (.iconst 0, 1, 0, 0), (.ireturn, 1, 0, 0)]),
  (137, [0, 1], [(.aload_n 0, 1, 0, 0), (.getfield 51, 3, 10, 34), (.iload_n 1, 1, 0, 0), (.aload_n 0, 1, 0, 0), (.getfield 209, 3, 10, 11), (.iastore, 1, 0, 0), (.aload_n 0, 1, 0, 0), (.dup, 1, 0, 0), (.getfield 231, 3, 10, 21), (.iconst 1, 1, 0, 0), (.iadd, 1, 0, 0), (.putfield 231, 3, 10, 21), (.iconst 1, 1, 0, 0), (.ireturn, 1, 0, 0)])], none)
noncomputable def Mo_eventLine (M : AM) : Option (Option Value × AM) := mD C_Mo_eventLine [.ref 82] M
noncomputable def Mo_eventLine_57 (x1 : Int32) (M : AM) : Option (Option Value × AM) := it C_Mo_eventLine 57 [(0, .ref 82), (1, .int x1)] [] M
noncomputable def Mo_eventLine_115 (x1 : Int32) (M : AM) : Option (Option Value × AM) := it C_Mo_eventLine 115 [(0, .ref 82), (1, .int x1)] [] M
noncomputable def C_Mo_sendLine : MC := (1, 3, [(0, 10, 2, mD C_Mo_wrong), (0, 10, 1, mD C_Mo_token), (0, 10, 4, mD C_Mo_thereIn), (0, 10, 3, mD C_Mo_number)], [(0, [0], [(.aload_n 0, 1, 0, 0), (.getfield 234, 3, 10, 22), (.bipush 14, 2, 0, 0), (.if_icmp .ne 9, 3, 15, 0), (.aload_n 0, 1, 0, 0), (.iconst 2, 1, 0, 0), (.invokevirtual 202, 3, 0, 1), (.ireturn, 1, 0, 0)]),
  (15, [0], [(.aload_n 0, 1, 0, 0), (.invokevirtual 212, 3, 1, 0), (.aload_n 0, 1, 0, 0), (.aload_n 0, 1, 0, 0), (.getfield 39, 3, 10, 30), (.iconst 3, 1, 0, 0), (.aload_n 0, 1, 0, 0), (.getfield 228, 3, 10, 20), (.invokevirtual 276, 3, 2, 1), (.ifCond .ne 5, 3, 37, 0), (.iconst 0, 1, 0, 0), (.ireturn, 1, 0, 0)]),
  (37, [0], [(.aload_n 0, 1, 0, 0), (.getfield 54, 3, 10, 35), (.bipush 14, 2, 0, 0), (.aload_n 0, 1, 0, 0), (.getfield 234, 3, 10, 22), (.iadd, 1, 0, 0), (.aload_n 0, 1, 0, 0), (.getfield 209, 3, 10, 11), (.iastore, 1, 0, 0), (.aload_n 0, 1, 0, 0), (.iconst 0, 1, 0, 0), (.bipush 99, 2, 0, 0), (.invokevirtual 218, 3, 3, 1), (.ifCond .ne 5, 3, 65, 0), (.iconst 0, 1, 0, 0), (.ireturn, 1, 0, 0)]),
  (65, [0], [(.aload_n 0, 1, 0, 0), (.getfield 57, 3, 10, 36), (.bipush 14, 2, 0, 0), (.aload_n 0, 1, 0, 0), (.getfield 234, 3, 10, 22), (.iadd, 1, 0, 0), (.aload_n 0, 1, 0, 0), (.getfield 209, 3, 10, 11), (.iastore, 1, 0, 0), (.aload_n 0, 1, 0, 0), (.dup, 1, 0, 0), (.getfield 234, 3, 10, 22), (.iconst 1, 1, 0, 0), (.iadd, 1, 0, 0), (.putfield 234, 3, 10, 22), (.iconst 1, 1, 0, 0), (.ireturn, 1, 0, 0)])], none)
noncomputable def Mo_sendLine (M : AM) : Option (Option Value × AM) := mD C_Mo_sendLine [.ref 82] M
noncomputable def C_Mo_onceLine : MC := (4, 3, [(0, 10, 2, mD C_Mo_wrong), (0, 10, 1, mD C_Mo_token), (0, 10, 3, mD C_Mo_number)], [(0, [0, 1, 2, 3], [(.aload_n 0, 1, 0, 0), (.getfield 23, 3, 10, 25), (.iload_n 1, 1, 0, 0), (.baload, 1, 0, 0), (.ifCond .eq 9, 3, 15, 0), (.aload_n 0, 1, 0, 0), (.iconst 3, 1, 0, 0), (.invokevirtual 202, 3, 0, 1), (.ireturn, 1, 0, 0)]),
  (15, [0, 1, 2, 3], [(.aload_n 0, 1, 0, 0), (.getfield 23, 3, 10, 25), (.iload_n 1, 1, 0, 0), (.iconst 1, 1, 0, 0), (.bastore, 1, 0, 0), (.aload_n 0, 1, 0, 0), (.invokevirtual 212, 3, 1, 0), (.aload_n 0, 1, 0, 0), (.iload_n 2, 1, 0, 0), (.iload_n 3, 1, 0, 0), (.invokevirtual 218, 3, 2, 1), (.ifCond .ne 5, 3, 37, 0), (.iconst 0, 1, 0, 0), (.ireturn, 1, 0, 0)]),
  (37, [0, 1], [(.aload_n 0, 1, 0, 0), (.getfield 27, 3, 10, 26), (.iconst 3, 1, 0, 0), (.iload_n 1, 1, 0, 0), (.iadd, 1, 0, 0), (.aload_n 0, 1, 0, 0), (.getfield 209, 3, 10, 11), (.iastore, 1, 0, 0), (.iconst 1, 1, 0, 0), (.ireturn, 1, 0, 0)])], none)
noncomputable def Mo_onceLine (x1 : Int32) (x2 : Int32) (x3 : Int32) (M : AM) : Option (Option Value × AM) := mD C_Mo_onceLine [.ref 82, .int x1, .int x2, .int x3] M
noncomputable def C_Mo_isSign : MC := (2, 3, [], [(0, [0, 1], [(.aload_n 0, 1, 0, 0), (.getfield 178, 3, 10, 8), (.iconst 4, 1, 0, 0), (.if_icmp .ne 15, 3, 20, 0), (.aload_n 0, 1, 0, 0), (.getfield 189, 3, 10, 9), (.iload_n 1, 1, 0, 0), (.if_icmp .ne 7, 3, 20, 0), (.iconst 1, 1, 0, 0), (.goto 4, 3, 21, 0)]),
  (20, [], [(.iconst 0, 1, 0, 0)]),
  (21, [], [(.ireturn, 1, 0, 0)])], none)
noncomputable def Mo_isSign (x1 : Int32) (M : AM) : Option (Option Value × AM) := mD C_Mo_isSign [.ref 82, .int x1] M
noncomputable def C_Mo_waitsFor : MC := (2, 0, [], [(0, [0, 1], [(.aload_n 0, 1, 0, 0), (.getfield 78, 3, 10, 43), (.aload_n 0, 1, 0, 0), (.getfield 313, 3, 10, 45), (.iload_n 1, 1, 0, 0), (.iastore, 1, 0, 0), (.aload_n 0, 1, 0, 0), (.dup, 1, 0, 0), (.getfield 313, 3, 10, 45), (.iconst 1, 1, 0, 0), (.iadd, 1, 0, 0), (.putfield 313, 3, 10, 45), (.return_, 1, 0, 0)])], none)
noncomputable def Mo_waitsFor (x1 : Int32) (M : AM) : Option (Option Value × AM) := mD C_Mo_waitsFor [.ref 82, .int x1] M
noncomputable def C_Mo_isKey : MC := (2, 3, [], [(0, [0, 1], [(.aload_n 0, 1, 0, 0), (.getfield 178, 3, 10, 8), (.iconst 1, 1, 0, 0), (.if_icmp .ne 15, 3, 20, 0), (.aload_n 0, 1, 0, 0), (.getfield 189, 3, 10, 9), (.iload_n 1, 1, 0, 0), (.if_icmp .ne 7, 3, 20, 0), (.iconst 1, 1, 0, 0), (.goto 4, 3, 21, 0)]),
  (20, [], [(.iconst 0, 1, 0, 0)]),
  (21, [], [(.ireturn, 1, 0, 0)])], none)
noncomputable def Mo_isKey (x1 : Int32) (M : AM) : Option (Option Value × AM) := mD C_Mo_isKey [.ref 82, .int x1] M
noncomputable def C_Mo_isCounted : MC := (1, 3, [(0, 10, 2, mD C_Mo_wrong)], [(0, [0], [(.aload_n 0, 1, 0, 0), (.getfield 240, 3, 10, 48), (.bipush 64, 2, 0, 0), (.if_icmp .ne 9, 3, 15, 0), (.aload_n 0, 1, 0, 0), (.iconst 2, 1, 0, 0), (.invokevirtual 202, 3, 0, 1), (.ireturn, 1, 0, 0)]),
  (15, [0], [(.aload_n 0, 1, 0, 0), (.dup, 1, 0, 0), (.getfield 240, 3, 10, 48), (.iconst 1, 1, 0, 0), (.iadd, 1, 0, 0), (.putfield 240, 3, 10, 48), (.iconst 1, 1, 0, 0), (.ireturn, 1, 0, 0)])], none)
noncomputable def Mo_isCounted (M : AM) : Option (Option Value × AM) := mD C_Mo_isCounted [.ref 82] M
noncomputable def C_Mo_nameMet : MC := (1, 1, [], [(0, [0], [(.aload_n 0, 1, 0, 0), (.getfield 178, 3, 10, 8), (.iconst 1, 1, 0, 0), (.if_icmp .ne 22, 3, 27, 0), (.aload_n 0, 1, 0, 0), (.getfield 189, 3, 10, 9), (.bipush 19, 2, 0, 0), (.if_icmp .lt 13, 3, 27, 0), (.aload_n 0, 1, 0, 0), (.getfield 189, 3, 10, 9), (.bipush 19, 2, 0, 0), (.isub, 1, 0, 0), (.goto 4, 3, 28, 0)]),
  (27, [], [(.iconst (-1), 1, 0, 0)]),
  (28, [], [(.ireturn, 1, 0, 0)])], none)
noncomputable def Mo_nameMet (M : AM) : Option (Option Value × AM) := mD C_Mo_nameMet [.ref 82] M
noncomputable def C_Mo_grown : MC := (4, 0, [], [(0, [0, 1, 2, 3], [(.aload_n 0, 1, 0, 0), (.getfield 69, 3, 10, 40), (.bipush 64, 2, 0, 0), (.aload_n 0, 1, 0, 0), (.getfield 237, 3, 10, 23), (.iadd, 1, 0, 0), (.iload_n 1, 1, 0, 0), (.iastore, 1, 0, 0), (.aload_n 0, 1, 0, 0), (.getfield 72, 3, 10, 41), (.bipush 64, 2, 0, 0), (.aload_n 0, 1, 0, 0), (.getfield 237, 3, 10, 23), (.iadd, 1, 0, 0), (.iload_n 2, 1, 0, 0), (.iastore, 1, 0, 0), (.aload_n 0, 1, 0, 0), (.getfield 75, 3, 10, 42), (.bipush 64, 2, 0, 0), (.aload_n 0, 1, 0, 0), (.getfield 237, 3, 10, 23), (.iadd, 1, 0, 0), (.iload_n 3, 1, 0, 0), (.iastore, 1, 0, 0), (.aload_n 0, 1, 0, 0), (.getfield 81, 3, 10, 44), (.aload_n 0, 1, 0, 0), (.getfield 310, 3, 10, 46), (.aload_n 0, 1, 0, 0), (.getfield 237, 3, 10, 23), (.iastore, 1, 0, 0), (.aload_n 0, 1, 0, 0), (.dup, 1, 0, 0), (.getfield 310, 3, 10, 46), (.iconst 1, 1, 0, 0), (.iadd, 1, 0, 0), (.putfield 310, 3, 10, 46), (.aload_n 0, 1, 0, 0), (.dup, 1, 0, 0), (.getfield 237, 3, 10, 23), (.iconst 1, 1, 0, 0), (.iadd, 1, 0, 0), (.putfield 237, 3, 10, 23), (.return_, 1, 0, 0)])], none)
noncomputable def Mo_grown (x1 : Int32) (x2 : Int32) (x3 : Int32) (M : AM) : Option (Option Value × AM) := mD C_Mo_grown [.ref 82, .int x1, .int x2, .int x3] M
noncomputable def C_Mo_leafRead : MC := (2, 3, [(0, 10, 2, mD C_Mo_isSign), (0, 10, 2, mD C_Mo_wrong), (0, 10, 2, mD C_Mo_waitsFor), (0, 10, 1, mD C_Mo_token), (0, 10, 2, mD C_Mo_isKey), (0, 10, 1, mD C_Mo_isCounted), (0, 10, 1, mD C_Mo_nameMet), (0, 10, 4, mD C_Mo_grown)], [(0, [0], [(.aload_n 0, 1, 0, 0), (.bipush 40, 2, 0, 0), (.invokevirtual 215, 3, 0, 1), (.ifCond .eq 44, 3, 50, 0), (.aload_n 0, 1, 0, 0), (.getfield 328, 3, 10, 47), (.bipush 8, 2, 0, 0), (.if_icmp .ne 9, 3, 24, 0), (.aload_n 0, 1, 0, 0), (.iconst 2, 1, 0, 0), (.invokevirtual 202, 3, 1, 1), (.ireturn, 1, 0, 0)]),
  (24, [0], [(.aload_n 0, 1, 0, 0), (.dup, 1, 0, 0), (.getfield 328, 3, 10, 47), (.iconst 1, 1, 0, 0), (.iadd, 1, 0, 0), (.putfield 328, 3, 10, 47), (.aload_n 0, 1, 0, 0), (.iconst 0, 1, 0, 0), (.invokevirtual 331, 3, 2, 0), (.aload_n 0, 1, 0, 0), (.iconst 1, 1, 0, 0), (.putfield 335, 3, 10, 50), (.aload_n 0, 1, 0, 0), (.invokevirtual 212, 3, 3, 0), (.iconst 1, 1, 0, 0), (.ireturn, 1, 0, 0)]),
  (50, [0], [(.aload_n 0, 1, 0, 0), (.bipush 18, 2, 0, 0), (.invokevirtual 339, 3, 4, 1), (.ifCond .eq 30, 3, 86, 0), (.aload_n 0, 1, 0, 0), (.getfield 335, 3, 10, 50), (.ifCond .eq 23, 3, 86, 0), (.aload_n 0, 1, 0, 0), (.invokevirtual 342, 3, 5, 1), (.ifCond .ne 5, 3, 75, 0), (.iconst 0, 1, 0, 0), (.ireturn, 1, 0, 0)]),
  (75, [0], [(.aload_n 0, 1, 0, 0), (.iconst 2, 1, 0, 0), (.invokevirtual 331, 3, 2, 0), (.aload_n 0, 1, 0, 0), (.invokevirtual 212, 3, 3, 0), (.iconst 1, 1, 0, 0), (.ireturn, 1, 0, 0)]),
  (86, [0], [(.aload_n 0, 1, 0, 0), (.invokevirtual 345, 3, 6, 1), (.istore_n 1, 1, 0, 0), (.iload_n 1, 1, 0, 0), (.ifCond .ge 17, 3, 109, 0), (.aload_n 0, 1, 0, 0), (.getfield 178, 3, 10, 8), (.iconst 3, 1, 0, 0), (.if_icmp .eq 9, 3, 109, 0), (.aload_n 0, 1, 0, 0), (.iconst 1, 1, 0, 0), (.invokevirtual 202, 3, 1, 1), (.ireturn, 1, 0, 0)]),
  (109, [0, 1], [(.iload_n 1, 1, 0, 0), (.ifCond .ge 19, 3, 129, 0), (.aload_n 0, 1, 0, 0), (.getfield 189, 3, 10, 9), (.sipush 9999, 3, 0, 0), (.if_icmp .le 9, 3, 129, 0), (.aload_n 0, 1, 0, 0), (.iconst 2, 1, 0, 0), (.invokevirtual 202, 3, 1, 1), (.ireturn, 1, 0, 0)]),
  (129, [0, 1], [(.aload_n 0, 1, 0, 0), (.invokevirtual 342, 3, 5, 1), (.ifCond .ne 5, 3, 138, 0), (.iconst 0, 1, 0, 0), (.ireturn, 1, 0, 0)]),
  (138, [0, 1], [(.aload_n 0, 1, 0, 0), (.iload_n 1, 1, 0, 0), (.ifCond .lt 7, 3, 147, 0), (.iconst 1, 1, 0, 0), (.goto 4, 3, 148, 0)]),
  (147, [0, 1], [(.iconst 0, 1, 0, 0)]),
  (148, [0, 1], [(.iload_n 1, 1, 0, 0), (.ifCond .lt 7, 3, 156, 0), (.iload_n 1, 1, 0, 0), (.goto 7, 3, 160, 0)]),
  (156, [0], [(.aload_n 0, 1, 0, 0), (.getfield 189, 3, 10, 9)]),
  (160, [0], [(.iconst 0, 1, 0, 0), (.invokevirtual 324, 3, 7, 0), (.aload_n 0, 1, 0, 0), (.iconst 0, 1, 0, 0), (.putfield 348, 3, 10, 49), (.aload_n 0, 1, 0, 0), (.invokevirtual 212, 3, 3, 0), (.iconst 1, 1, 0, 0), (.ireturn, 1, 0, 0)])], none)
noncomputable def Mo_leafRead (M : AM) : Option (Option Value × AM) := mD C_Mo_leafRead [.ref 82] M
noncomputable def Mo_leafRead_86 (M : AM) : Option (Option Value × AM) := it C_Mo_leafRead 86 [(0, .ref 82)] [] M
noncomputable def Mo_leafRead_109 (x1 : Int32) (M : AM) : Option (Option Value × AM) := it C_Mo_leafRead 109 [(0, .ref 82), (1, .int x1)] [] M
noncomputable def Mo_leafRead_129 (x1 : Int32) (M : AM) : Option (Option Value × AM) := it C_Mo_leafRead 129 [(0, .ref 82), (1, .int x1)] [] M
noncomputable def Mo_leafRead_160 (z1 : Int32) (z2 : Int32) (M : AM) : Option (Option Value × AM) := it C_Mo_leafRead 160 [(0, .ref 82)] [.int z2, .int z1, .ref 82] M
noncomputable def C_Mo_standing : MC := (1, 1, [], [(0, [0], [(.iload_n 0, 1, 0, 0), (.bipush 13, 2, 0, 0), (.if_icmp .lt 8, 3, 11, 0), (.bipush 6, 2, 0, 0), (.goto 50, 3, 58, 0)]),
  (11, [0], [(.iload_n 0, 1, 0, 0), (.bipush 11, 2, 0, 0), (.if_icmp .lt 7, 3, 21, 0), (.iconst 5, 1, 0, 0), (.goto 40, 3, 58, 0)]),
  (21, [0], [(.iload_n 0, 1, 0, 0), (.iconst 5, 1, 0, 0), (.if_icmp .lt 7, 3, 30, 0), (.iconst 4, 1, 0, 0), (.goto 31, 3, 58, 0)]),
  (30, [0], [(.iload_n 0, 1, 0, 0), (.iconst 2, 1, 0, 0), (.if_icmp .ne 7, 3, 39, 0), (.iconst 3, 1, 0, 0), (.goto 22, 3, 58, 0)]),
  (39, [0], [(.iload_n 0, 1, 0, 0), (.iconst 3, 1, 0, 0), (.if_icmp .ne 7, 3, 48, 0), (.iconst 2, 1, 0, 0), (.goto 13, 3, 58, 0)]),
  (48, [0], [(.iload_n 0, 1, 0, 0), (.iconst 4, 1, 0, 0), (.if_icmp .ne 7, 3, 57, 0), (.iconst 1, 1, 0, 0), (.goto 4, 3, 58, 0)]),
  (57, [], [(.iconst 0, 1, 0, 0)]),
  (58, [], [(.ireturn, 1, 0, 0)])], none)
noncomputable def Mo_standing (x0 : Int32) (M : AM) : Option (Option Value × AM) := mD C_Mo_standing [.int x0] M
noncomputable def C_Mo_dropHeld : MC := (1, 1, [], [(0, [0], [(.aload_n 0, 1, 0, 0), (.dup, 1, 0, 0), (.getfield 310, 3, 10, 46), (.iconst 1, 1, 0, 0), (.isub, 1, 0, 0), (.putfield 310, 3, 10, 46), (.aload_n 0, 1, 0, 0), (.getfield 81, 3, 10, 44), (.aload_n 0, 1, 0, 0), (.getfield 310, 3, 10, 46), (.iaload, 1, 0, 0), (.ireturn, 1, 0, 0)])], none)
noncomputable def Mo_dropHeld (M : AM) : Option (Option Value × AM) := mD C_Mo_dropHeld [.ref 82] M
noncomputable def C_Mo_bind : MC := (5, 0, [(1, 0, 1, mD C_Mo_standing), (0, 10, 1, mD C_Mo_dropHeld), (0, 10, 4, mD C_Mo_grown)], [(0, [0, 1], [(.aload_n 0, 1, 0, 0), (.getfield 313, 3, 10, 45), (.ifCond .le 72, 3, 76, 0), (.aload_n 0, 1, 0, 0), (.getfield 78, 3, 10, 43), (.aload_n 0, 1, 0, 0), (.getfield 313, 3, 10, 45), (.iconst 1, 1, 0, 0), (.isub, 1, 0, 0), (.iaload, 1, 0, 0), (.invokestatic 316, 3, 0, 1), (.iload_n 1, 1, 0, 0), (.if_icmp .lt 54, 3, 76, 0), (.aload_n 0, 1, 0, 0), (.dup, 1, 0, 0), (.getfield 313, 3, 10, 45), (.iconst 1, 1, 0, 0), (.isub, 1, 0, 0), (.putfield 313, 3, 10, 45), (.aload_n 0, 1, 0, 0), (.getfield 78, 3, 10, 43), (.aload_n 0, 1, 0, 0), (.getfield 313, 3, 10, 45), (.iaload, 1, 0, 0), (.istore_n 2, 1, 0, 0), (.iload_n 2, 1, 0, 0), (.iconst 2, 1, 0, 0), (.if_icmp .ne 7, 3, 54, 0), (.iconst (-1), 1, 0, 0), (.goto 7, 3, 58, 0)]),
  (54, [0, 1, 2], [(.aload_n 0, 1, 0, 0), (.invokevirtual 320, 3, 1, 1)]),
  (58, [0, 1, 2], [(.istore_n 3, 1, 0, 0), (.aload_n 0, 1, 0, 0), (.invokevirtual 320, 3, 1, 1), (.istore 4, 2, 0, 0), (.aload_n 0, 1, 0, 0), (.iload_n 2, 1, 0, 0), (.iload 4, 2, 0, 0), (.iload_n 3, 1, 0, 0), (.invokevirtual 324, 3, 2, 0), (.goto (-73), 3, 0, 0)]),
  (76, [], [(.return_, 1, 0, 0)])], none)
noncomputable def Mo_bind (x1 : Int32) (M : AM) : Option (Option Value × AM) := mD C_Mo_bind [.ref 82, .int x1] M
noncomputable def Mo_bind_58 (x1 : Int32) (x2 : Int32) (z0 : Int32) (M : AM) : Option (Option Value × AM) := it C_Mo_bind 58 [(0, .ref 82), (1, .int x1), (2, .int x2)] [.int z0] M
noncomputable def Mo_bind_0 (x1 : Int32) (M : AM) : Option (Option Value × AM) := it C_Mo_bind 0 [(0, .ref 82), (1, .int x1)] [] M
noncomputable def C_Mo_signs : MC := (2, 3, [(0, 10, 2, mD C_Mo_isSign), (0, 10, 2, mD C_Mo_bind), (0, 10, 1, mD C_Mo_token), (0, 10, 2, mD C_Mo_isKey), (0, 10, 2, mD C_Mo_wrong), (1, 0, 1, mD C_Mo_standing), (0, 10, 1, mD C_Mo_isCounted), (0, 10, 2, mD C_Mo_waitsFor)], [(0, [0], [(.aload_n 0, 1, 0, 0), (.bipush 41, 2, 0, 0), (.invokevirtual 215, 3, 0, 1), (.ifCond .eq 41, 3, 47, 0), (.aload_n 0, 1, 0, 0), (.getfield 328, 3, 10, 47), (.ifCond .le 34, 3, 47, 0), (.aload_n 0, 1, 0, 0), (.iconst 1, 1, 0, 0), (.invokevirtual 351, 3, 1, 0), (.aload_n 0, 1, 0, 0), (.dup, 1, 0, 0), (.getfield 313, 3, 10, 45), (.iconst 1, 1, 0, 0), (.isub, 1, 0, 0), (.putfield 313, 3, 10, 45), (.aload_n 0, 1, 0, 0), (.dup, 1, 0, 0), (.getfield 328, 3, 10, 47), (.iconst 1, 1, 0, 0), (.isub, 1, 0, 0), (.putfield 328, 3, 10, 47), (.aload_n 0, 1, 0, 0), (.invokevirtual 212, 3, 2, 0), (.iconst 1, 1, 0, 0), (.ireturn, 1, 0, 0)]),
  (47, [0], [(.aload_n 0, 1, 0, 0), (.bipush 16, 2, 0, 0), (.invokevirtual 339, 3, 3, 1), (.ifCond .eq 7, 3, 60, 0), (.iconst 3, 1, 0, 0), (.goto 90, 3, 147, 0)]),
  (60, [0], [(.aload_n 0, 1, 0, 0), (.bipush 17, 2, 0, 0), (.invokevirtual 339, 3, 3, 1), (.ifCond .eq 7, 3, 73, 0), (.iconst 4, 1, 0, 0), (.goto 77, 3, 147, 0)]),
  (73, [0], [(.aload_n 0, 1, 0, 0), (.getfield 178, 3, 10, 8), (.iconst 5, 1, 0, 0), (.if_icmp .ne 12, 3, 90, 0), (.iconst 5, 1, 0, 0), (.aload_n 0, 1, 0, 0), (.getfield 189, 3, 10, 9), (.iadd, 1, 0, 0), (.goto 60, 3, 147, 0)]),
  (90, [0], [(.aload_n 0, 1, 0, 0), (.bipush 43, 2, 0, 0), (.invokevirtual 215, 3, 0, 1), (.ifCond .eq 8, 3, 104, 0), (.bipush 11, 2, 0, 0), (.goto 46, 3, 147, 0)]),
  (104, [0], [(.aload_n 0, 1, 0, 0), (.bipush 45, 2, 0, 0), (.invokevirtual 215, 3, 0, 1), (.ifCond .eq 8, 3, 118, 0), (.bipush 12, 2, 0, 0), (.goto 32, 3, 147, 0)]),
  (118, [0], [(.aload_n 0, 1, 0, 0), (.bipush 42, 2, 0, 0), (.invokevirtual 215, 3, 0, 1), (.ifCond .eq 8, 3, 132, 0), (.bipush 13, 2, 0, 0), (.goto 18, 3, 147, 0)]),
  (132, [0], [(.aload_n 0, 1, 0, 0), (.bipush 47, 2, 0, 0), (.invokevirtual 215, 3, 0, 1), (.ifCond .eq 8, 3, 146, 0), (.bipush 14, 2, 0, 0), (.goto 4, 3, 147, 0)]),
  (146, [0], [(.iconst 0, 1, 0, 0)]),
  (147, [0], [(.istore_n 1, 1, 0, 0), (.iload_n 1, 1, 0, 0), (.ifCond .ne 9, 3, 158, 0), (.aload_n 0, 1, 0, 0), (.iconst 1, 1, 0, 0), (.invokevirtual 202, 3, 4, 1), (.ireturn, 1, 0, 0)]),
  (158, [0, 1], [(.aload_n 0, 1, 0, 0), (.iload_n 1, 1, 0, 0), (.invokestatic 316, 3, 5, 1), (.iconst 4, 1, 0, 0), (.if_icmp .ne 7, 3, 171, 0), (.iconst 5, 1, 0, 0), (.goto 7, 3, 175, 0)]),
  (171, [0, 1], [(.iload_n 1, 1, 0, 0), (.invokestatic 316, 3, 5, 1)]),
  (175, [0, 1], [(.invokevirtual 351, 3, 1, 0), (.iload_n 1, 1, 0, 0), (.invokestatic 316, 3, 5, 1), (.iconst 4, 1, 0, 0), (.if_icmp .ne 34, 3, 217, 0), (.aload_n 0, 1, 0, 0), (.getfield 313, 3, 10, 45), (.ifCond .le 27, 3, 217, 0), (.aload_n 0, 1, 0, 0), (.getfield 78, 3, 10, 43), (.aload_n 0, 1, 0, 0), (.getfield 313, 3, 10, 45), (.iconst 1, 1, 0, 0), (.isub, 1, 0, 0), (.iaload, 1, 0, 0), (.invokestatic 316, 3, 5, 1), (.iconst 4, 1, 0, 0), (.if_icmp .ne 9, 3, 217, 0), (.aload_n 0, 1, 0, 0), (.iconst 1, 1, 0, 0), (.invokevirtual 202, 3, 4, 1), (.ireturn, 1, 0, 0)]),
  (217, [0, 1], [(.aload_n 0, 1, 0, 0), (.invokevirtual 342, 3, 6, 1), (.ifCond .ne 5, 3, 226, 0), (.iconst 0, 1, 0, 0), (.ireturn, 1, 0, 0)]),
  (226, [0, 1], [(.aload_n 0, 1, 0, 0), (.iload_n 1, 1, 0, 0), (.invokevirtual 331, 3, 7, 0), (.aload_n 0, 1, 0, 0), (.iconst 1, 1, 0, 0), (.putfield 348, 3, 10, 49), (.aload_n 0, 1, 0, 0), (.iload_n 1, 1, 0, 0), (.invokestatic 316, 3, 5, 1), (.iconst 3, 1, 0, 0), (.if_icmp .ge 7, 3, 249, 0), (.iconst 1, 1, 0, 0), (.goto 4, 3, 250, 0)]),
  (249, [0], [(.iconst 0, 1, 0, 0)]),
  (250, [0], [(.putfield 335, 3, 10, 50), (.aload_n 0, 1, 0, 0), (.invokevirtual 212, 3, 2, 0), (.iconst 1, 1, 0, 0), (.ireturn, 1, 0, 0)])], none)
noncomputable def Mo_signs (M : AM) : Option (Option Value × AM) := mD C_Mo_signs [.ref 82] M
noncomputable def Mo_signs_47 (M : AM) : Option (Option Value × AM) := it C_Mo_signs 47 [(0, .ref 82)] [] M
noncomputable def Mo_signs_147 (z0 : Int32) (M : AM) : Option (Option Value × AM) := it C_Mo_signs 147 [(0, .ref 82)] [.int z0] M
noncomputable def Mo_signs_175 (x1 : Int32) (z1 : Int32) (M : AM) : Option (Option Value × AM) := it C_Mo_signs 175 [(0, .ref 82), (1, .int x1)] [.int z1, .ref 82] M
noncomputable def Mo_signs_217 (x1 : Int32) (M : AM) : Option (Option Value × AM) := it C_Mo_signs 217 [(0, .ref 82), (1, .int x1)] [] M
noncomputable def C_Mo_sumRead : MC := (1, 3, [(0, 10, 2, mD C_Mo_isSign), (0, 10, 1, mD C_Mo_leafRead), (0, 10, 1, mD C_Mo_signs), (0, 10, 2, mD C_Mo_bind)], [(0, [0], [(.aload_n 0, 1, 0, 0), (.iconst 0, 1, 0, 0), (.putfield 313, 3, 10, 45), (.aload_n 0, 1, 0, 0), (.iconst 0, 1, 0, 0), (.putfield 310, 3, 10, 46), (.aload_n 0, 1, 0, 0), (.iconst 0, 1, 0, 0), (.putfield 328, 3, 10, 47), (.aload_n 0, 1, 0, 0), (.iconst 1, 1, 0, 0), (.putfield 348, 3, 10, 49), (.aload_n 0, 1, 0, 0), (.iconst 1, 1, 0, 0), (.putfield 335, 3, 10, 50)]),
  (25, [0], [(.aload_n 0, 1, 0, 0), (.bipush 59, 2, 0, 0), (.invokevirtual 215, 3, 0, 1), (.ifCond .eq 17, 3, 48, 0), (.aload_n 0, 1, 0, 0), (.getfield 348, 3, 10, 49), (.ifCond .ne 10, 3, 48, 0), (.aload_n 0, 1, 0, 0), (.getfield 328, 3, 10, 47), (.ifCond .le 29, 3, 74, 0)]),
  (48, [0], [(.aload_n 0, 1, 0, 0), (.getfield 348, 3, 10, 49), (.ifCond .eq 13, 3, 65, 0), (.aload_n 0, 1, 0, 0), (.invokevirtual 354, 3, 1, 1), (.ifCond .eq 13, 3, 72, 0), (.goto (-37), 3, 25, 0)]),
  (65, [0], [(.aload_n 0, 1, 0, 0), (.invokevirtual 357, 3, 2, 1), (.ifCond .ne (-44), 3, 25, 0)]),
  (72, [], [(.iconst 0, 1, 0, 0), (.ireturn, 1, 0, 0)]),
  (74, [0], [(.aload_n 0, 1, 0, 0), (.iconst 1, 1, 0, 0), (.invokevirtual 351, 3, 3, 0), (.iconst 1, 1, 0, 0), (.ireturn, 1, 0, 0)])], none)
noncomputable def Mo_sumRead (M : AM) : Option (Option Value × AM) := mD C_Mo_sumRead [.ref 82] M
noncomputable def Mo_sumRead_25 (M : AM) : Option (Option Value × AM) := it C_Mo_sumRead 25 [(0, .ref 82)] [] M
noncomputable def Mo_sumRead_48 (M : AM) : Option (Option Value × AM) := it C_Mo_sumRead 48 [(0, .ref 82)] [] M
noncomputable def C_Mo_lineRead : MC := (3, 3, [(0, 10, 2, mD C_Mo_wrong), (0, 10, 1, mD C_Mo_nodeLine), (0, 10, 1, mD C_Mo_linkLine), (0, 10, 1, mD C_Mo_meetLine), (0, 10, 1, mD C_Mo_sourceLine), (0, 10, 1, mD C_Mo_eventLine), (0, 10, 1, mD C_Mo_sendLine), (0, 10, 4, mD C_Mo_onceLine), (0, 10, 1, mD C_Mo_token), (0, 10, 1, mD C_Mo_sumRead), (0, 10, 2, mD C_Mo_isSign)], [(0, [0], [(.aload_n 0, 1, 0, 0), (.getfield 178, 3, 10, 8), (.iconst 1, 1, 0, 0), (.if_icmp .ne 12, 3, 17, 0), (.aload_n 0, 1, 0, 0), (.getfield 189, 3, 10, 9), (.bipush 12, 2, 0, 0), (.if_icmp .le 9, 3, 23, 0)]),
  (17, [0], [(.aload_n 0, 1, 0, 0), (.iconst 1, 1, 0, 0), (.invokevirtual 202, 3, 0, 1), (.ireturn, 1, 0, 0)]),
  (23, [0], [(.aload_n 0, 1, 0, 0), (.getfield 189, 3, 10, 9), (.tableswitch 145 0 11 #[61, 69, 77, 85, 93, 93, 93, 93, 101, 109, 121, 133], 61, 0, 0)]),
  (88, [0], [(.aload_n 0, 1, 0, 0), (.invokevirtual 282, 3, 1, 1), (.istore_n 1, 1, 0, 0), (.goto 176, 3, 269, 0)]),
  (96, [0], [(.aload_n 0, 1, 0, 0), (.invokevirtual 286, 3, 2, 1), (.istore_n 1, 1, 0, 0), (.goto 168, 3, 269, 0)]),
  (104, [0], [(.aload_n 0, 1, 0, 0), (.invokevirtual 289, 3, 3, 1), (.istore_n 1, 1, 0, 0), (.goto 160, 3, 269, 0)]),
  (112, [0], [(.aload_n 0, 1, 0, 0), (.invokevirtual 292, 3, 4, 1), (.istore_n 1, 1, 0, 0), (.goto 152, 3, 269, 0)]),
  (120, [0], [(.aload_n 0, 1, 0, 0), (.invokevirtual 295, 3, 5, 1), (.istore_n 1, 1, 0, 0), (.goto 144, 3, 269, 0)]),
  (128, [0], [(.aload_n 0, 1, 0, 0), (.invokevirtual 298, 3, 6, 1), (.istore_n 1, 1, 0, 0), (.goto 136, 3, 269, 0)]),
  (136, [0], [(.aload_n 0, 1, 0, 0), (.iconst 0, 1, 0, 0), (.iconst 1, 1, 0, 0), (.bipush 20, 2, 0, 0), (.invokevirtual 301, 3, 7, 1), (.istore_n 1, 1, 0, 0), (.goto 124, 3, 269, 0)]),
  (148, [0], [(.aload_n 0, 1, 0, 0), (.iconst 1, 1, 0, 0), (.iconst 0, 1, 0, 0), (.bipush 100, 2, 0, 0), (.invokevirtual 301, 3, 7, 1), (.istore_n 1, 1, 0, 0), (.goto 112, 3, 269, 0)]),
  (160, [0], [(.aload_n 0, 1, 0, 0), (.iconst 2, 1, 0, 0), (.iconst 0, 1, 0, 0), (.ldc 198, 2, 99999, 0), (.invokevirtual 301, 3, 7, 1), (.istore_n 1, 1, 0, 0), (.goto 100, 3, 269, 0)]),
  (172, [0], [(.aload_n 0, 1, 0, 0), (.invokevirtual 212, 3, 8, 0), (.aload_n 0, 1, 0, 0), (.getfield 178, 3, 10, 8), (.iconst 1, 1, 0, 0), (.if_icmp .ne 21, 3, 202, 0), (.aload_n 0, 1, 0, 0), (.getfield 189, 3, 10, 9), (.bipush 13, 2, 0, 0), (.if_icmp .lt 12, 3, 202, 0), (.aload_n 0, 1, 0, 0), (.getfield 189, 3, 10, 9), (.bipush 15, 2, 0, 0), (.if_icmp .le 9, 3, 208, 0)]),
  (202, [0], [(.aload_n 0, 1, 0, 0), (.iconst 1, 1, 0, 0), (.invokevirtual 202, 3, 0, 1), (.ireturn, 1, 0, 0)]),
  (208, [0], [(.iconst 3, 1, 0, 0), (.aload_n 0, 1, 0, 0), (.getfield 189, 3, 10, 9), (.iadd, 1, 0, 0), (.bipush 13, 2, 0, 0), (.isub, 1, 0, 0), (.istore_n 2, 1, 0, 0), (.aload_n 0, 1, 0, 0), (.getfield 60, 3, 10, 37), (.iload_n 2, 1, 0, 0), (.baload, 1, 0, 0), (.ifCond .eq 9, 3, 233, 0), (.aload_n 0, 1, 0, 0), (.iconst 3, 1, 0, 0), (.invokevirtual 202, 3, 0, 1), (.ireturn, 1, 0, 0)]),
  (233, [0, 2], [(.aload_n 0, 1, 0, 0), (.getfield 60, 3, 10, 37), (.iload_n 2, 1, 0, 0), (.iconst 1, 1, 0, 0), (.bastore, 1, 0, 0), (.aload_n 0, 1, 0, 0), (.invokevirtual 212, 3, 8, 0), (.aload_n 0, 1, 0, 0), (.getfield 63, 3, 10, 38), (.iload_n 2, 1, 0, 0), (.aload_n 0, 1, 0, 0), (.getfield 237, 3, 10, 23), (.iastore, 1, 0, 0), (.aload_n 0, 1, 0, 0), (.invokevirtual 304, 3, 9, 1), (.istore_n 1, 1, 0, 0), (.aload_n 0, 1, 0, 0), (.getfield 66, 3, 10, 39), (.iload_n 2, 1, 0, 0), (.aload_n 0, 1, 0, 0), (.getfield 237, 3, 10, 23), (.iastore, 1, 0, 0)]),
  (269, [0, 1], [(.iload_n 1, 1, 0, 0), (.ifCond .ne 5, 3, 275, 0), (.iconst 0, 1, 0, 0), (.ireturn, 1, 0, 0)]),
  (275, [0], [(.aload_n 0, 1, 0, 0), (.bipush 59, 2, 0, 0), (.invokevirtual 215, 3, 10, 1), (.ifCond .ne 9, 3, 290, 0), (.aload_n 0, 1, 0, 0), (.iconst 1, 1, 0, 0), (.invokevirtual 202, 3, 0, 1), (.ireturn, 1, 0, 0)]),
  (290, [0], [(.aload_n 0, 1, 0, 0), (.invokevirtual 212, 3, 8, 0), (.iconst 1, 1, 0, 0), (.ireturn, 1, 0, 0)])], none)
noncomputable def Mo_lineRead (M : AM) : Option (Option Value × AM) := mD C_Mo_lineRead [.ref 82] M
noncomputable def Mo_lineRead_269 (x1 : Int32) (M : AM) : Option (Option Value × AM) := it C_Mo_lineRead 269 [(0, .ref 82), (1, .int x1)] [] M
noncomputable def Mo_lineRead_120 (M : AM) : Option (Option Value × AM) := it C_Mo_lineRead 120 [(0, .ref 82)] [] M
noncomputable def Mo_lineRead_202 (M : AM) : Option (Option Value × AM) := it C_Mo_lineRead 202 [(0, .ref 82)] [] M
noncomputable def C_Mo_text : MC := (3, 1, [(0, 10, 1, mD C_Mo_plain), (0, 10, 1, mD C_Mo_token), (0, 10, 1, mD C_Mo_lineRead), (0, 10, 1, mD C_Mo_keepText)], [(0, [0, 1], [(.aload_n 0, 1, 0, 0), (.iconst 0, 1, 0, 0), (.putfield 160, 3, 10, 2), (.iload_n 1, 1, 0, 0), (.ifCond .lt 11, 3, 17, 0), (.iload_n 1, 1, 0, 0), (.aload_n 0, 1, 0, 0), (.getfield 163, 3, 10, 1), (.if_icmp .le 6, 3, 20, 0)]),
  (17, [], [(.bipush (-2), 2, 0, 0), (.ireturn, 1, 0, 0)]),
  (20, [0, 1], [(.aload_n 0, 1, 0, 0), (.iload_n 1, 1, 0, 0), (.putfield 172, 3, 10, 6), (.aload_n 0, 1, 0, 0), (.iconst 0, 1, 0, 0), (.putfield 163, 3, 10, 1), (.aload_n 0, 1, 0, 0), (.iconst 0, 1, 0, 0), (.putfield 166, 3, 10, 4), (.aload_n 0, 1, 0, 0), (.iconst (-1), 1, 0, 0), (.putfield 16, 3, 10, 5), (.aload_n 0, 1, 0, 0), (.iconst 0, 1, 0, 0), (.putfield 175, 3, 10, 7), (.aload_n 0, 1, 0, 0), (.invokevirtual 154, 3, 0, 0), (.aload_n 0, 1, 0, 0), (.invokevirtual 212, 3, 1, 0), (.iconst 0, 1, 0, 0), (.istore_n 2, 1, 0, 0)]),
  (55, [0, 2], [(.aload_n 0, 1, 0, 0), (.getfield 178, 3, 10, 8), (.ifCond .eq 18, 3, 77, 0), (.aload_n 0, 1, 0, 0), (.invokevirtual 307, 3, 2, 1), (.ifCond .ne 5, 3, 71, 0), (.iconst (-1), 1, 0, 0), (.ireturn, 1, 0, 0)]),
  (71, [0, 2], [(.iinc 2 1, 3, 0, 0), (.goto (-19), 3, 55, 0)]),
  (77, [0, 2], [(.aload_n 0, 1, 0, 0), (.invokevirtual 157, 3, 3, 0), (.iload_n 2, 1, 0, 0), (.ireturn, 1, 0, 0)])], none)
noncomputable def Mo_text (x1 : Int32) (M : AM) : Option (Option Value × AM) := mD C_Mo_text [.ref 82, .int x1] M
noncomputable def Mo_text_55 (x2 : Int32) (M : AM) : Option (Option Value × AM) := it C_Mo_text 55 [(0, .ref 82), (2, .int x2)] [] M
noncomputable def C_Mo_fault : MC := (2, 1, [], [(0, [0, 1], [(.aload_n 0, 1, 0, 0), (.iconst 0, 1, 0, 0), (.putfield 160, 3, 10, 2), (.iload_n 1, 1, 0, 0), (.ifCond .ne 10, 3, 16, 0), (.aload_n 0, 1, 0, 0), (.getfield 166, 3, 10, 4), (.goto 16, 3, 29, 0)]),
  (16, [0, 1], [(.iload_n 1, 1, 0, 0), (.iconst 1, 1, 0, 0), (.if_icmp .ne 10, 3, 28, 0), (.aload_n 0, 1, 0, 0), (.getfield 16, 3, 10, 5), (.goto 4, 3, 29, 0)]),
  (28, [], [(.iconst (-1), 1, 0, 0)]),
  (29, [], [(.ireturn, 1, 0, 0)])], none)
noncomputable def Mo_fault (x1 : Int32) (M : AM) : Option (Option Value × AM) := mD C_Mo_fault [.ref 82, .int x1] M
noncomputable def C_Mo_named : MC := (3, 1, [(1, 0, 4, mD C_Mo_find)], [(0, [0, 1, 2], [(.aload_n 0, 1, 0, 0), (.iconst 0, 1, 0, 0), (.putfield 160, 3, 10, 2), (.iload_n 1, 1, 0, 0), (.ifCond .ne 19, 3, 25, 0), (.aload_n 0, 1, 0, 0), (.getfield 30, 3, 10, 27), (.iconst 0, 1, 0, 0), (.aload_n 0, 1, 0, 0), (.getfield 243, 3, 10, 12), (.iload_n 2, 1, 0, 0), (.invokestatic 268, 3, 0, 1), (.goto 25, 3, 47, 0)]),
  (25, [0, 1, 2], [(.iload_n 1, 1, 0, 0), (.iconst 1, 1, 0, 0), (.if_icmp .ne 19, 3, 46, 0), (.aload_n 0, 1, 0, 0), (.getfield 39, 3, 10, 30), (.iconst 0, 1, 0, 0), (.aload_n 0, 1, 0, 0), (.getfield 249, 3, 10, 14), (.iload_n 2, 1, 0, 0), (.invokestatic 268, 3, 0, 1), (.goto 4, 3, 47, 0)]),
  (46, [], [(.iconst (-1), 1, 0, 0)]),
  (47, [], [(.ireturn, 1, 0, 0)])], none)
noncomputable def Mo_named (x1 : Int32) (x2 : Int32) (M : AM) : Option (Option Value × AM) := mD C_Mo_named [.ref 82, .int x1, .int x2] M
noncomputable def C_Mo_isNode : MC := (2, 3, [], [(0, [0, 1], [(.iload_n 1, 1, 0, 0), (.ifCond .lt 15, 3, 16, 0), (.iload_n 1, 1, 0, 0), (.aload_n 0, 1, 0, 0), (.getfield 243, 3, 10, 12), (.if_icmp .ge 7, 3, 16, 0), (.iconst 1, 1, 0, 0), (.goto 4, 3, 17, 0)]),
  (16, [], [(.iconst 0, 1, 0, 0)]),
  (17, [], [(.ireturn, 1, 0, 0)])], none)
noncomputable def Mo_isNode (x1 : Int32) (M : AM) : Option (Option Value × AM) := mD C_Mo_isNode [.ref 82, .int x1] M
noncomputable def C_Mo_fails : MC := (2, 1, [], [(0, [0, 1], [(.aload_n 0, 1, 0, 0), (.iload_n 1, 1, 0, 0), (.putfield 160, 3, 10, 2), (.iconst 0, 1, 0, 0), (.ireturn, 1, 0, 0)])], none)
noncomputable def Mo_fails (x1 : Int32) (M : AM) : Option (Option Value × AM) := mD C_Mo_fails [.ref 82, .int x1] M
noncomputable def C_Mo_node : MC := (5, 1, [(0, 10, 2, mD C_Mo_isNode), (0, 10, 2, mD C_Mo_fails)], [(0, [0, 1, 2], [(.aload_n 0, 1, 0, 0), (.iconst 0, 1, 0, 0), (.putfield 160, 3, 10, 2), (.aload_n 0, 1, 0, 0), (.iload_n 1, 1, 0, 0), (.invokevirtual 507, 3, 0, 1), (.ifCond .ne 9, 3, 19, 0), (.aload_n 0, 1, 0, 0), (.iconst 1, 1, 0, 0), (.invokevirtual 510, 3, 1, 1), (.ireturn, 1, 0, 0)]),
  (19, [0, 1, 2], [(.iconst 0, 1, 0, 0), (.istore_n 3, 1, 0, 0), (.iload_n 2, 1, 0, 0), (.tableswitch 103 0 4 #[34, 45, 82, 89, 96], 34, 0, 0)]),
  (56, [0, 1], [(.aload_n 0, 1, 0, 0), (.getfield 94, 3, 10, 55), (.iconst 0, 1, 0, 0), (.iaload, 1, 0, 0), (.iload_n 1, 1, 0, 0), (.ishr, 1, 0, 0), (.iconst 1, 1, 0, 0), (.iand, 1, 0, 0), (.ireturn, 1, 0, 0)]),
  (67, [0, 1, 3], [(.iconst 0, 1, 0, 0), (.istore 4, 2, 0, 0)]),
  (70, [0, 1, 3, 4], [(.iload 4, 2, 0, 0), (.aload_n 0, 1, 0, 0), (.getfield 249, 3, 10, 14), (.if_icmp .ge 26, 3, 102, 0), (.iload_n 3, 1, 0, 0), (.aload_n 0, 1, 0, 0), (.getfield 97, 3, 10, 56), (.iload 4, 2, 0, 0), (.iaload, 1, 0, 0), (.iload_n 1, 1, 0, 0), (.ishr, 1, 0, 0), (.iconst 1, 1, 0, 0), (.iand, 1, 0, 0), (.iload 4, 2, 0, 0), (.ishl, 1, 0, 0), (.ior, 1, 0, 0), (.istore_n 3, 1, 0, 0), (.iinc 4 1, 3, 0, 0), (.goto (-29), 3, 70, 0)]),
  (102, [3], [(.iload_n 3, 1, 0, 0), (.ireturn, 1, 0, 0)]),
  (104, [0, 1], [(.aload_n 0, 1, 0, 0), (.getfield 103, 3, 10, 58), (.iload_n 1, 1, 0, 0), (.iaload, 1, 0, 0), (.ireturn, 1, 0, 0)]),
  (111, [0, 1], [(.aload_n 0, 1, 0, 0), (.getfield 106, 3, 10, 59), (.iload_n 1, 1, 0, 0), (.iaload, 1, 0, 0), (.ireturn, 1, 0, 0)]),
  (118, [0, 1], [(.aload_n 0, 1, 0, 0), (.getfield 109, 3, 10, 60), (.iload_n 1, 1, 0, 0), (.iaload, 1, 0, 0), (.ireturn, 1, 0, 0)]),
  (125, [0], [(.aload_n 0, 1, 0, 0), (.iconst 2, 1, 0, 0), (.invokevirtual 510, 3, 1, 1), (.ireturn, 1, 0, 0)])], none)
noncomputable def Mo_node (x1 : Int32) (x2 : Int32) (M : AM) : Option (Option Value × AM) := mD C_Mo_node [.ref 82, .int x1, .int x2] M
noncomputable def Mo_node_70 (x1 : Int32) (x3 : Int32) (x4 : Int32) (M : AM) : Option (Option Value × AM) := it C_Mo_node 70 [(0, .ref 82), (1, .int x1), (3, .int x3), (4, .int x4)] [] M
noncomputable def C_Mo_isLink : MC := (2, 3, [], [(0, [0, 1], [(.iload_n 1, 1, 0, 0), (.ifCond .lt 15, 3, 16, 0), (.iload_n 1, 1, 0, 0), (.aload_n 0, 1, 0, 0), (.getfield 246, 3, 10, 13), (.if_icmp .ge 7, 3, 16, 0), (.iconst 1, 1, 0, 0), (.goto 4, 3, 17, 0)]),
  (16, [], [(.iconst 0, 1, 0, 0)]),
  (17, [], [(.ireturn, 1, 0, 0)])], none)
noncomputable def Mo_isLink (x1 : Int32) (M : AM) : Option (Option Value × AM) := mD C_Mo_isLink [.ref 82, .int x1] M
noncomputable def C_Mo_link : MC := (3, 1, [(0, 10, 2, mD C_Mo_isLink)], [(0, [0, 1, 2], [(.aload_n 0, 1, 0, 0), (.iconst 0, 1, 0, 0), (.putfield 160, 3, 10, 2), (.aload_n 0, 1, 0, 0), (.iload_n 1, 1, 0, 0), (.invokevirtual 513, 3, 0, 1), (.ifCond .ne 5, 3, 15, 0), (.iconst (-1), 1, 0, 0), (.ireturn, 1, 0, 0)]),
  (15, [0, 1, 2], [(.iload_n 2, 1, 0, 0), (.ifCond .ne 12, 3, 28, 0), (.aload_n 0, 1, 0, 0), (.getfield 33, 3, 10, 28), (.iload_n 1, 1, 0, 0), (.iaload, 1, 0, 0), (.goto 36, 3, 61, 0)]),
  (28, [0, 1, 2], [(.iload_n 2, 1, 0, 0), (.iconst 1, 1, 0, 0), (.if_icmp .ne 12, 3, 42, 0), (.aload_n 0, 1, 0, 0), (.getfield 36, 3, 10, 29), (.iload_n 1, 1, 0, 0), (.iaload, 1, 0, 0), (.goto 22, 3, 61, 0)]),
  (42, [0, 1, 2], [(.iload_n 2, 1, 0, 0), (.iconst 2, 1, 0, 0), (.if_icmp .ne 16, 3, 60, 0), (.aload_n 0, 1, 0, 0), (.getfield 91, 3, 10, 54), (.iconst 0, 1, 0, 0), (.iaload, 1, 0, 0), (.iload_n 1, 1, 0, 0), (.ishr, 1, 0, 0), (.iconst 1, 1, 0, 0), (.iand, 1, 0, 0), (.goto 4, 3, 61, 0)]),
  (60, [], [(.iconst (-1), 1, 0, 0)]),
  (61, [], [(.ireturn, 1, 0, 0)])], none)
noncomputable def Mo_link (x1 : Int32) (x2 : Int32) (M : AM) : Option (Option Value × AM) := mD C_Mo_link [.ref 82, .int x1, .int x2] M
noncomputable def C_Mo_isTree : MC := (2, 3, [], [(0, [0, 1], [(.iload_n 1, 1, 0, 0), (.ifCond .lt 15, 3, 16, 0), (.iload_n 1, 1, 0, 0), (.aload_n 0, 1, 0, 0), (.getfield 249, 3, 10, 14), (.if_icmp .gt 7, 3, 16, 0), (.iconst 1, 1, 0, 0), (.goto 4, 3, 17, 0)]),
  (16, [], [(.iconst 0, 1, 0, 0)]),
  (17, [], [(.ireturn, 1, 0, 0)])], none)
noncomputable def Mo_isTree (x1 : Int32) (M : AM) : Option (Option Value × AM) := mD C_Mo_isTree [.ref 82, .int x1] M
noncomputable def C_Mo_rootOf : MC := (2, 1, [], [(0, [0, 1], [(.iload_n 1, 1, 0, 0), (.ifCond .ne 12, 3, 13, 0), (.aload_n 0, 1, 0, 0), (.getfield 20, 3, 10, 24), (.iconst 0, 1, 0, 0), (.iaload, 1, 0, 0), (.goto 11, 3, 21, 0)]),
  (13, [0, 1], [(.aload_n 0, 1, 0, 0), (.getfield 42, 3, 10, 31), (.iload_n 1, 1, 0, 0), (.iconst 1, 1, 0, 0), (.isub, 1, 0, 0), (.iaload, 1, 0, 0)]),
  (21, [], [(.ireturn, 1, 0, 0)])], none)
noncomputable def Mo_rootOf (x1 : Int32) (M : AM) : Option (Option Value × AM) := mD C_Mo_rootOf [.ref 82, .int x1] M
noncomputable def C_Mo_costNow : MC := (2, 1, [], [(0, [0, 1], [(.iload_n 1, 1, 0, 0), (.aload_n 0, 1, 0, 0), (.getfield 416, 3, 10, 73), (.if_icmp .ne 10, 3, 15, 0), (.aload_n 0, 1, 0, 0), (.getfield 419, 3, 10, 74), (.goto 9, 3, 21, 0)]),
  (15, [0, 1], [(.aload_n 0, 1, 0, 0), (.getfield 33, 3, 10, 28), (.iload_n 1, 1, 0, 0), (.iaload, 1, 0, 0)]),
  (21, [], [(.ireturn, 1, 0, 0)])], none)
noncomputable def Mo_costNow (x1 : Int32) (M : AM) : Option (Option Value × AM) := mD C_Mo_costNow [.ref 82, .int x1] M
noncomputable def C_Mo_layDist : MC := (7, 0, [(1, 0, 2, mD C_Mo_isOf), (0, 10, 2, mD C_Mo_costNow)], [(0, [0, 1, 2], [(.iconst 0, 1, 0, 0), (.istore_n 3, 1, 0, 0)]),
  (2, [0, 1, 2, 3], [(.iload_n 3, 1, 0, 0), (.bipush 7, 2, 0, 0), (.if_icmp .ge 26, 3, 31, 0), (.aload_n 0, 1, 0, 0), (.getfield 124, 3, 10, 75), (.iload_n 3, 1, 0, 0), (.iload_n 3, 1, 0, 0), (.iload_n 1, 1, 0, 0), (.if_icmp .ne 7, 3, 22, 0), (.iconst 0, 1, 0, 0), (.goto 5, 3, 24, 0)]),
  (22, [0, 1, 2, 3], [(.bipush 99, 2, 0, 0)]),
  (24, [0, 1, 2, 3], [(.iastore, 1, 0, 0), (.iinc 3 1, 3, 0, 0), (.goto (-26), 3, 2, 0)]),
  (31, [0, 2], [(.iconst 1, 1, 0, 0), (.istore_n 3, 1, 0, 0)]),
  (33, [0, 2, 3], [(.iload_n 3, 1, 0, 0), (.ifCond .eq 174, 3, 208, 0), (.iconst 0, 1, 0, 0), (.istore_n 3, 1, 0, 0), (.iconst 0, 1, 0, 0), (.istore 4, 2, 0, 0)]),
  (42, [0, 2, 3, 4], [(.iload 4, 2, 0, 0), (.aload_n 0, 1, 0, 0), (.getfield 246, 3, 10, 13), (.if_icmp .ge 157, 3, 205, 0), (.iload_n 2, 1, 0, 0), (.iload 4, 2, 0, 0), (.invokestatic 279, 3, 0, 1), (.ifCond .eq 6, 3, 63, 0), (.goto 139, 3, 199, 0)]),
  (63, [0, 2, 3, 4], [(.bipush 99, 2, 0, 0), (.istore 5, 2, 0, 0), (.iconst 0, 1, 0, 0), (.istore 6, 2, 0, 0)]),
  (70, [0, 2, 3, 4, 5, 6], [(.iload 6, 2, 0, 0), (.aload_n 0, 1, 0, 0), (.getfield 243, 3, 10, 12), (.if_icmp .ge 50, 3, 126, 0), (.aload_n 0, 1, 0, 0), (.getfield 36, 3, 10, 29), (.iload 4, 2, 0, 0), (.iaload, 1, 0, 0), (.iload 6, 2, 0, 0), (.invokestatic 279, 3, 0, 1), (.ifCond .eq 25, 3, 116, 0), (.aload_n 0, 1, 0, 0), (.getfield 124, 3, 10, 75), (.iload 6, 2, 0, 0), (.iaload, 1, 0, 0), (.iload 5, 2, 0, 0), (.if_icmp .ge 13, 3, 116, 0), (.aload_n 0, 1, 0, 0), (.getfield 124, 3, 10, 75), (.iload 6, 2, 0, 0), (.iaload, 1, 0, 0), (.goto 5, 3, 118, 0)]),
  (116, [0, 2, 3, 4, 5, 6], [(.iload 5, 2, 0, 0)]),
  (118, [0, 2, 3, 4, 6], [(.istore 5, 2, 0, 0), (.iinc 6 1, 3, 0, 0), (.goto (-53), 3, 70, 0)]),
  (126, [0, 2, 3, 4, 5], [(.iconst 0, 1, 0, 0), (.istore 6, 2, 0, 0)]),
  (129, [0, 2, 3, 4, 5, 6], [(.iload 6, 2, 0, 0), (.aload_n 0, 1, 0, 0), (.getfield 243, 3, 10, 12), (.if_icmp .ge 64, 3, 199, 0), (.aload_n 0, 1, 0, 0), (.getfield 36, 3, 10, 29), (.iload 4, 2, 0, 0), (.iaload, 1, 0, 0), (.iload 6, 2, 0, 0), (.invokestatic 279, 3, 0, 1), (.ifCond .eq 43, 3, 193, 0), (.iload 5, 2, 0, 0), (.aload_n 0, 1, 0, 0), (.iload 4, 2, 0, 0), (.invokevirtual 426, 3, 1, 1), (.iadd, 1, 0, 0), (.aload_n 0, 1, 0, 0), (.getfield 124, 3, 10, 75), (.iload 6, 2, 0, 0), (.iaload, 1, 0, 0), (.if_icmp .lt 6, 3, 175, 0), (.goto 21, 3, 193, 0)]),
  (175, [0, 2, 4, 5, 6], [(.aload_n 0, 1, 0, 0), (.getfield 124, 3, 10, 75), (.iload 6, 2, 0, 0), (.iload 5, 2, 0, 0), (.aload_n 0, 1, 0, 0), (.iload 4, 2, 0, 0), (.invokevirtual 426, 3, 1, 1), (.iadd, 1, 0, 0), (.iastore, 1, 0, 0), (.iconst 1, 1, 0, 0), (.istore_n 3, 1, 0, 0)]),
  (193, [0, 2, 3, 4, 5, 6], [(.iinc 6 1, 3, 0, 0), (.goto (-67), 3, 129, 0)]),
  (199, [0, 2, 3, 4], [(.iinc 4 1, 3, 0, 0), (.goto (-160), 3, 42, 0)]),
  (205, [0, 2, 3], [(.goto (-172), 3, 33, 0)]),
  (208, [], [(.return_, 1, 0, 0)])], none)
noncomputable def Mo_layDist (x1 : Int32) (x2 : Int32) (M : AM) : Option (Option Value × AM) := mD C_Mo_layDist [.ref 82, .int x1, .int x2] M
noncomputable def Mo_layDist_2 (x1 : Int32) (x2 : Int32) (x3 : Int32) (M : AM) : Option (Option Value × AM) := it C_Mo_layDist 2 [(0, .ref 82), (1, .int x1), (2, .int x2), (3, .int x3)] [] M
noncomputable def Mo_layDist_33 (x2 : Int32) (x3 : Int32) (M : AM) : Option (Option Value × AM) := it C_Mo_layDist 33 [(0, .ref 82), (2, .int x2), (3, .int x3)] [] M
noncomputable def Mo_layDist_42 (x2 : Int32) (x3 : Int32) (x4 : Int32) (M : AM) : Option (Option Value × AM) := it C_Mo_layDist 42 [(0, .ref 82), (2, .int x2), (3, .int x3), (4, .int x4)] [] M
noncomputable def Mo_layDist_70 (x2 : Int32) (x3 : Int32) (x4 : Int32) (x5 : Int32) (x6 : Int32) (M : AM) : Option (Option Value × AM) := it C_Mo_layDist 70 [(0, .ref 82), (2, .int x2), (3, .int x3), (4, .int x4), (5, .int x5), (6, .int x6)] [] M
noncomputable def Mo_layDist_129 (x2 : Int32) (x3 : Int32) (x4 : Int32) (x5 : Int32) (x6 : Int32) (M : AM) : Option (Option Value × AM) := it C_Mo_layDist 129 [(0, .ref 82), (2, .int x2), (3, .int x3), (4, .int x4), (5, .int x5), (6, .int x6)] [] M
noncomputable def C_Mo_farOf : MC := (4, 1, [(0, 10, 2, mD C_Mo_rootOf), (0, 10, 3, mD C_Mo_layDist)], [(0, [0, 1, 2, 3], [(.aload_n 0, 1, 0, 0), (.aload_n 0, 1, 0, 0), (.iload_n 2, 1, 0, 0), (.invokevirtual 429, 3, 0, 1), (.aload_n 0, 1, 0, 0), (.getfield 91, 3, 10, 54), (.iload_n 1, 1, 0, 0), (.iaload, 1, 0, 0), (.invokevirtual 432, 3, 1, 0), (.aload_n 0, 1, 0, 0), (.getfield 124, 3, 10, 75), (.iload_n 3, 1, 0, 0), (.iaload, 1, 0, 0), (.ireturn, 1, 0, 0)])], none)
noncomputable def Mo_farOf (x1 : Int32) (x2 : Int32) (x3 : Int32) (M : AM) : Option (Option Value × AM) := mD C_Mo_farOf [.ref 82, .int x1, .int x2, .int x3] M
noncomputable def C_Mo_far : MC := (3, 1, [(0, 10, 1, mD C_Mo_plainTried), (0, 10, 2, mD C_Mo_isTree), (0, 10, 2, mD C_Mo_isNode), (0, 10, 4, mD C_Mo_farOf)], [(0, [0, 1, 2], [(.aload_n 0, 1, 0, 0), (.iconst 0, 1, 0, 0), (.putfield 160, 3, 10, 2), (.aload_n 0, 1, 0, 0), (.invokevirtual 383, 3, 0, 0), (.aload_n 0, 1, 0, 0), (.iload_n 1, 1, 0, 0), (.invokevirtual 516, 3, 1, 1), (.ifCond .eq 21, 3, 35, 0), (.aload_n 0, 1, 0, 0), (.iload_n 2, 1, 0, 0), (.invokevirtual 507, 3, 2, 1), (.ifCond .eq 13, 3, 35, 0), (.aload_n 0, 1, 0, 0), (.iconst 0, 1, 0, 0), (.iload_n 1, 1, 0, 0), (.iload_n 2, 1, 0, 0), (.invokevirtual 444, 3, 3, 1), (.goto 4, 3, 36, 0)]),
  (35, [], [(.iconst (-1), 1, 0, 0)]),
  (36, [], [(.ireturn, 1, 0, 0)])], none)
noncomputable def Mo_far (x1 : Int32) (x2 : Int32) (M : AM) : Option (Option Value × AM) := mD C_Mo_far [.ref 82, .int x1, .int x2] M
noncomputable def C_Mo_heldAt : MC := (5, 1, [], [(0, [0, 1, 2, 3, 4], [(.aload_n 0, 1, 0, 0), (.getfield 100, 3, 10, 57), (.sipush 224, 3, 0, 0), (.iload_n 1, 1, 0, 0), (.imul, 1, 0, 0), (.bipush 56, 2, 0, 0), (.iload_n 2, 1, 0, 0), (.imul, 1, 0, 0), (.iadd, 1, 0, 0), (.bipush 8, 2, 0, 0), (.iload_n 3, 1, 0, 0), (.imul, 1, 0, 0), (.iadd, 1, 0, 0), (.iload 4, 2, 0, 0), (.iadd, 1, 0, 0), (.iaload, 1, 0, 0), (.ireturn, 1, 0, 0)])], none)
noncomputable def Mo_heldAt (x1 : Int32) (x2 : Int32) (x3 : Int32) (x4 : Int32) (M : AM) : Option (Option Value × AM) := mD C_Mo_heldAt [.ref 82, .int x1, .int x2, .int x3, .int x4] M
noncomputable def C_Mo_heldMany : MC := (6, 1, [(0, 10, 5, mD C_Mo_heldAt)], [(0, [0, 1, 2, 3], [(.iconst 0, 1, 0, 0), (.istore 4, 2, 0, 0), (.iconst 0, 1, 0, 0), (.istore 5, 2, 0, 0)]),
  (6, [0, 1, 2, 3, 4, 5], [(.iload 5, 2, 0, 0), (.aload_n 0, 1, 0, 0), (.getfield 246, 3, 10, 13), (.if_icmp .ge 31, 3, 43, 0), (.iload 4, 2, 0, 0), (.aload_n 0, 1, 0, 0), (.iload_n 1, 1, 0, 0), (.iload_n 2, 1, 0, 0), (.iload_n 3, 1, 0, 0), (.iload 5, 2, 0, 0), (.invokevirtual 422, 3, 0, 1), (.ifCond .le 7, 3, 33, 0), (.iconst 1, 1, 0, 0), (.goto 4, 3, 34, 0)]),
  (33, [0, 1, 2, 3, 5], [(.iconst 0, 1, 0, 0)]),
  (34, [0, 1, 2, 3, 5], [(.iadd, 1, 0, 0), (.istore 4, 2, 0, 0), (.iinc 5 1, 3, 0, 0), (.goto (-34), 3, 6, 0)]),
  (43, [4], [(.iload 4, 2, 0, 0), (.ireturn, 1, 0, 0)])], none)
noncomputable def Mo_heldMany (x1 : Int32) (x2 : Int32) (x3 : Int32) (M : AM) : Option (Option Value × AM) := mD C_Mo_heldMany [.ref 82, .int x1, .int x2, .int x3] M
noncomputable def Mo_heldMany_6 (x1 : Int32) (x2 : Int32) (x3 : Int32) (x4 : Int32) (x5 : Int32) (M : AM) : Option (Option Value × AM) := it C_Mo_heldMany 6 [(0, .ref 82), (1, .int x1), (2, .int x2), (3, .int x3), (4, .int x4), (5, .int x5)] [] M
noncomputable def C_Mo_lay : MC := (5, 0, [(0, 10, 4, mD C_Mo_heldMany)], [(0, [0, 1, 2, 3, 4], [(.aload_n 0, 1, 0, 0), (.getfield 84, 3, 10, 51), (.iconst 0, 1, 0, 0), (.iload 4, 2, 0, 0), (.i2l, 1, 0, 0), (.lastore, 1, 0, 0), (.aload_n 0, 1, 0, 0), (.getfield 84, 3, 10, 51), (.iconst 1, 1, 0, 0), (.iload_n 3, 1, 0, 0), (.i2l, 1, 0, 0), (.lastore, 1, 0, 0), (.aload_n 0, 1, 0, 0), (.getfield 84, 3, 10, 51), (.iconst 2, 1, 0, 0), (.aload_n 0, 1, 0, 0), (.getfield 103, 3, 10, 58), (.bipush 7, 2, 0, 0), (.iload_n 1, 1, 0, 0), (.imul, 1, 0, 0), (.iload_n 3, 1, 0, 0), (.iadd, 1, 0, 0), (.iaload, 1, 0, 0), (.i2l, 1, 0, 0), (.lastore, 1, 0, 0), (.aload_n 0, 1, 0, 0), (.getfield 84, 3, 10, 51), (.iconst 3, 1, 0, 0), (.aload_n 0, 1, 0, 0), (.getfield 106, 3, 10, 59), (.bipush 7, 2, 0, 0), (.iload_n 1, 1, 0, 0), (.imul, 1, 0, 0), (.iload_n 3, 1, 0, 0), (.iadd, 1, 0, 0), (.iaload, 1, 0, 0), (.i2l, 1, 0, 0), (.lastore, 1, 0, 0), (.aload_n 0, 1, 0, 0), (.getfield 84, 3, 10, 51), (.iconst 4, 1, 0, 0), (.aload_n 0, 1, 0, 0), (.iload_n 1, 1, 0, 0), (.iload_n 2, 1, 0, 0), (.iload_n 3, 1, 0, 0), (.invokevirtual 436, 3, 0, 1), (.i2l, 1, 0, 0), (.lastore, 1, 0, 0), (.aload_n 0, 1, 0, 0), (.getfield 84, 3, 10, 51), (.iconst 5, 1, 0, 0), (.iload_n 2, 1, 0, 0), (.i2l, 1, 0, 0), (.lastore, 1, 0, 0), (.aload_n 0, 1, 0, 0), (.getfield 84, 3, 10, 51), (.bipush 6, 2, 0, 0), (.aload_n 0, 1, 0, 0), (.getfield 121, 3, 10, 64), (.iload_n 1, 1, 0, 0), (.iaload, 1, 0, 0), (.i2l, 1, 0, 0), (.lastore, 1, 0, 0), (.return_, 1, 0, 0)])], none)
noncomputable def Mo_lay (x1 : Int32) (x2 : Int32) (x3 : Int32) (x4 : Int32) (M : AM) : Option (Option Value × AM) := mD C_Mo_lay [.ref 82, .int x1, .int x2, .int x3, .int x4] M
noncomputable def C_Mo_bounded : MC := (3, 2, [], [(0, [0, 1], [(.aload_n 0, 1, 0, 0), (.aload_n 0, 1, 0, 0), (.getfield 360, 3, 10, 53), (.ifCond .ne 19, 3, 24, 0), (.lload_n 1, 1, 0, 0), (.ldc2_w 363, 3, 1000000000000, 0), (.lcmp, 1, 0, 0), (.ifCond .gt 11, 3, 24, 0), (.lload_n 1, 1, 0, 0), (.ldc2_w 365, 3, 18446743073709551616, 0), (.lcmp, 1, 0, 0), (.ifCond .ge 7, 3, 28, 0)]),
  (24, [0, 1], [(.iconst 1, 1, 0, 0), (.goto 4, 3, 29, 0)]),
  (28, [0, 1], [(.iconst 0, 1, 0, 0)]),
  (29, [0, 1], [(.putfield 360, 3, 10, 53), (.aload_n 0, 1, 0, 0), (.getfield 360, 3, 10, 53), (.ifCond .eq 7, 3, 43, 0), (.lconst 0, 1, 0, 0), (.goto 4, 3, 44, 0)]),
  (43, [1], [(.lload_n 1, 1, 0, 0)]),
  (44, [], [(.lreturn, 1, 0, 0)])], none)
noncomputable def Mo_bounded (y1 : Int64) (M : AM) : Option (Option Value × AM) := mD C_Mo_bounded [.ref 82, .long y1] M
noncomputable def Mo_bounded_24 (y1 : Int64) (M : AM) : Option (Option Value × AM) := it C_Mo_bounded 24 [(0, .ref 82), (1, .long y1)] [.ref 82] M
noncomputable def C_Mo_times : MC := (6, 2, [], [(0, [0, 1, 3], [(.lload_n 1, 1, 0, 0), (.lconst 0, 1, 0, 0), (.lcmp, 1, 0, 0), (.ifCond .eq 45, 3, 48, 0), (.lload_n 3, 1, 0, 0), (.lconst 0, 1, 0, 0), (.lcmp, 1, 0, 0), (.ifCond .eq 39, 3, 48, 0), (.lload_n 3, 1, 0, 0), (.lconst 0, 1, 0, 0), (.lcmp, 1, 0, 0), (.ifCond .ge 8, 3, 23, 0), (.lload_n 3, 1, 0, 0), (.lneg, 1, 0, 0), (.goto 4, 3, 24, 0)]),
  (23, [0, 1, 3], [(.lload_n 3, 1, 0, 0)]),
  (24, [0, 1, 3], [(.ldc2_w 363, 3, 1000000000000, 0), (.lload_n 1, 1, 0, 0), (.lconst 0, 1, 0, 0), (.lcmp, 1, 0, 0), (.ifCond .ge 8, 3, 38, 0), (.lload_n 1, 1, 0, 0), (.lneg, 1, 0, 0), (.goto 4, 3, 39, 0)]),
  (38, [0, 1, 3], [(.lload_n 1, 1, 0, 0)]),
  (39, [0, 1, 3], [(.ldiv, 1, 0, 0), (.lcmp, 1, 0, 0), (.ifCond .le 7, 3, 48, 0), (.iconst 1, 1, 0, 0), (.goto 4, 3, 49, 0)]),
  (48, [0, 1, 3], [(.iconst 0, 1, 0, 0)]),
  (49, [0, 1, 3], [(.istore 5, 2, 0, 0), (.aload_n 0, 1, 0, 0), (.aload_n 0, 1, 0, 0), (.getfield 360, 3, 10, 53), (.ifCond .ne 8, 3, 64, 0), (.iload 5, 2, 0, 0), (.ifCond .eq 7, 3, 68, 0)]),
  (64, [0, 1, 3], [(.iconst 1, 1, 0, 0), (.goto 4, 3, 69, 0)]),
  (68, [0, 1, 3], [(.iconst 0, 1, 0, 0)]),
  (69, [0, 1, 3], [(.putfield 360, 3, 10, 53), (.aload_n 0, 1, 0, 0), (.getfield 360, 3, 10, 53), (.ifCond .eq 7, 3, 83, 0), (.lconst 0, 1, 0, 0), (.goto 6, 3, 86, 0)]),
  (83, [1, 3], [(.lload_n 1, 1, 0, 0), (.lload_n 3, 1, 0, 0), (.lmul, 1, 0, 0)]),
  (86, [], [(.lreturn, 1, 0, 0)])], none)
noncomputable def Mo_times (y1 : Int64) (y3 : Int64) (M : AM) : Option (Option Value × AM) := mD C_Mo_times [.ref 82, .long y1, .long y3] M
noncomputable def Mo_times_49 (y1 : Int64) (y3 : Int64) (z0 : Int32) (M : AM) : Option (Option Value × AM) := it C_Mo_times 49 [(0, .ref 82), (1, .long y1), (3, .long y3)] [.int z0] M
noncomputable def Mo_times_24 (y1 : Int64) (y3 : Int64) (z0 : Int64) (M : AM) : Option (Option Value × AM) := it C_Mo_times 24 [(0, .ref 82), (1, .long y1), (3, .long y3)] [.long z0] M
noncomputable def C_Mo_compares : MC := (5, 3, [], [(0, [0, 1, 3], [(.iload_n 0, 1, 0, 0), (.tableswitch 95 5 9 #[35, 47, 59, 71, 83], 35, 0, 0)]),
  (36, [1, 3], [(.lload_n 1, 1, 0, 0), (.lload_n 3, 1, 0, 0), (.lcmp, 1, 0, 0), (.ifCond .ge 7, 3, 46, 0), (.iconst 1, 1, 0, 0), (.goto 4, 3, 47, 0)]),
  (46, [], [(.iconst 0, 1, 0, 0)]),
  (47, [], [(.ireturn, 1, 0, 0)]),
  (48, [1, 3], [(.lload_n 1, 1, 0, 0), (.lload_n 3, 1, 0, 0), (.lcmp, 1, 0, 0), (.ifCond .gt 7, 3, 58, 0), (.iconst 1, 1, 0, 0), (.goto 4, 3, 59, 0)]),
  (58, [], [(.iconst 0, 1, 0, 0)]),
  (59, [], [(.ireturn, 1, 0, 0)]),
  (60, [1, 3], [(.lload_n 1, 1, 0, 0), (.lload_n 3, 1, 0, 0), (.lcmp, 1, 0, 0), (.ifCond .ne 7, 3, 70, 0), (.iconst 1, 1, 0, 0), (.goto 4, 3, 71, 0)]),
  (70, [], [(.iconst 0, 1, 0, 0)]),
  (71, [], [(.ireturn, 1, 0, 0)]),
  (72, [1, 3], [(.lload_n 1, 1, 0, 0), (.lload_n 3, 1, 0, 0), (.lcmp, 1, 0, 0), (.ifCond .eq 7, 3, 82, 0), (.iconst 1, 1, 0, 0), (.goto 4, 3, 83, 0)]),
  (82, [], [(.iconst 0, 1, 0, 0)]),
  (83, [], [(.ireturn, 1, 0, 0)]),
  (84, [1, 3], [(.lload_n 1, 1, 0, 0), (.lload_n 3, 1, 0, 0), (.lcmp, 1, 0, 0), (.ifCond .lt 7, 3, 94, 0), (.iconst 1, 1, 0, 0), (.goto 4, 3, 95, 0)]),
  (94, [], [(.iconst 0, 1, 0, 0)]),
  (95, [], [(.ireturn, 1, 0, 0)]),
  (96, [1, 3], [(.lload_n 1, 1, 0, 0), (.lload_n 3, 1, 0, 0), (.lcmp, 1, 0, 0), (.ifCond .le 7, 3, 106, 0), (.iconst 1, 1, 0, 0), (.goto 4, 3, 107, 0)]),
  (106, [], [(.iconst 0, 1, 0, 0)]),
  (107, [], [(.ireturn, 1, 0, 0)])], none)
noncomputable def Mo_compares (x0 : Int32) (y1 : Int64) (y3 : Int64) (M : AM) : Option (Option Value × AM) := mD C_Mo_compares [.int x0, .long y1, .long y3] M
noncomputable def C_Mo_valueOf : MC := (6, 2, [(0, 10, 2, mD C_Mo_bounded), (0, 10, 3, mD C_Mo_times), (1, 0, 3, mD C_Mo_compares)], [(0, [0, 1], [(.aload_n 0, 1, 0, 0), (.getfield 69, 3, 10, 40), (.iload_n 1, 1, 0, 0), (.iaload, 1, 0, 0), (.ifCond .ne 11, 3, 17, 0), (.aload_n 0, 1, 0, 0), (.getfield 72, 3, 10, 41), (.iload_n 1, 1, 0, 0), (.iaload, 1, 0, 0), (.i2l, 1, 0, 0), (.lreturn, 1, 0, 0)]),
  (17, [0, 1], [(.aload_n 0, 1, 0, 0), (.getfield 69, 3, 10, 40), (.iload_n 1, 1, 0, 0), (.iaload, 1, 0, 0), (.iconst 1, 1, 0, 0), (.if_icmp .ne 15, 3, 39, 0), (.aload_n 0, 1, 0, 0), (.getfield 84, 3, 10, 51), (.aload_n 0, 1, 0, 0), (.getfield 72, 3, 10, 41), (.iload_n 1, 1, 0, 0), (.iaload, 1, 0, 0), (.laload, 1, 0, 0), (.lreturn, 1, 0, 0)]),
  (39, [0, 1], [(.aload_n 0, 1, 0, 0), (.getfield 88, 3, 10, 52), (.aload_n 0, 1, 0, 0), (.getfield 72, 3, 10, 41), (.iload_n 1, 1, 0, 0), (.iaload, 1, 0, 0), (.laload, 1, 0, 0), (.lstore_n 2, 1, 0, 0), (.aload_n 0, 1, 0, 0), (.getfield 69, 3, 10, 40), (.iload_n 1, 1, 0, 0), (.iaload, 1, 0, 0), (.iconst 2, 1, 0, 0), (.if_icmp .ne 15, 3, 73, 0), (.lload_n 2, 1, 0, 0), (.lconst 0, 1, 0, 0), (.lcmp, 1, 0, 0), (.ifCond .ne 7, 3, 71, 0), (.lconst 1, 1, 0, 0), (.goto 4, 3, 72, 0)]),
  (71, [], [(.lconst 0, 1, 0, 0)]),
  (72, [], [(.lreturn, 1, 0, 0)]),
  (73, [0, 1, 2], [(.aload_n 0, 1, 0, 0), (.getfield 88, 3, 10, 52), (.aload_n 0, 1, 0, 0), (.getfield 75, 3, 10, 42), (.iload_n 1, 1, 0, 0), (.iaload, 1, 0, 0), (.laload, 1, 0, 0), (.lstore 4, 2, 0, 0), (.aload_n 0, 1, 0, 0), (.getfield 69, 3, 10, 40), (.iload_n 1, 1, 0, 0), (.iaload, 1, 0, 0), (.tableswitch 167 3 14 #[64, 83, 167, 167, 167, 167, 167, 167, 102, 111, 120, 128], 64, 0, 0)]),
  (156, [2, 4], [(.lload_n 2, 1, 0, 0), (.lconst 0, 1, 0, 0), (.lcmp, 1, 0, 0), (.ifCond .eq 14, 3, 173, 0), (.lload 4, 2, 0, 0), (.lconst 0, 1, 0, 0), (.lcmp, 1, 0, 0), (.ifCond .eq 7, 3, 173, 0), (.lconst 1, 1, 0, 0), (.goto 4, 3, 174, 0)]),
  (173, [], [(.lconst 0, 1, 0, 0)]),
  (174, [], [(.lreturn, 1, 0, 0)]),
  (175, [2, 4], [(.lload_n 2, 1, 0, 0), (.lconst 0, 1, 0, 0), (.lcmp, 1, 0, 0), (.ifCond .ne 10, 3, 188, 0), (.lload 4, 2, 0, 0), (.lconst 0, 1, 0, 0), (.lcmp, 1, 0, 0), (.ifCond .eq 7, 3, 192, 0)]),
  (188, [], [(.lconst 1, 1, 0, 0), (.goto 4, 3, 193, 0)]),
  (192, [], [(.lconst 0, 1, 0, 0)]),
  (193, [], [(.lreturn, 1, 0, 0)]),
  (194, [0, 2, 4], [(.aload_n 0, 1, 0, 0), (.lload_n 2, 1, 0, 0), (.lload 4, 2, 0, 0), (.ladd, 1, 0, 0), (.invokevirtual 367, 3, 0, 2), (.lreturn, 1, 0, 0)]),
  (203, [0, 2, 4], [(.aload_n 0, 1, 0, 0), (.lload_n 2, 1, 0, 0), (.lload 4, 2, 0, 0), (.lsub, 1, 0, 0), (.invokevirtual 367, 3, 0, 2), (.lreturn, 1, 0, 0)]),
  (212, [0, 2, 4], [(.aload_n 0, 1, 0, 0), (.lload_n 2, 1, 0, 0), (.lload 4, 2, 0, 0), (.invokevirtual 371, 3, 1, 2), (.lreturn, 1, 0, 0)]),
  (220, [0, 2, 4], [(.aload_n 0, 1, 0, 0), (.aload_n 0, 1, 0, 0), (.getfield 360, 3, 10, 53), (.ifCond .ne 10, 3, 235, 0), (.lload 4, 2, 0, 0), (.lconst 0, 1, 0, 0), (.lcmp, 1, 0, 0), (.ifCond .ne 7, 3, 239, 0)]),
  (235, [0, 2, 4], [(.iconst 1, 1, 0, 0), (.goto 4, 3, 240, 0)]),
  (239, [0, 2, 4], [(.iconst 0, 1, 0, 0)]),
  (240, [0, 2, 4], [(.putfield 360, 3, 10, 53), (.aload_n 0, 1, 0, 0), (.getfield 360, 3, 10, 53), (.ifCond .eq 7, 3, 254, 0), (.lconst 0, 1, 0, 0), (.goto 7, 3, 258, 0)]),
  (254, [2, 4], [(.lload_n 2, 1, 0, 0), (.lload 4, 2, 0, 0), (.ldiv, 1, 0, 0)]),
  (258, [], [(.lreturn, 1, 0, 0)]),
  (259, [0, 1, 2, 4], [(.aload_n 0, 1, 0, 0), (.getfield 69, 3, 10, 40), (.iload_n 1, 1, 0, 0), (.iaload, 1, 0, 0), (.lload_n 2, 1, 0, 0), (.lload 4, 2, 0, 0), (.invokestatic 375, 3, 2, 1), (.ifCond .eq 7, 3, 278, 0), (.lconst 1, 1, 0, 0), (.goto 4, 3, 279, 0)]),
  (278, [], [(.lconst 0, 1, 0, 0)]),
  (279, [], [(.lreturn, 1, 0, 0)])], none)
noncomputable def Mo_valueOf (x1 : Int32) (M : AM) : Option (Option Value × AM) := mD C_Mo_valueOf [.ref 82, .int x1] M
noncomputable def Mo_valueOf_259 (x1 : Int32) (y2 : Int64) (y4 : Int64) (M : AM) : Option (Option Value × AM) := it C_Mo_valueOf 259 [(0, .ref 82), (1, .int x1), (2, .long y2), (4, .long y4)] [] M
noncomputable def C_Mo_lawOf : MC := (3, 2, [(0, 10, 2, mD C_Mo_valueOf)], [(0, [0, 1], [(.aload_n 0, 1, 0, 0), (.iconst 0, 1, 0, 0), (.putfield 360, 3, 10, 53), (.aload_n 0, 1, 0, 0), (.getfield 63, 3, 10, 38), (.iload_n 1, 1, 0, 0), (.iaload, 1, 0, 0), (.istore_n 2, 1, 0, 0)]),
  (12, [0, 1, 2], [(.iload_n 2, 1, 0, 0), (.aload_n 0, 1, 0, 0), (.getfield 66, 3, 10, 39), (.iload_n 1, 1, 0, 0), (.iaload, 1, 0, 0), (.if_icmp .ge 20, 3, 39, 0), (.aload_n 0, 1, 0, 0), (.getfield 88, 3, 10, 52), (.iload_n 2, 1, 0, 0), (.aload_n 0, 1, 0, 0), (.iload_n 2, 1, 0, 0), (.invokevirtual 440, 3, 0, 2), (.lastore, 1, 0, 0), (.iinc 2 1, 3, 0, 0), (.goto (-24), 3, 12, 0)]),
  (39, [0, 1], [(.aload_n 0, 1, 0, 0), (.getfield 360, 3, 10, 53), (.ifCond .eq 7, 3, 50, 0), (.lconst 0, 1, 0, 0), (.goto 16, 3, 63, 0)]),
  (50, [0, 1], [(.aload_n 0, 1, 0, 0), (.getfield 88, 3, 10, 52), (.aload_n 0, 1, 0, 0), (.getfield 66, 3, 10, 39), (.iload_n 1, 1, 0, 0), (.iaload, 1, 0, 0), (.iconst 1, 1, 0, 0), (.isub, 1, 0, 0), (.laload, 1, 0, 0)]),
  (63, [], [(.lreturn, 1, 0, 0)])], none)
noncomputable def Mo_lawOf (x1 : Int32) (M : AM) : Option (Option Value × AM) := mD C_Mo_lawOf [.ref 82, .int x1] M
noncomputable def Mo_lawOf_12 (x1 : Int32) (x2 : Int32) (M : AM) : Option (Option Value × AM) := it C_Mo_lawOf 12 [(0, .ref 82), (1, .int x1), (2, .int x2)] [] M
noncomputable def C_Mo_upLink : MC := (13, 1, [(0, 10, 4, mD C_Mo_farOf), (0, 10, 2, mD C_Mo_rootOf), (1, 0, 2, mD C_Mo_isOf), (0, 10, 5, mD C_Mo_lay), (0, 10, 2, mD C_Mo_lawOf)], [(0, [0, 1, 2, 3], [(.aload_n 0, 1, 0, 0), (.iload_n 1, 1, 0, 0), (.iload_n 2, 1, 0, 0), (.iload_n 3, 1, 0, 0), (.invokevirtual 444, 3, 0, 1), (.istore 4, 2, 0, 0), (.aload_n 0, 1, 0, 0), (.iconst (-1), 1, 0, 0), (.putfield 447, 3, 10, 76), (.iload_n 3, 1, 0, 0), (.aload_n 0, 1, 0, 0), (.iload_n 2, 1, 0, 0), (.invokevirtual 429, 3, 1, 1), (.if_icmp .eq 10, 3, 30, 0), (.iload 4, 2, 0, 0), (.bipush 99, 2, 0, 0), (.if_icmp .lt 5, 3, 32, 0)]),
  (30, [], [(.iconst (-1), 1, 0, 0), (.ireturn, 1, 0, 0)]),
  (32, [0, 1, 2, 3, 4], [(.iconst 0, 1, 0, 0), (.istore 5, 2, 0, 0)]),
  (35, [0, 1, 2, 3, 4, 5], [(.iload 5, 2, 0, 0), (.aload_n 0, 1, 0, 0), (.getfield 246, 3, 10, 13), (.if_icmp .ge 200, 3, 241, 0), (.aload_n 0, 1, 0, 0), (.getfield 91, 3, 10, 54), (.iload_n 1, 1, 0, 0), (.iaload, 1, 0, 0), (.iload 5, 2, 0, 0), (.invokestatic 279, 3, 2, 1), (.ifCond .ne 180, 3, 235, 0), (.aload_n 0, 1, 0, 0), (.getfield 36, 3, 10, 29), (.iload 5, 2, 0, 0), (.iaload, 1, 0, 0), (.iload_n 3, 1, 0, 0), (.invokestatic 279, 3, 2, 1), (.ifCond .ne 6, 3, 75, 0), (.goto 163, 3, 235, 0)]),
  (75, [0, 1, 2, 3, 4, 5], [(.lconst 0, 1, 0, 0), (.lstore 6, 2, 0, 0), (.iconst 0, 1, 0, 0), (.istore 8, 2, 0, 0)]),
  (81, [0, 1, 2, 3, 4, 5, 6, 8], [(.iload 8, 2, 0, 0), (.aload_n 0, 1, 0, 0), (.getfield 243, 3, 10, 12), (.if_icmp .ge 138, 3, 225, 0), (.iload 8, 2, 0, 0), (.iload_n 3, 1, 0, 0), (.if_icmp .eq 126, 3, 219, 0), (.aload_n 0, 1, 0, 0), (.getfield 36, 3, 10, 29), (.iload 5, 2, 0, 0), (.iaload, 1, 0, 0), (.iload 8, 2, 0, 0), (.invokestatic 279, 3, 2, 1), (.ifCond .eq 111, 3, 219, 0), (.aload_n 0, 1, 0, 0), (.getfield 124, 3, 10, 75), (.iload 8, 2, 0, 0), (.iaload, 1, 0, 0), (.aload_n 0, 1, 0, 0), (.getfield 33, 3, 10, 28), (.iload 5, 2, 0, 0), (.iaload, 1, 0, 0), (.iadd, 1, 0, 0), (.iload 4, 2, 0, 0), (.if_icmp .eq 6, 3, 134, 0), (.goto 88, 3, 219, 0)]),
  (134, [0, 1, 2, 3, 4, 5, 6, 8], [(.aload_n 0, 1, 0, 0), (.getfield 124, 3, 10, 75), (.iload 8, 2, 0, 0), (.iaload, 1, 0, 0), (.i2l, 1, 0, 0), (.lstore 9, 2, 0, 0), (.aload_n 0, 1, 0, 0), (.getfield 60, 3, 10, 37), (.iconst 0, 1, 0, 0), (.baload, 1, 0, 0), (.ifCond .eq 41, 3, 191, 0), (.aload_n 0, 1, 0, 0), (.iload_n 1, 1, 0, 0), (.iload_n 2, 1, 0, 0), (.iload 8, 2, 0, 0), (.aload_n 0, 1, 0, 0), (.getfield 124, 3, 10, 75), (.iload 8, 2, 0, 0), (.iaload, 1, 0, 0), (.invokevirtual 450, 3, 3, 0), (.aload_n 0, 1, 0, 0), (.iconst 0, 1, 0, 0), (.invokevirtual 454, 3, 4, 2), (.lstore 11, 2, 0, 0), (.aload_n 0, 1, 0, 0), (.getfield 360, 3, 10, 53), (.ifCond .eq 8, 3, 187, 0), (.lload 9, 2, 0, 0), (.goto 5, 3, 189, 0)]),
  (187, [0, 1, 2, 3, 4, 5, 6, 8, 11], [(.lload 11, 2, 0, 0)]),
  (189, [0, 1, 2, 3, 4, 5, 6, 8], [(.lstore 9, 2, 0, 0)]),
  (191, [0, 1, 2, 3, 4, 5, 6, 8, 9], [(.aload_n 0, 1, 0, 0), (.getfield 447, 3, 10, 76), (.ifCond .lt 14, 3, 209, 0), (.lload 9, 2, 0, 0), (.lload 6, 2, 0, 0), (.lcmp, 1, 0, 0), (.ifCond .lt 6, 3, 209, 0), (.goto 13, 3, 219, 0)]),
  (209, [0, 1, 2, 3, 4, 5, 8, 9], [(.aload_n 0, 1, 0, 0), (.iload 8, 2, 0, 0), (.putfield 447, 3, 10, 76), (.lload 9, 2, 0, 0), (.lstore 6, 2, 0, 0)]),
  (219, [0, 1, 2, 3, 4, 5, 6, 8], [(.iinc 8 1, 3, 0, 0), (.goto (-141), 3, 81, 0)]),
  (225, [0, 1, 2, 3, 4, 5], [(.aload_n 0, 1, 0, 0), (.getfield 447, 3, 10, 76), (.ifCond .lt 6, 3, 235, 0), (.iload 5, 2, 0, 0), (.ireturn, 1, 0, 0)]),
  (235, [0, 1, 2, 3, 4, 5], [(.iinc 5 1, 3, 0, 0), (.goto (-203), 3, 35, 0)]),
  (241, [], [(.iconst (-1), 1, 0, 0), (.ireturn, 1, 0, 0)])], none)
noncomputable def Mo_upLink (x1 : Int32) (x2 : Int32) (x3 : Int32) (M : AM) : Option (Option Value × AM) := mD C_Mo_upLink [.ref 82, .int x1, .int x2, .int x3] M
noncomputable def Mo_upLink_35 (x1 : Int32) (x2 : Int32) (x3 : Int32) (x4 : Int32) (x5 : Int32) (M : AM) : Option (Option Value × AM) := it C_Mo_upLink 35 [(0, .ref 82), (1, .int x1), (2, .int x2), (3, .int x3), (4, .int x4), (5, .int x5)] [] M
noncomputable def Mo_upLink_81 (x1 : Int32) (x2 : Int32) (x3 : Int32) (x4 : Int32) (x5 : Int32) (y6 : Int64) (x8 : Int32) (M : AM) : Option (Option Value × AM) := it C_Mo_upLink 81 [(0, .ref 82), (1, .int x1), (2, .int x2), (3, .int x3), (4, .int x4), (5, .int x5), (6, .long y6), (8, .int x8)] [] M
noncomputable def Mo_upLink_191 (x1 : Int32) (x2 : Int32) (x3 : Int32) (x4 : Int32) (x5 : Int32) (y6 : Int64) (x8 : Int32) (y9 : Int64) (M : AM) : Option (Option Value × AM) := it C_Mo_upLink 191 [(0, .ref 82), (1, .int x1), (2, .int x2), (3, .int x3), (4, .int x4), (5, .int x5), (6, .long y6), (8, .int x8), (9, .long y9)] [] M
noncomputable def C_Mo_up : MC := (5, 1, [(0, 10, 2, mD C_Mo_isTree), (0, 10, 2, mD C_Mo_isNode), (1, 0, 3, mD C_Mo_isIn), (0, 10, 1, mD C_Mo_plainTried), (0, 10, 4, mD C_Mo_upLink)], [(0, [0, 1, 2, 3], [(.aload_n 0, 1, 0, 0), (.iconst 0, 1, 0, 0), (.putfield 160, 3, 10, 2), (.aload_n 0, 1, 0, 0), (.iload_n 1, 1, 0, 0), (.invokevirtual 516, 3, 0, 1), (.ifCond .eq 20, 3, 30, 0), (.aload_n 0, 1, 0, 0), (.iload_n 2, 1, 0, 0), (.invokevirtual 507, 3, 1, 1), (.ifCond .eq 12, 3, 30, 0), (.iload_n 3, 1, 0, 0), (.iconst 0, 1, 0, 0), (.iconst 1, 1, 0, 0), (.invokestatic 205, 3, 2, 1), (.ifCond .ne 5, 3, 32, 0)]),
  (30, [], [(.iconst (-1), 1, 0, 0), (.ireturn, 1, 0, 0)]),
  (32, [0, 1, 2, 3], [(.aload_n 0, 1, 0, 0), (.invokevirtual 383, 3, 3, 0), (.aload_n 0, 1, 0, 0), (.iconst 0, 1, 0, 0), (.iload_n 1, 1, 0, 0), (.iload_n 2, 1, 0, 0), (.invokevirtual 474, 3, 4, 1), (.istore 4, 2, 0, 0), (.iload 4, 2, 0, 0), (.ifCond .ge 8, 3, 55, 0), (.bipush (-2), 2, 0, 0), (.goto 16, 3, 68, 0)]),
  (55, [0, 3, 4], [(.iload_n 3, 1, 0, 0), (.ifCond .ne 8, 3, 64, 0), (.iload 4, 2, 0, 0), (.goto 7, 3, 68, 0)]),
  (64, [0], [(.aload_n 0, 1, 0, 0), (.getfield 447, 3, 10, 76)]),
  (68, [], [(.ireturn, 1, 0, 0)])], none)
noncomputable def Mo_up (x1 : Int32) (x2 : Int32) (x3 : Int32) (M : AM) : Option (Option Value × AM) := mD C_Mo_up [.ref 82, .int x1, .int x2, .int x3] M
noncomputable def C_Mo_held : MC := (4, 1, [(0, 10, 2, mD C_Mo_isTree), (0, 10, 2, mD C_Mo_isNode), (0, 10, 2, mD C_Mo_isLink), (0, 10, 5, mD C_Mo_heldAt)], [(0, [0, 1, 2, 3], [(.aload_n 0, 1, 0, 0), (.iconst 0, 1, 0, 0), (.putfield 160, 3, 10, 2), (.aload_n 0, 1, 0, 0), (.iload_n 1, 1, 0, 0), (.invokevirtual 516, 3, 0, 1), (.ifCond .eq 30, 3, 40, 0), (.aload_n 0, 1, 0, 0), (.iload_n 2, 1, 0, 0), (.invokevirtual 507, 3, 1, 1), (.ifCond .eq 22, 3, 40, 0), (.aload_n 0, 1, 0, 0), (.iload_n 3, 1, 0, 0), (.invokevirtual 513, 3, 2, 1), (.ifCond .eq 14, 3, 40, 0), (.aload_n 0, 1, 0, 0), (.iconst 0, 1, 0, 0), (.iload_n 1, 1, 0, 0), (.iload_n 2, 1, 0, 0), (.iload_n 3, 1, 0, 0), (.invokevirtual 422, 3, 3, 1), (.goto 4, 3, 41, 0)]),
  (40, [], [(.iconst (-1), 1, 0, 0)]),
  (41, [], [(.ireturn, 1, 0, 0)])], none)
noncomputable def Mo_held (x1 : Int32) (x2 : Int32) (x3 : Int32) (M : AM) : Option (Option Value × AM) := mD C_Mo_held [.ref 82, .int x1, .int x2, .int x3] M
noncomputable def C_Mo_wantsNow : MC := (4, 3, [(0, 10, 4, mD C_Mo_heldMany), (1, 0, 2, mD C_Mo_isOf)], [(0, [0, 1, 2, 3], [(.aload_n 0, 1, 0, 0), (.iload_n 1, 1, 0, 0), (.iload_n 2, 1, 0, 0), (.iload_n 3, 1, 0, 0), (.invokevirtual 436, 3, 0, 1), (.ifCond .le 5, 3, 12, 0), (.iconst 1, 1, 0, 0), (.ireturn, 1, 0, 0)]),
  (12, [0, 1, 2, 3], [(.iload_n 2, 1, 0, 0), (.ifCond .ne 14, 3, 27, 0), (.aload_n 0, 1, 0, 0), (.getfield 94, 3, 10, 55), (.iload_n 1, 1, 0, 0), (.iaload, 1, 0, 0), (.iload_n 3, 1, 0, 0), (.invokestatic 279, 3, 1, 1), (.ireturn, 1, 0, 0)]),
  (27, [0, 1, 2, 3], [(.aload_n 0, 1, 0, 0), (.getfield 94, 3, 10, 55), (.iload_n 1, 1, 0, 0), (.iaload, 1, 0, 0), (.iload_n 3, 1, 0, 0), (.invokestatic 279, 3, 1, 1), (.ifCond .eq 24, 3, 61, 0), (.aload_n 0, 1, 0, 0), (.getfield 97, 3, 10, 56), (.iconst 3, 1, 0, 0), (.iload_n 1, 1, 0, 0), (.imul, 1, 0, 0), (.iload_n 2, 1, 0, 0), (.iadd, 1, 0, 0), (.iconst 1, 1, 0, 0), (.isub, 1, 0, 0), (.iaload, 1, 0, 0), (.iload_n 3, 1, 0, 0), (.invokestatic 279, 3, 1, 1), (.ifCond .eq 5, 3, 61, 0), (.iconst 1, 1, 0, 0), (.ireturn, 1, 0, 0)]),
  (61, [0, 1, 3], [(.iload_n 3, 1, 0, 0), (.aload_n 0, 1, 0, 0), (.getfield 20, 3, 10, 24), (.iconst 0, 1, 0, 0), (.iaload, 1, 0, 0), (.if_icmp .ne 30, 3, 98, 0), (.aload_n 0, 1, 0, 0), (.iload_n 1, 1, 0, 0), (.iconst 0, 1, 0, 0), (.iload_n 3, 1, 0, 0), (.invokevirtual 436, 3, 0, 1), (.ifCond .gt 16, 3, 94, 0), (.aload_n 0, 1, 0, 0), (.getfield 94, 3, 10, 55), (.iload_n 1, 1, 0, 0), (.iaload, 1, 0, 0), (.iload_n 3, 1, 0, 0), (.invokestatic 279, 3, 1, 1), (.ifCond .eq 7, 3, 98, 0)]),
  (94, [], [(.iconst 1, 1, 0, 0), (.goto 4, 3, 99, 0)]),
  (98, [], [(.iconst 0, 1, 0, 0)]),
  (99, [], [(.ireturn, 1, 0, 0)])], none)
noncomputable def Mo_wantsNow (x1 : Int32) (x2 : Int32) (x3 : Int32) (M : AM) : Option (Option Value × AM) := mD C_Mo_wantsNow [.ref 82, .int x1, .int x2, .int x3] M
noncomputable def Mo_wantsNow_61 (x1 : Int32) (x3 : Int32) (M : AM) : Option (Option Value × AM) := it C_Mo_wantsNow 61 [(0, .ref 82), (1, .int x1), (3, .int x3)] [] M
noncomputable def C_Mo_wants : MC := (3, 1, [(0, 10, 2, mD C_Mo_isTree), (0, 10, 2, mD C_Mo_isNode), (0, 10, 4, mD C_Mo_wantsNow)], [(0, [0, 1, 2], [(.aload_n 0, 1, 0, 0), (.iconst 0, 1, 0, 0), (.putfield 160, 3, 10, 2), (.aload_n 0, 1, 0, 0), (.iload_n 1, 1, 0, 0), (.invokevirtual 516, 3, 0, 1), (.ifCond .eq 29, 3, 39, 0), (.aload_n 0, 1, 0, 0), (.iload_n 2, 1, 0, 0), (.invokevirtual 507, 3, 1, 1), (.ifCond .eq 21, 3, 39, 0), (.aload_n 0, 1, 0, 0), (.iconst 0, 1, 0, 0), (.iload_n 1, 1, 0, 0), (.iload_n 2, 1, 0, 0), (.invokevirtual 471, 3, 2, 1), (.ifCond .eq 7, 3, 35, 0), (.iconst 1, 1, 0, 0), (.goto 8, 3, 40, 0)]),
  (35, [], [(.iconst 0, 1, 0, 0), (.goto 4, 3, 40, 0)]),
  (39, [], [(.iconst (-1), 1, 0, 0)]),
  (40, [], [(.ireturn, 1, 0, 0)])], none)
noncomputable def Mo_wants (x1 : Int32) (x2 : Int32) (M : AM) : Option (Option Value × AM) := mD C_Mo_wants [.ref 82, .int x1, .int x2] M
noncomputable def C_Mo_law : MC := (6, 2, [(1, 0, 3, mD C_Mo_isIn), (0, 10, 2, mD C_Mo_isTree), (0, 10, 2, mD C_Mo_isNode), (0, 10, 1, mD C_Mo_plainTried), (0, 10, 4, mD C_Mo_farOf), (0, 10, 5, mD C_Mo_lay), (0, 10, 2, mD C_Mo_lawOf)], [(0, [0, 1, 2, 3], [(.aload_n 0, 1, 0, 0), (.iconst 0, 1, 0, 0), (.putfield 160, 3, 10, 2), (.iload_n 1, 1, 0, 0), (.iconst 0, 1, 0, 0), (.iconst 2, 1, 0, 0), (.invokestatic 205, 3, 0, 1), (.ifCond .eq 37, 3, 48, 0), (.aload_n 0, 1, 0, 0), (.getfield 60, 3, 10, 37), (.iload_n 1, 1, 0, 0), (.baload, 1, 0, 0), (.ifCond .eq 28, 3, 48, 0), (.aload_n 0, 1, 0, 0), (.iload_n 2, 1, 0, 0), (.invokevirtual 516, 3, 1, 1), (.ifCond .eq 20, 3, 48, 0), (.aload_n 0, 1, 0, 0), (.iload_n 3, 1, 0, 0), (.invokevirtual 507, 3, 2, 1), (.ifCond .eq 12, 3, 48, 0), (.iload_n 1, 1, 0, 0), (.iconst 1, 1, 0, 0), (.if_icmp .ne 11, 3, 52, 0), (.iload_n 2, 1, 0, 0), (.ifCond .ne 7, 3, 52, 0)]),
  (48, [], [(.ldc2_w 519, 3, 9223372036854775808, 0), (.lreturn, 1, 0, 0)]),
  (52, [0, 1, 2, 3], [(.aload_n 0, 1, 0, 0), (.invokevirtual 383, 3, 3, 0), (.aload_n 0, 1, 0, 0), (.iconst 0, 1, 0, 0), (.iload_n 2, 1, 0, 0), (.iload_n 3, 1, 0, 0), (.aload_n 0, 1, 0, 0), (.iconst 0, 1, 0, 0), (.iload_n 2, 1, 0, 0), (.iload_n 3, 1, 0, 0), (.invokevirtual 444, 3, 4, 1), (.invokevirtual 450, 3, 5, 0), (.aload_n 0, 1, 0, 0), (.iload_n 1, 1, 0, 0), (.invokevirtual 454, 3, 6, 2), (.lstore 4, 2, 0, 0), (.aload_n 0, 1, 0, 0), (.getfield 360, 3, 10, 53), (.ifCond .eq 9, 3, 90, 0), (.ldc2_w 519, 3, 9223372036854775808, 0), (.goto 5, 3, 92, 0)]),
  (90, [4], [(.lload 4, 2, 0, 0)]),
  (92, [], [(.lreturn, 1, 0, 0)])], none)
noncomputable def Mo_law (x1 : Int32) (x2 : Int32) (x3 : Int32) (M : AM) : Option (Option Value × AM) := mD C_Mo_law [.ref 82, .int x1, .int x2, .int x3] M
noncomputable def Mo_law_52 (x1 : Int32) (x2 : Int32) (x3 : Int32) (M : AM) : Option (Option Value × AM) := it C_Mo_law 52 [(0, .ref 82), (1, .int x1), (2, .int x2), (3, .int x3)] [] M
noncomputable def C_Mo_put : MC := (4, 0, [], [(0, [0, 1, 2], [(.aload_n 1, 1, 0, 0), (.iload_n 2, 1, 0, 0), (.aload_n 0, 1, 0, 0), (.getfield 91, 3, 10, 54), (.iconst 0, 1, 0, 0), (.iaload, 1, 0, 0), (.iastore, 1, 0, 0), (.aload_n 1, 1, 0, 0), (.iload_n 2, 1, 0, 0), (.iconst 1, 1, 0, 0), (.iadd, 1, 0, 0), (.aload_n 0, 1, 0, 0), (.getfield 94, 3, 10, 55), (.iconst 0, 1, 0, 0), (.iaload, 1, 0, 0), (.iastore, 1, 0, 0), (.aload_n 1, 1, 0, 0), (.iload_n 2, 1, 0, 0), (.iconst 2, 1, 0, 0), (.iadd, 1, 0, 0), (.aload_n 0, 1, 0, 0), (.getfield 112, 3, 10, 61), (.iconst 0, 1, 0, 0), (.iaload, 1, 0, 0), (.iastore, 1, 0, 0), (.aload_n 1, 1, 0, 0), (.iload_n 2, 1, 0, 0), (.iconst 3, 1, 0, 0), (.iadd, 1, 0, 0), (.aload_n 0, 1, 0, 0), (.getfield 115, 3, 10, 62), (.iconst 0, 1, 0, 0), (.iaload, 1, 0, 0), (.iastore, 1, 0, 0), (.aload_n 1, 1, 0, 0), (.iload_n 2, 1, 0, 0), (.iconst 4, 1, 0, 0), (.iadd, 1, 0, 0), (.aload_n 0, 1, 0, 0), (.getfield 118, 3, 10, 63), (.iconst 0, 1, 0, 0), (.iaload, 1, 0, 0), (.iastore, 1, 0, 0), (.iconst 0, 1, 0, 0), (.istore_n 3, 1, 0, 0)]),
  (55, [0, 1, 2, 3], [(.iload_n 3, 1, 0, 0), (.iconst 3, 1, 0, 0), (.if_icmp .ge 22, 3, 79, 0), (.aload_n 1, 1, 0, 0), (.iload_n 2, 1, 0, 0), (.iconst 5, 1, 0, 0), (.iadd, 1, 0, 0), (.iload_n 3, 1, 0, 0), (.iadd, 1, 0, 0), (.aload_n 0, 1, 0, 0), (.getfield 97, 3, 10, 56), (.iload_n 3, 1, 0, 0), (.iaload, 1, 0, 0), (.iastore, 1, 0, 0), (.iinc 3 1, 3, 0, 0), (.goto (-21), 3, 55, 0)]),
  (79, [0, 1, 2], [(.iconst 0, 1, 0, 0), (.istore_n 3, 1, 0, 0)]),
  (81, [0, 1, 2, 3], [(.iload_n 3, 1, 0, 0), (.bipush 7, 2, 0, 0), (.if_icmp .ge 51, 3, 135, 0), (.aload_n 1, 1, 0, 0), (.iload_n 2, 1, 0, 0), (.bipush 8, 2, 0, 0), (.iadd, 1, 0, 0), (.iload_n 3, 1, 0, 0), (.iadd, 1, 0, 0), (.aload_n 0, 1, 0, 0), (.getfield 103, 3, 10, 58), (.iload_n 3, 1, 0, 0), (.iaload, 1, 0, 0), (.iastore, 1, 0, 0), (.aload_n 1, 1, 0, 0), (.iload_n 2, 1, 0, 0), (.bipush 15, 2, 0, 0), (.iadd, 1, 0, 0), (.iload_n 3, 1, 0, 0), (.iadd, 1, 0, 0), (.aload_n 0, 1, 0, 0), (.getfield 106, 3, 10, 59), (.iload_n 3, 1, 0, 0), (.iaload, 1, 0, 0), (.iastore, 1, 0, 0), (.aload_n 1, 1, 0, 0), (.iload_n 2, 1, 0, 0), (.bipush 22, 2, 0, 0), (.iadd, 1, 0, 0), (.iload_n 3, 1, 0, 0), (.iadd, 1, 0, 0), (.aload_n 0, 1, 0, 0), (.getfield 109, 3, 10, 60), (.iload_n 3, 1, 0, 0), (.iaload, 1, 0, 0), (.iastore, 1, 0, 0), (.iinc 3 1, 3, 0, 0), (.goto (-51), 3, 81, 0)]),
  (135, [0, 1, 2], [(.iconst 0, 1, 0, 0), (.istore_n 3, 1, 0, 0)]),
  (137, [0, 1, 2, 3], [(.iload_n 3, 1, 0, 0), (.sipush 224, 3, 0, 0), (.if_icmp .ge 23, 3, 164, 0), (.aload_n 1, 1, 0, 0), (.iload_n 2, 1, 0, 0), (.bipush 29, 2, 0, 0), (.iadd, 1, 0, 0), (.iload_n 3, 1, 0, 0), (.iadd, 1, 0, 0), (.aload_n 0, 1, 0, 0), (.getfield 100, 3, 10, 57), (.iload_n 3, 1, 0, 0), (.iaload, 1, 0, 0), (.iastore, 1, 0, 0), (.iinc 3 1, 3, 0, 0), (.goto (-24), 3, 137, 0)]),
  (164, [], [(.return_, 1, 0, 0)])], none)
noncomputable def Mo_put (o1 : Nat) (x2 : Int32) (M : AM) : Option (Option Value × AM) := mD C_Mo_put [.ref 82, .ref o1, .int x2] M
noncomputable def Mo_put_55 (o1 : Nat) (x2 : Int32) (x3 : Int32) (M : AM) : Option (Option Value × AM) := it C_Mo_put 55 [(0, .ref 82), (1, .ref o1), (2, .int x2), (3, .int x3)] [] M
noncomputable def Mo_put_81 (o1 : Nat) (x2 : Int32) (x3 : Int32) (M : AM) : Option (Option Value × AM) := it C_Mo_put 81 [(0, .ref 82), (1, .ref o1), (2, .int x2), (3, .int x3)] [] M
noncomputable def Mo_put_137 (o1 : Nat) (x2 : Int32) (x3 : Int32) (M : AM) : Option (Option Value × AM) := it C_Mo_put 137 [(0, .ref 82), (1, .ref o1), (2, .int x2), (3, .int x3)] [] M
noncomputable def C_Mo_remember : MC := (2, 0, [(0, 10, 3, mD C_Mo_put)], [(0, [0], [(.aload_n 0, 1, 0, 0), (.getfield 389, 3, 10, 85), (.bipush 20, 2, 0, 0), (.if_icmp .ne 44, 3, 50, 0), (.iconst 0, 1, 0, 0), (.istore_n 1, 1, 0, 0)]),
  (11, [0, 1], [(.iload_n 1, 1, 0, 0), (.sipush 4807, 3, 0, 0), (.if_icmp .ge 25, 3, 40, 0), (.aload_n 0, 1, 0, 0), (.getfield 148, 3, 10, 86), (.iload_n 1, 1, 0, 0), (.aload_n 0, 1, 0, 0), (.getfield 148, 3, 10, 86), (.iload_n 1, 1, 0, 0), (.sipush 253, 3, 0, 0), (.iadd, 1, 0, 0), (.iaload, 1, 0, 0), (.iastore, 1, 0, 0), (.iinc 1 1, 3, 0, 0), (.goto (-26), 3, 11, 0)]),
  (40, [0], [(.aload_n 0, 1, 0, 0), (.dup, 1, 0, 0), (.getfield 389, 3, 10, 85), (.iconst 1, 1, 0, 0), (.isub, 1, 0, 0), (.putfield 389, 3, 10, 85)]),
  (50, [0], [(.aload_n 0, 1, 0, 0), (.aload_n 0, 1, 0, 0), (.getfield 148, 3, 10, 86), (.sipush 253, 3, 0, 0), (.aload_n 0, 1, 0, 0), (.getfield 389, 3, 10, 85), (.imul, 1, 0, 0), (.invokevirtual 580, 3, 0, 0), (.aload_n 0, 1, 0, 0), (.dup, 1, 0, 0), (.getfield 389, 3, 10, 85), (.iconst 1, 1, 0, 0), (.iadd, 1, 0, 0), (.putfield 389, 3, 10, 85), (.return_, 1, 0, 0)])], none)
noncomputable def Mo_remember (M : AM) : Option (Option Value × AM) := mD C_Mo_remember [.ref 82] M
noncomputable def Mo_remember_50 (M : AM) : Option (Option Value × AM) := it C_Mo_remember 50 [(0, .ref 82)] [] M
noncomputable def Mo_remember_11 (x1 : Int32) (M : AM) : Option (Option Value × AM) := it C_Mo_remember 11 [(0, .ref 82), (1, .int x1)] [] M
noncomputable def C_Mo_stopsListening : MC := (4, 0, [], [(0, [0, 1, 2], [(.aload_n 0, 1, 0, 0), (.getfield 94, 3, 10, 55), (.iload_n 1, 1, 0, 0), (.dup2, 1, 0, 0), (.iaload, 1, 0, 0), (.iconst 1, 1, 0, 0), (.iload_n 2, 1, 0, 0), (.ishl, 1, 0, 0), (.iconst (-1), 1, 0, 0), (.ixor, 1, 0, 0), (.iand, 1, 0, 0), (.iastore, 1, 0, 0), (.iconst 0, 1, 0, 0), (.istore_n 3, 1, 0, 0)]),
  (16, [0, 1, 2, 3], [(.iload_n 3, 1, 0, 0), (.iconst 3, 1, 0, 0), (.if_icmp .ge 27, 3, 45, 0), (.aload_n 0, 1, 0, 0), (.getfield 97, 3, 10, 56), (.iconst 3, 1, 0, 0), (.iload_n 1, 1, 0, 0), (.imul, 1, 0, 0), (.iload_n 3, 1, 0, 0), (.iadd, 1, 0, 0), (.dup2, 1, 0, 0), (.iaload, 1, 0, 0), (.iconst 1, 1, 0, 0), (.iload_n 2, 1, 0, 0), (.ishl, 1, 0, 0), (.iconst (-1), 1, 0, 0), (.ixor, 1, 0, 0), (.iand, 1, 0, 0), (.iastore, 1, 0, 0), (.iinc 3 1, 3, 0, 0), (.goto (-26), 3, 16, 0)]),
  (45, [], [(.return_, 1, 0, 0)])], none)
noncomputable def Mo_stopsListening (x1 : Int32) (x2 : Int32) (M : AM) : Option (Option Value × AM) := mD C_Mo_stopsListening [.ref 82, .int x1, .int x2] M
noncomputable def Mo_stopsListening_16 (x1 : Int32) (x2 : Int32) (x3 : Int32) (M : AM) : Option (Option Value × AM) := it C_Mo_stopsListening 16 [(0, .ref 82), (1, .int x1), (2, .int x2), (3, .int x3)] [] M
noncomputable def C_Mo_listen : MC := (2, 1, [(0, 10, 2, mD C_Mo_isNode), (0, 10, 1, mD C_Mo_remember), (1, 0, 2, mD C_Mo_isOf), (0, 10, 3, mD C_Mo_stopsListening)], [(0, [0, 1], [(.aload_n 0, 1, 0, 0), (.iconst 0, 1, 0, 0), (.putfield 160, 3, 10, 2), (.aload_n 0, 1, 0, 0), (.iload_n 1, 1, 0, 0), (.invokevirtual 507, 3, 0, 1), (.ifCond .ne 5, 3, 15, 0), (.iconst (-1), 1, 0, 0), (.ireturn, 1, 0, 0)]),
  (15, [0, 1], [(.aload_n 0, 1, 0, 0), (.invokevirtual 521, 3, 1, 0), (.aload_n 0, 1, 0, 0), (.getfield 94, 3, 10, 55), (.iconst 0, 1, 0, 0), (.iaload, 1, 0, 0), (.iload_n 1, 1, 0, 0), (.invokestatic 279, 3, 2, 1), (.ifCond .eq 12, 3, 41, 0), (.aload_n 0, 1, 0, 0), (.iconst 0, 1, 0, 0), (.iload_n 1, 1, 0, 0), (.invokevirtual 468, 3, 3, 0), (.goto 15, 3, 53, 0)]),
  (41, [0, 1], [(.aload_n 0, 1, 0, 0), (.getfield 94, 3, 10, 55), (.iconst 0, 1, 0, 0), (.dup2, 1, 0, 0), (.iaload, 1, 0, 0), (.iconst 1, 1, 0, 0), (.iload_n 1, 1, 0, 0), (.ishl, 1, 0, 0), (.ior, 1, 0, 0), (.iastore, 1, 0, 0)]),
  (53, [0, 1], [(.aload_n 0, 1, 0, 0), (.getfield 94, 3, 10, 55), (.iconst 0, 1, 0, 0), (.iaload, 1, 0, 0), (.iload_n 1, 1, 0, 0), (.ishr, 1, 0, 0), (.iconst 1, 1, 0, 0), (.iand, 1, 0, 0), (.ireturn, 1, 0, 0)])], none)
noncomputable def Mo_listen (x1 : Int32) (M : AM) : Option (Option Value × AM) := mD C_Mo_listen [.ref 82, .int x1] M
noncomputable def C_Mo_cut : MC := (2, 1, [(0, 10, 2, mD C_Mo_isLink), (0, 10, 1, mD C_Mo_remember)], [(0, [0, 1], [(.aload_n 0, 1, 0, 0), (.iconst 0, 1, 0, 0), (.putfield 160, 3, 10, 2), (.aload_n 0, 1, 0, 0), (.iload_n 1, 1, 0, 0), (.invokevirtual 513, 3, 0, 1), (.ifCond .ne 5, 3, 15, 0), (.iconst (-1), 1, 0, 0), (.ireturn, 1, 0, 0)]),
  (15, [0, 1], [(.aload_n 0, 1, 0, 0), (.invokevirtual 521, 3, 1, 0), (.aload_n 0, 1, 0, 0), (.getfield 91, 3, 10, 54), (.iconst 0, 1, 0, 0), (.dup2, 1, 0, 0), (.iaload, 1, 0, 0), (.iconst 1, 1, 0, 0), (.iload_n 1, 1, 0, 0), (.ishl, 1, 0, 0), (.ixor, 1, 0, 0), (.iastore, 1, 0, 0), (.aload_n 0, 1, 0, 0), (.getfield 91, 3, 10, 54), (.iconst 0, 1, 0, 0), (.iaload, 1, 0, 0), (.iload_n 1, 1, 0, 0), (.ishr, 1, 0, 0), (.iconst 1, 1, 0, 0), (.iand, 1, 0, 0), (.ireturn, 1, 0, 0)])], none)
noncomputable def Mo_cut (x1 : Int32) (M : AM) : Option (Option Value × AM) := mD C_Mo_cut [.ref 82, .int x1] M
noncomputable def C_Mo_isSource : MC := (2, 3, [], [(0, [0, 1], [(.iload_n 1, 1, 0, 0), (.ifCond .lt 15, 3, 16, 0), (.iload_n 1, 1, 0, 0), (.aload_n 0, 1, 0, 0), (.getfield 249, 3, 10, 14), (.if_icmp .ge 7, 3, 16, 0), (.iconst 1, 1, 0, 0), (.goto 4, 3, 17, 0)]),
  (16, [], [(.iconst 0, 1, 0, 0)]),
  (17, [], [(.ireturn, 1, 0, 0)])], none)
noncomputable def Mo_isSource (x1 : Int32) (M : AM) : Option (Option Value × AM) := mD C_Mo_isSource [.ref 82, .int x1] M
noncomputable def C_Mo_number1 : MC := (2, 1, [], [(0, [0, 1], [(.aload_n 0, 1, 0, 0), (.aload_n 0, 1, 0, 0), (.getfield 379, 3, 10, 65), (.ldc2_w 457, 3, 1103515245, 0), (.lmul, 1, 0, 0), (.ldc2_w 459, 3, 12345, 0), (.ladd, 1, 0, 0), (.ldc2_w 461, 3, 2147483647, 0), (.land, 1, 0, 0), (.putfield 379, 3, 10, 65), (.aload_n 0, 1, 0, 0), (.getfield 379, 3, 10, 65), (.ldc2_w 463, 3, 65536, 0), (.ldiv, 1, 0, 0), (.iload_n 1, 1, 0, 0), (.i2l, 1, 0, 0), (.lrem, 1, 0, 0), (.l2i, 1, 0, 0), (.ireturn, 1, 0, 0)])], none)
noncomputable def Mo_number1 (x1 : Int32) (M : AM) : Option (Option Value × AM) := mD C_Mo_number1 [.ref 82, .int x1] M
noncomputable def C_Mo_isLost : MC := (2, 3, [(0, 10, 2, mD C_Mo_number1)], [(0, [0], [(.aload_n 0, 1, 0, 0), (.getfield 398, 3, 10, 67), (.ifCond .eq 7, 3, 11, 0), (.iconst 0, 1, 0, 0), (.goto 9, 3, 17, 0)]),
  (11, [0], [(.aload_n 0, 1, 0, 0), (.getfield 27, 3, 10, 26), (.iconst 1, 1, 0, 0), (.iaload, 1, 0, 0)]),
  (17, [0], [(.istore_n 1, 1, 0, 0), (.iload_n 1, 1, 0, 0), (.bipush 100, 2, 0, 0), (.if_icmp .eq 33, 3, 54, 0), (.iload_n 1, 1, 0, 0), (.ifCond .le 33, 3, 58, 0), (.aload_n 0, 1, 0, 0), (.getfield 395, 3, 10, 66), (.ifCond .eq 16, 3, 48, 0), (.aload_n 0, 1, 0, 0), (.bipush 100, 2, 0, 0), (.invokevirtual 465, 3, 0, 1), (.iload_n 1, 1, 0, 0), (.if_icmp .ge 16, 3, 58, 0), (.goto 9, 3, 54, 0)]),
  (48, [1], [(.iload_n 1, 1, 0, 0), (.bipush 50, 2, 0, 0), (.if_icmp .lt 7, 3, 58, 0)]),
  (54, [], [(.iconst 1, 1, 0, 0), (.goto 4, 3, 59, 0)]),
  (58, [], [(.iconst 0, 1, 0, 0)]),
  (59, [], [(.ireturn, 1, 0, 0)])], none)
noncomputable def Mo_isLost (M : AM) : Option (Option Value × AM) := mD C_Mo_isLost [.ref 82] M
noncomputable def Mo_isLost_17 (z0 : Int32) (M : AM) : Option (Option Value × AM) := it C_Mo_isLost 17 [(0, .ref 82)] [.int z0] M
noncomputable def C_Mo_cameTo : MC := (8, 1, [(1, 0, 2, mD C_Mo_isOf), (0, 10, 4, mD C_Mo_upLink)], [(0, [0, 1, 2, 3, 4, 5], [(.iconst 0, 1, 0, 0), (.istore 6, 2, 0, 0), (.iconst 0, 1, 0, 0), (.istore 7, 2, 0, 0)]),
  (6, [0, 1, 2, 3, 4, 5, 6, 7], [(.iload 7, 2, 0, 0), (.aload_n 0, 1, 0, 0), (.getfield 243, 3, 10, 12), (.if_icmp .ge 124, 3, 136, 0), (.iload 7, 2, 0, 0), (.iload 4, 2, 0, 0), (.if_icmp .eq 111, 3, 130, 0), (.aload_n 0, 1, 0, 0), (.getfield 36, 3, 10, 29), (.iload 5, 2, 0, 0), (.iaload, 1, 0, 0), (.iload 7, 2, 0, 0), (.invokestatic 279, 3, 0, 1), (.ifCond .eq 96, 3, 130, 0), (.aload_n 0, 1, 0, 0), (.getfield 130, 3, 10, 78), (.iload_n 2, 1, 0, 0), (.iaload, 1, 0, 0), (.iload 7, 2, 0, 0), (.invokestatic 279, 3, 0, 1), (.ifCond .eq 6, 3, 54, 0), (.goto 79, 3, 130, 0)]),
  (54, [0, 1, 2, 3, 4, 5, 6, 7], [(.iload_n 2, 1, 0, 0), (.ifCond .ne 40, 3, 95, 0), (.aload_n 0, 1, 0, 0), (.getfield 97, 3, 10, 56), (.iconst 3, 1, 0, 0), (.iload_n 1, 1, 0, 0), (.imul, 1, 0, 0), (.iload_n 3, 1, 0, 0), (.iadd, 1, 0, 0), (.iaload, 1, 0, 0), (.iload 7, 2, 0, 0), (.invokestatic 279, 3, 0, 1), (.ifCond .eq 22, 3, 95, 0), (.aload_n 0, 1, 0, 0), (.getfield 130, 3, 10, 78), (.iconst 1, 1, 0, 0), (.iload_n 3, 1, 0, 0), (.iadd, 1, 0, 0), (.iaload, 1, 0, 0), (.iload 7, 2, 0, 0), (.invokestatic 279, 3, 0, 1), (.ifCond .eq 6, 3, 95, 0), (.goto 38, 3, 130, 0)]),
  (95, [0, 1, 2, 3, 4, 5, 6, 7], [(.iload 6, 2, 0, 0), (.aload_n 0, 1, 0, 0), (.iload_n 1, 1, 0, 0), (.iload_n 2, 1, 0, 0), (.iload 7, 2, 0, 0), (.invokevirtual 474, 3, 1, 1), (.iload 5, 2, 0, 0), (.if_icmp .ne 19, 3, 126, 0), (.aload_n 0, 1, 0, 0), (.getfield 447, 3, 10, 76), (.iload 4, 2, 0, 0), (.if_icmp .ne 10, 3, 126, 0), (.iconst 1, 1, 0, 0), (.iload 7, 2, 0, 0), (.ishl, 1, 0, 0), (.goto 4, 3, 127, 0)]),
  (126, [0, 1, 2, 3, 4, 5, 7], [(.iconst 0, 1, 0, 0)]),
  (127, [0, 1, 2, 3, 4, 5, 7], [(.ior, 1, 0, 0), (.istore 6, 2, 0, 0)]),
  (130, [0, 1, 2, 3, 4, 5, 6, 7], [(.iinc 7 1, 3, 0, 0), (.goto (-127), 3, 6, 0)]),
  (136, [6], [(.iload 6, 2, 0, 0), (.ireturn, 1, 0, 0)])], none)
noncomputable def Mo_cameTo (x1 : Int32) (x2 : Int32) (x3 : Int32) (x4 : Int32) (x5 : Int32) (M : AM) : Option (Option Value × AM) := mD C_Mo_cameTo [.ref 82, .int x1, .int x2, .int x3, .int x4, .int x5] M
noncomputable def Mo_cameTo_6 (x1 : Int32) (x2 : Int32) (x3 : Int32) (x4 : Int32) (x5 : Int32) (x6 : Int32) (x7 : Int32) (M : AM) : Option (Option Value × AM) := it C_Mo_cameTo 6 [(0, .ref 82), (1, .int x1), (2, .int x2), (3, .int x3), (4, .int x4), (5, .int x5), (6, .int x6), (7, .int x7)] [] M
noncomputable def Mo_cameTo_95 (x1 : Int32) (x2 : Int32) (x3 : Int32) (x4 : Int32) (x5 : Int32) (x6 : Int32) (x7 : Int32) (M : AM) : Option (Option Value × AM) := it C_Mo_cameTo 95 [(0, .ref 82), (1, .int x1), (2, .int x2), (3, .int x3), (4, .int x4), (5, .int x5), (6, .int x6), (7, .int x7)] [] M
noncomputable def C_Mo_goesDown : MC := (9, 0, [(0, 10, 2, mD C_Mo_rootOf), (1, 0, 2, mD C_Mo_isOf), (0, 10, 5, mD C_Mo_heldAt), (0, 10, 1, mD C_Mo_isLost), (0, 10, 6, mD C_Mo_cameTo)], [(0, [0, 1, 2, 3], [(.iconst 0, 1, 0, 0), (.istore 4, 2, 0, 0)]),
  (3, [0, 1, 2, 3, 4], [(.iload 4, 2, 0, 0), (.bipush 8, 2, 0, 0), (.if_icmp .ge 17, 3, 24, 0), (.aload_n 0, 1, 0, 0), (.getfield 133, 3, 10, 79), (.iload 4, 2, 0, 0), (.iconst (-1), 1, 0, 0), (.iastore, 1, 0, 0), (.iinc 4 1, 3, 0, 0), (.goto (-18), 3, 3, 0)]),
  (24, [0, 1, 2, 3], [(.iconst 1, 1, 0, 0), (.aload_n 0, 1, 0, 0), (.iload_n 2, 1, 0, 0), (.invokevirtual 429, 3, 0, 1), (.ishl, 1, 0, 0), (.istore 4, 2, 0, 0), (.aload_n 0, 1, 0, 0), (.getfield 130, 3, 10, 78), (.iload_n 2, 1, 0, 0), (.iload 4, 2, 0, 0), (.iastore, 1, 0, 0)]),
  (41, [0, 1, 2, 3, 4], [(.iload 4, 2, 0, 0), (.ifCond .eq 162, 3, 205, 0), (.iconst 0, 1, 0, 0), (.istore 5, 2, 0, 0), (.iconst 0, 1, 0, 0), (.istore 6, 2, 0, 0)]),
  (52, [0, 1, 2, 3, 4, 5, 6], [(.iload 6, 2, 0, 0), (.aload_n 0, 1, 0, 0), (.getfield 243, 3, 10, 12), (.if_icmp .ge 140, 3, 198, 0), (.iconst 0, 1, 0, 0), (.istore 7, 2, 0, 0)]),
  (64, [0, 1, 2, 3, 4, 5, 6, 7], [(.iload 7, 2, 0, 0), (.aload_n 0, 1, 0, 0), (.getfield 246, 3, 10, 13), (.if_icmp .ge 122, 3, 192, 0), (.iload 4, 2, 0, 0), (.iload 6, 2, 0, 0), (.invokestatic 279, 3, 1, 1), (.ifCond .eq 106, 3, 186, 0), (.aload_n 0, 1, 0, 0), (.getfield 91, 3, 10, 54), (.iload_n 1, 1, 0, 0), (.iaload, 1, 0, 0), (.iload 7, 2, 0, 0), (.invokestatic 279, 3, 1, 1), (.ifCond .ne 92, 3, 186, 0), (.aload_n 0, 1, 0, 0), (.iload_n 1, 1, 0, 0), (.iload_n 2, 1, 0, 0), (.iload 6, 2, 0, 0), (.iload 7, 2, 0, 0), (.invokevirtual 422, 3, 2, 1), (.ifCond .ne 6, 3, 113, 0), (.goto 76, 3, 186, 0)]),
  (113, [0, 1, 2, 3, 4, 5, 6, 7], [(.aload_n 0, 1, 0, 0), (.getfield 133, 3, 10, 79), (.iload 7, 2, 0, 0), (.iaload, 1, 0, 0), (.ifCond .lt 16, 3, 136, 0), (.aload_n 0, 1, 0, 0), (.getfield 118, 3, 10, 63), (.iload_n 1, 1, 0, 0), (.dup2, 1, 0, 0), (.iaload, 1, 0, 0), (.iconst 1, 1, 0, 0), (.iadd, 1, 0, 0), (.iastore, 1, 0, 0), (.goto 53, 3, 186, 0)]),
  (136, [0, 1, 2, 3, 4, 5, 6, 7], [(.aload_n 0, 1, 0, 0), (.getfield 133, 3, 10, 79), (.iload 7, 2, 0, 0), (.iload 6, 2, 0, 0), (.iastore, 1, 0, 0), (.aload_n 0, 1, 0, 0), (.invokevirtual 482, 3, 3, 1), (.ifCond .eq 6, 3, 155, 0), (.goto 34, 3, 186, 0)]),
  (155, [0, 1, 2, 3, 4, 5, 6, 7], [(.aload_n 0, 1, 0, 0), (.iload_n 1, 1, 0, 0), (.iload_n 2, 1, 0, 0), (.iload_n 3, 1, 0, 0), (.iload 6, 2, 0, 0), (.iload 7, 2, 0, 0), (.invokevirtual 485, 3, 4, 1), (.istore 8, 2, 0, 0), (.aload_n 0, 1, 0, 0), (.getfield 130, 3, 10, 78), (.iload_n 2, 1, 0, 0), (.dup2, 1, 0, 0), (.iaload, 1, 0, 0), (.iload 8, 2, 0, 0), (.ior, 1, 0, 0), (.iastore, 1, 0, 0), (.iload 5, 2, 0, 0), (.iload 8, 2, 0, 0), (.ior, 1, 0, 0), (.istore 5, 2, 0, 0)]),
  (186, [0, 1, 2, 3, 4, 5, 6, 7], [(.iinc 7 1, 3, 0, 0), (.goto (-125), 3, 64, 0)]),
  (192, [0, 1, 2, 3, 4, 5, 6], [(.iinc 6 1, 3, 0, 0), (.goto (-143), 3, 52, 0)]),
  (198, [0, 1, 2, 3, 5], [(.iload 5, 2, 0, 0), (.istore 4, 2, 0, 0), (.goto (-161), 3, 41, 0)]),
  (205, [], [(.return_, 1, 0, 0)])], none)
noncomputable def Mo_goesDown (x1 : Int32) (x2 : Int32) (x3 : Int32) (M : AM) : Option (Option Value × AM) := mD C_Mo_goesDown [.ref 82, .int x1, .int x2, .int x3] M
noncomputable def Mo_goesDown_3 (x1 : Int32) (x2 : Int32) (x3 : Int32) (x4 : Int32) (M : AM) : Option (Option Value × AM) := it C_Mo_goesDown 3 [(0, .ref 82), (1, .int x1), (2, .int x2), (3, .int x3), (4, .int x4)] [] M
noncomputable def Mo_goesDown_41 (x1 : Int32) (x2 : Int32) (x3 : Int32) (x4 : Int32) (M : AM) : Option (Option Value × AM) := it C_Mo_goesDown 41 [(0, .ref 82), (1, .int x1), (2, .int x2), (3, .int x3), (4, .int x4)] [] M
noncomputable def Mo_goesDown_52 (x1 : Int32) (x2 : Int32) (x3 : Int32) (x4 : Int32) (x5 : Int32) (x6 : Int32) (M : AM) : Option (Option Value × AM) := it C_Mo_goesDown 52 [(0, .ref 82), (1, .int x1), (2, .int x2), (3, .int x3), (4, .int x4), (5, .int x5), (6, .int x6)] [] M
noncomputable def Mo_goesDown_64 (x1 : Int32) (x2 : Int32) (x3 : Int32) (x4 : Int32) (x5 : Int32) (x6 : Int32) (x7 : Int32) (M : AM) : Option (Option Value × AM) := it C_Mo_goesDown 64 [(0, .ref 82), (1, .int x1), (2, .int x2), (3, .int x3), (4, .int x4), (5, .int x5), (6, .int x6), (7, .int x7)] [] M
noncomputable def Mo_goesDown_186 (x1 : Int32) (x2 : Int32) (x3 : Int32) (x4 : Int32) (x5 : Int32) (x6 : Int32) (x7 : Int32) (M : AM) : Option (Option Value × AM) := it C_Mo_goesDown 186 [(0, .ref 82), (1, .int x1), (2, .int x2), (3, .int x3), (4, .int x4), (5, .int x5), (6, .int x6), (7, .int x7)] [] M
noncomputable def C_Mo_switches : MC := (7, 0, [(1, 0, 2, mD C_Mo_isOf), (0, 10, 4, mD C_Mo_farOf), (0, 10, 5, mD C_Mo_lay), (0, 10, 2, mD C_Mo_lawOf)], [(0, [0, 1, 2], [(.iconst 0, 1, 0, 0), (.istore_n 3, 1, 0, 0)]),
  (2, [0, 1, 2, 3], [(.iload_n 3, 1, 0, 0), (.aload_n 0, 1, 0, 0), (.getfield 243, 3, 10, 12), (.if_icmp .ge 135, 3, 142, 0), (.aload_n 0, 1, 0, 0), (.getfield 401, 3, 10, 68), (.ifCond .ne 122, 3, 136, 0), (.aload_n 0, 1, 0, 0), (.getfield 94, 3, 10, 55), (.iload_n 1, 1, 0, 0), (.iaload, 1, 0, 0), (.aload_n 0, 1, 0, 0), (.getfield 130, 3, 10, 78), (.iconst 0, 1, 0, 0), (.iaload, 1, 0, 0), (.iand, 1, 0, 0), (.aload_n 0, 1, 0, 0), (.getfield 97, 3, 10, 56), (.iconst 3, 1, 0, 0), (.iload_n 1, 1, 0, 0), (.imul, 1, 0, 0), (.iload_n 2, 1, 0, 0), (.iadd, 1, 0, 0), (.iaload, 1, 0, 0), (.iconst (-1), 1, 0, 0), (.ixor, 1, 0, 0), (.iand, 1, 0, 0), (.iload_n 3, 1, 0, 0), (.invokestatic 279, 3, 0, 1), (.ifCond .ne 6, 3, 53, 0), (.goto 86, 3, 136, 0)]),
  (53, [0, 1, 2, 3], [(.iconst 1, 1, 0, 0), (.istore 4, 2, 0, 0), (.aload_n 0, 1, 0, 0), (.getfield 60, 3, 10, 37), (.iconst 1, 1, 0, 0), (.baload, 1, 0, 0), (.ifCond .eq 49, 3, 111, 0), (.aload_n 0, 1, 0, 0), (.iload_n 1, 1, 0, 0), (.iconst 1, 1, 0, 0), (.iload_n 2, 1, 0, 0), (.iadd, 1, 0, 0), (.iload_n 3, 1, 0, 0), (.aload_n 0, 1, 0, 0), (.iload_n 1, 1, 0, 0), (.iconst 1, 1, 0, 0), (.iload_n 2, 1, 0, 0), (.iadd, 1, 0, 0), (.iload_n 3, 1, 0, 0), (.invokevirtual 444, 3, 1, 1), (.invokevirtual 450, 3, 2, 0), (.aload_n 0, 1, 0, 0), (.iconst 1, 1, 0, 0), (.invokevirtual 454, 3, 3, 2), (.lstore 5, 2, 0, 0), (.aload_n 0, 1, 0, 0), (.getfield 360, 3, 10, 53), (.ifCond .ne 10, 3, 104, 0), (.lload 5, 2, 0, 0), (.lconst 0, 1, 0, 0), (.lcmp, 1, 0, 0), (.ifCond .eq 7, 3, 108, 0)]),
  (104, [0, 1, 2, 3], [(.iconst 1, 1, 0, 0), (.goto 4, 3, 109, 0)]),
  (108, [0, 1, 2, 3], [(.iconst 0, 1, 0, 0)]),
  (109, [0, 1, 2, 3], [(.istore 4, 2, 0, 0)]),
  (111, [0, 1, 2, 3, 4], [(.aload_n 0, 1, 0, 0), (.getfield 97, 3, 10, 56), (.iconst 3, 1, 0, 0), (.iload_n 1, 1, 0, 0), (.imul, 1, 0, 0), (.iload_n 2, 1, 0, 0), (.iadd, 1, 0, 0), (.dup2, 1, 0, 0), (.iaload, 1, 0, 0), (.iload 4, 2, 0, 0), (.ifCond .eq 9, 3, 133, 0), (.iconst 1, 1, 0, 0), (.iload_n 3, 1, 0, 0), (.ishl, 1, 0, 0), (.goto 4, 3, 134, 0)]),
  (133, [0, 1, 2, 3], [(.iconst 0, 1, 0, 0)]),
  (134, [0, 1, 2, 3], [(.ior, 1, 0, 0), (.iastore, 1, 0, 0)]),
  (136, [0, 1, 2, 3], [(.iinc 3 1, 3, 0, 0), (.goto (-137), 3, 2, 0)]),
  (142, [], [(.return_, 1, 0, 0)])], none)
noncomputable def Mo_switches (x1 : Int32) (x2 : Int32) (M : AM) : Option (Option Value × AM) := mD C_Mo_switches [.ref 82, .int x1, .int x2] M
noncomputable def Mo_switches_2 (x1 : Int32) (x2 : Int32) (x3 : Int32) (M : AM) : Option (Option Value × AM) := it C_Mo_switches 2 [(0, .ref 82), (1, .int x1), (2, .int x2), (3, .int x3)] [] M
noncomputable def Mo_switches_111 (x1 : Int32) (x2 : Int32) (x3 : Int32) (x4 : Int32) (M : AM) : Option (Option Value × AM) := it C_Mo_switches 111 [(0, .ref 82), (1, .int x1), (2, .int x2), (3, .int x3), (4, .int x4)] [] M
noncomputable def C_Mo_packet : MC := (7, 1, [(0, 10, 4, mD C_Mo_goesDown), (1, 0, 2, mD C_Mo_isOf), (0, 10, 4, mD C_Mo_farOf), (0, 10, 3, mD C_Mo_switches)], [(0, [0, 1, 2], [(.aload_n 0, 1, 0, 0), (.getfield 130, 3, 10, 78), (.iconst 0, 1, 0, 0), (.iconst 0, 1, 0, 0), (.iastore, 1, 0, 0), (.aload_n 0, 1, 0, 0), (.iload_n 1, 1, 0, 0), (.iconst 1, 1, 0, 0), (.iload_n 2, 1, 0, 0), (.iadd, 1, 0, 0), (.iload_n 2, 1, 0, 0), (.invokevirtual 489, 3, 0, 0), (.aload_n 0, 1, 0, 0), (.getfield 130, 3, 10, 78), (.iconst 1, 1, 0, 0), (.iload_n 2, 1, 0, 0), (.iadd, 1, 0, 0), (.iaload, 1, 0, 0), (.aload_n 0, 1, 0, 0), (.getfield 20, 3, 10, 24), (.iconst 0, 1, 0, 0), (.iaload, 1, 0, 0), (.invokestatic 279, 3, 1, 1), (.istore_n 3, 1, 0, 0), (.iload_n 3, 1, 0, 0), (.ifCond .ne 34, 3, 69, 0), (.aload_n 0, 1, 0, 0), (.iload_n 1, 1, 0, 0), (.iconst 1, 1, 0, 0), (.iload_n 2, 1, 0, 0), (.iadd, 1, 0, 0), (.aload_n 0, 1, 0, 0), (.getfield 20, 3, 10, 24), (.iconst 0, 1, 0, 0), (.iaload, 1, 0, 0), (.invokevirtual 444, 3, 2, 1), (.bipush 99, 2, 0, 0), (.if_icmp .ge 15, 3, 69, 0), (.aload_n 0, 1, 0, 0), (.getfield 112, 3, 10, 61), (.iload_n 1, 1, 0, 0), (.dup2, 1, 0, 0), (.iaload, 1, 0, 0), (.iconst 1, 1, 0, 0), (.iadd, 1, 0, 0), (.iastore, 1, 0, 0), (.iconst 1, 1, 0, 0), (.istore_n 3, 1, 0, 0)]),
  (69, [0, 1, 2, 3], [(.iload_n 3, 1, 0, 0), (.ifCond .eq 10, 3, 80, 0), (.aload_n 0, 1, 0, 0), (.iload_n 1, 1, 0, 0), (.iconst 0, 1, 0, 0), (.iload_n 2, 1, 0, 0), (.invokevirtual 489, 3, 0, 0)]),
  (80, [0, 1, 2], [(.iconst 0, 1, 0, 0), (.istore 4, 2, 0, 0), (.iconst 0, 1, 0, 0), (.istore 5, 2, 0, 0)]),
  (86, [0, 1, 2, 4, 5], [(.iload 5, 2, 0, 0), (.aload_n 0, 1, 0, 0), (.getfield 243, 3, 10, 12), (.if_icmp .ge 147, 3, 239, 0), (.aload_n 0, 1, 0, 0), (.getfield 94, 3, 10, 55), (.iload_n 1, 1, 0, 0), (.iaload, 1, 0, 0), (.iload 5, 2, 0, 0), (.invokestatic 279, 3, 1, 1), (.ifCond .ne 6, 3, 112, 0), (.goto 124, 3, 233, 0)]),
  (112, [0, 1, 2, 4, 5], [(.aload_n 0, 1, 0, 0), (.getfield 130, 3, 10, 78), (.iconst 0, 1, 0, 0), (.iaload, 1, 0, 0), (.iload 5, 2, 0, 0), (.ishr, 1, 0, 0), (.iconst 1, 1, 0, 0), (.iand, 1, 0, 0), (.aload_n 0, 1, 0, 0), (.getfield 130, 3, 10, 78), (.iconst 1, 1, 0, 0), (.iload_n 2, 1, 0, 0), (.iadd, 1, 0, 0), (.iaload, 1, 0, 0), (.iload 5, 2, 0, 0), (.ishr, 1, 0, 0), (.iconst 1, 1, 0, 0), (.iand, 1, 0, 0), (.iadd, 1, 0, 0), (.istore 6, 2, 0, 0), (.aload_n 0, 1, 0, 0), (.getfield 103, 3, 10, 58), (.bipush 7, 2, 0, 0), (.iload_n 1, 1, 0, 0), (.imul, 1, 0, 0), (.iload 5, 2, 0, 0), (.iadd, 1, 0, 0), (.dup2, 1, 0, 0), (.iaload, 1, 0, 0), (.iload 6, 2, 0, 0), (.ifCond .le 7, 3, 161, 0), (.iconst 1, 1, 0, 0), (.goto 4, 3, 162, 0)]),
  (161, [0, 1, 2, 4, 5, 6], [(.iconst 0, 1, 0, 0)]),
  (162, [0, 1, 2, 4, 5, 6], [(.iadd, 1, 0, 0), (.iastore, 1, 0, 0), (.aload_n 0, 1, 0, 0), (.getfield 106, 3, 10, 59), (.bipush 7, 2, 0, 0), (.iload_n 1, 1, 0, 0), (.imul, 1, 0, 0), (.iload 5, 2, 0, 0), (.iadd, 1, 0, 0), (.dup2, 1, 0, 0), (.iaload, 1, 0, 0), (.iload 6, 2, 0, 0), (.iconst 2, 1, 0, 0), (.if_icmp .ne 7, 3, 187, 0), (.iconst 1, 1, 0, 0), (.goto 4, 3, 188, 0)]),
  (187, [0, 1, 2, 4, 5, 6], [(.iconst 0, 1, 0, 0)]),
  (188, [0, 1, 2, 4, 5, 6], [(.iadd, 1, 0, 0), (.iastore, 1, 0, 0), (.aload_n 0, 1, 0, 0), (.getfield 109, 3, 10, 60), (.bipush 7, 2, 0, 0), (.iload_n 1, 1, 0, 0), (.imul, 1, 0, 0), (.iload 5, 2, 0, 0), (.iadd, 1, 0, 0), (.dup2, 1, 0, 0), (.iaload, 1, 0, 0), (.iload 6, 2, 0, 0), (.ifCond .ne 7, 3, 212, 0), (.iconst 1, 1, 0, 0), (.goto 4, 3, 213, 0)]),
  (212, [0, 1, 2, 4, 5, 6], [(.iconst 0, 1, 0, 0)]),
  (213, [0, 1, 2, 4, 5, 6], [(.iadd, 1, 0, 0), (.iastore, 1, 0, 0), (.iload 4, 2, 0, 0), (.iload 6, 2, 0, 0), (.ifCond .le 10, 3, 229, 0), (.iconst 1, 1, 0, 0), (.iload 5, 2, 0, 0), (.ishl, 1, 0, 0), (.goto 4, 3, 230, 0)]),
  (229, [0, 1, 2, 5], [(.iconst 0, 1, 0, 0)]),
  (230, [0, 1, 2, 5], [(.ior, 1, 0, 0), (.istore 4, 2, 0, 0)]),
  (233, [0, 1, 2, 4, 5], [(.iinc 5 1, 3, 0, 0), (.goto (-150), 3, 86, 0)]),
  (239, [0, 1, 2, 4], [(.aload_n 0, 1, 0, 0), (.iload_n 1, 1, 0, 0), (.iload_n 2, 1, 0, 0), (.invokevirtual 492, 3, 3, 0), (.iload 4, 2, 0, 0), (.ireturn, 1, 0, 0)])], none)
noncomputable def Mo_packet (x1 : Int32) (x2 : Int32) (M : AM) : Option (Option Value × AM) := mD C_Mo_packet [.ref 82, .int x1, .int x2] M
noncomputable def Mo_packet_69 (x1 : Int32) (x2 : Int32) (x3 : Int32) (M : AM) : Option (Option Value × AM) := it C_Mo_packet 69 [(0, .ref 82), (1, .int x1), (2, .int x2), (3, .int x3)] [] M
noncomputable def Mo_packet_86 (x1 : Int32) (x2 : Int32) (x4 : Int32) (x5 : Int32) (M : AM) : Option (Option Value × AM) := it C_Mo_packet 86 [(0, .ref 82), (1, .int x1), (2, .int x2), (4, .int x4), (5, .int x5)] [] M
noncomputable def Mo_packet_162 (x1 : Int32) (x2 : Int32) (x4 : Int32) (x5 : Int32) (x6 : Int32) (z1 : Int32) (z2 : Int32) (z3 : Int32) (M : AM) : Option (Option Value × AM) := it C_Mo_packet 162 [(0, .ref 82), (1, .int x1), (2, .int x2), (4, .int x4), (5, .int x5), (6, .int x6)] [.int z3, .int z2, .int z1, .ref 112] M
noncomputable def Mo_packet_188 (x1 : Int32) (x2 : Int32) (x4 : Int32) (x5 : Int32) (x6 : Int32) (z1 : Int32) (z2 : Int32) (z3 : Int32) (M : AM) : Option (Option Value × AM) := it C_Mo_packet 188 [(0, .ref 82), (1, .int x1), (2, .int x2), (4, .int x4), (5, .int x5), (6, .int x6)] [.int z3, .int z2, .int z1, .ref 113] M
noncomputable def Mo_packet_213 (x1 : Int32) (x2 : Int32) (x4 : Int32) (x5 : Int32) (x6 : Int32) (z1 : Int32) (z2 : Int32) (z3 : Int32) (M : AM) : Option (Option Value × AM) := it C_Mo_packet 213 [(0, .ref 82), (1, .int x1), (2, .int x2), (4, .int x4), (5, .int x5), (6, .int x6)] [.int z3, .int z2, .int z1, .ref 114] M
noncomputable def C_Mo_send : MC := (2, 1, [(0, 10, 2, mD C_Mo_isSource), (0, 10, 1, mD C_Mo_remember), (0, 10, 1, mD C_Mo_plainTried), (0, 10, 3, mD C_Mo_packet)], [(0, [0, 1], [(.aload_n 0, 1, 0, 0), (.iconst 0, 1, 0, 0), (.putfield 160, 3, 10, 2), (.aload_n 0, 1, 0, 0), (.iload_n 1, 1, 0, 0), (.invokevirtual 524, 3, 0, 1), (.ifCond .ne 5, 3, 15, 0), (.iconst (-1), 1, 0, 0), (.ireturn, 1, 0, 0)]),
  (15, [0, 1], [(.aload_n 0, 1, 0, 0), (.invokevirtual 521, 3, 1, 0), (.aload_n 0, 1, 0, 0), (.invokevirtual 383, 3, 2, 0), (.aload_n 0, 1, 0, 0), (.iconst 0, 1, 0, 0), (.iload_n 1, 1, 0, 0), (.invokevirtual 501, 3, 3, 1), (.ireturn, 1, 0, 0)])], none)
noncomputable def Mo_send (x1 : Int32) (M : AM) : Option (Option Value × AM) := mD C_Mo_send [.ref 82, .int x1] M
noncomputable def C_Mo_eventGoes : MC := (4, 0, [(0, 10, 3, mD C_Mo_stopsListening)], [(0, [0, 1, 2], [(.aload_n 0, 1, 0, 0), (.getfield 48, 3, 10, 33), (.iload_n 2, 1, 0, 0), (.iaload, 1, 0, 0), (.istore_n 3, 1, 0, 0), (.aload_n 0, 1, 0, 0), (.getfield 45, 3, 10, 32), (.iload_n 2, 1, 0, 0), (.iaload, 1, 0, 0), (.tableswitch 89 4 6 #[27, 54, 63], 27, 0, 0)]),
  (40, [0, 1, 3], [(.aload_n 0, 1, 0, 0), (.getfield 94, 3, 10, 55), (.iload_n 1, 1, 0, 0), (.dup2, 1, 0, 0), (.iaload, 1, 0, 0), (.iload_n 3, 1, 0, 0), (.aload_n 0, 1, 0, 0), (.getfield 413, 3, 10, 72), (.if_icmp .ne 7, 3, 59, 0), (.iconst 0, 1, 0, 0), (.goto 6, 3, 62, 0)]),
  (59, [3], [(.iconst 1, 1, 0, 0), (.iload_n 3, 1, 0, 0), (.ishl, 1, 0, 0)]),
  (62, [], [(.ior, 1, 0, 0), (.iastore, 1, 0, 0), (.goto 52, 3, 116, 0)]),
  (67, [0, 1, 3], [(.aload_n 0, 1, 0, 0), (.iload_n 1, 1, 0, 0), (.iload_n 3, 1, 0, 0), (.invokevirtual 468, 3, 0, 0), (.goto 43, 3, 116, 0)]),
  (76, [0, 1, 3], [(.aload_n 0, 1, 0, 0), (.getfield 91, 3, 10, 54), (.iload_n 1, 1, 0, 0), (.dup2, 1, 0, 0), (.iaload, 1, 0, 0), (.aload_n 0, 1, 0, 0), (.getfield 404, 3, 10, 69), (.ifCond .eq 7, 3, 94, 0), (.iconst 0, 1, 0, 0), (.goto 6, 3, 97, 0)]),
  (94, [3], [(.iconst 1, 1, 0, 0), (.iload_n 3, 1, 0, 0), (.ishl, 1, 0, 0)]),
  (97, [], [(.ior, 1, 0, 0), (.iastore, 1, 0, 0), (.goto 17, 3, 116, 0)]),
  (102, [0, 1, 3], [(.aload_n 0, 1, 0, 0), (.getfield 91, 3, 10, 54), (.iload_n 1, 1, 0, 0), (.dup2, 1, 0, 0), (.iaload, 1, 0, 0), (.iconst 1, 1, 0, 0), (.iload_n 3, 1, 0, 0), (.ishl, 1, 0, 0), (.iconst (-1), 1, 0, 0), (.ixor, 1, 0, 0), (.iand, 1, 0, 0), (.iastore, 1, 0, 0)]),
  (116, [], [(.return_, 1, 0, 0)])], none)
noncomputable def Mo_eventGoes (x1 : Int32) (x2 : Int32) (M : AM) : Option (Option Value × AM) := mD C_Mo_eventGoes [.ref 82, .int x1, .int x2] M
noncomputable def C_Mo_keptFor : MC := (6, 1, [(0, 10, 4, mD C_Mo_farOf), (0, 10, 5, mD C_Mo_lay), (0, 10, 2, mD C_Mo_lawOf)], [(0, [0, 1, 2, 3], [(.aload_n 0, 1, 0, 0), (.getfield 407, 3, 10, 70), (.ifCond .eq 5, 3, 9, 0), (.iconst 1, 1, 0, 0), (.ireturn, 1, 0, 0)]),
  (9, [0, 1, 2, 3], [(.aload_n 0, 1, 0, 0), (.getfield 60, 3, 10, 37), (.iconst 2, 1, 0, 0), (.baload, 1, 0, 0), (.ifCond .ne 10, 3, 25, 0), (.aload_n 0, 1, 0, 0), (.getfield 27, 3, 10, 26), (.iconst 0, 1, 0, 0), (.iaload, 1, 0, 0), (.ireturn, 1, 0, 0)]),
  (25, [0, 1, 2, 3], [(.aload_n 0, 1, 0, 0), (.iload_n 1, 1, 0, 0), (.iload_n 2, 1, 0, 0), (.iload_n 3, 1, 0, 0), (.aload_n 0, 1, 0, 0), (.iload_n 1, 1, 0, 0), (.iload_n 2, 1, 0, 0), (.iload_n 3, 1, 0, 0), (.invokevirtual 444, 3, 0, 1), (.invokevirtual 450, 3, 1, 0), (.aload_n 0, 1, 0, 0), (.iconst 2, 1, 0, 0), (.invokevirtual 454, 3, 2, 2), (.lstore 4, 2, 0, 0), (.aload_n 0, 1, 0, 0), (.getfield 360, 3, 10, 53), (.ifCond .eq 10, 3, 60, 0), (.aload_n 0, 1, 0, 0), (.getfield 27, 3, 10, 26), (.iconst 0, 1, 0, 0), (.iaload, 1, 0, 0), (.ireturn, 1, 0, 0)]),
  (60, [4], [(.lload 4, 2, 0, 0), (.lconst 1, 1, 0, 0), (.lcmp, 1, 0, 0), (.ifCond .ge 7, 3, 71, 0), (.iconst 1, 1, 0, 0), (.goto 20, 3, 88, 0)]),
  (71, [4], [(.lload 4, 2, 0, 0), (.ldc2_w 480, 3, 99, 0), (.lcmp, 1, 0, 0), (.ifCond .le 8, 3, 85, 0), (.bipush 99, 2, 0, 0), (.goto 6, 3, 88, 0)]),
  (85, [4], [(.lload 4, 2, 0, 0), (.l2i, 1, 0, 0)]),
  (88, [], [(.ireturn, 1, 0, 0)])], none)
noncomputable def Mo_keptFor (x1 : Int32) (x2 : Int32) (x3 : Int32) (M : AM) : Option (Option Value × AM) := mD C_Mo_keptFor [.ref 82, .int x1, .int x2, .int x3] M
noncomputable def C_Mo_joins : MC := (7, 0, [(0, 10, 4, mD C_Mo_wantsNow), (0, 10, 4, mD C_Mo_upLink), (0, 10, 4, mD C_Mo_keptFor)], [(0, [0, 1], [(.iconst 0, 1, 0, 0), (.istore_n 2, 1, 0, 0)]),
  (2, [0, 1, 2], [(.iload_n 2, 1, 0, 0), (.sipush 224, 3, 0, 0), (.if_icmp .ge 16, 3, 22, 0), (.aload_n 0, 1, 0, 0), (.getfield 127, 3, 10, 77), (.iload_n 2, 1, 0, 0), (.iconst 0, 1, 0, 0), (.bastore, 1, 0, 0), (.iinc 2 1, 3, 0, 0), (.goto (-17), 3, 2, 0)]),
  (22, [0, 1], [(.iconst 0, 1, 0, 0), (.istore_n 2, 1, 0, 0)]),
  (24, [0, 1, 2], [(.iload_n 2, 1, 0, 0), (.aload_n 0, 1, 0, 0), (.getfield 243, 3, 10, 12), (.if_icmp .ge 129, 3, 158, 0), (.iconst 0, 1, 0, 0), (.istore_n 3, 1, 0, 0)]),
  (34, [0, 1, 2, 3], [(.iload_n 3, 1, 0, 0), (.aload_n 0, 1, 0, 0), (.getfield 249, 3, 10, 14), (.if_icmp .gt 113, 3, 152, 0), (.aload_n 0, 1, 0, 0), (.iload_n 1, 1, 0, 0), (.iload_n 3, 1, 0, 0), (.iload_n 2, 1, 0, 0), (.invokevirtual 471, 3, 0, 1), (.ifCond .eq 13, 3, 62, 0), (.aload_n 0, 1, 0, 0), (.iload_n 1, 1, 0, 0), (.iload_n 3, 1, 0, 0), (.iload_n 2, 1, 0, 0), (.invokevirtual 474, 3, 1, 1), (.goto 4, 3, 63, 0)]),
  (62, [0, 1, 2, 3], [(.iconst (-1), 1, 0, 0)]),
  (63, [0, 1, 2, 3], [(.istore 4, 2, 0, 0), (.iload 4, 2, 0, 0), (.ifCond .ge 6, 3, 73, 0), (.goto 76, 3, 146, 0)]),
  (73, [0, 1, 2, 3, 4], [(.aload_n 0, 1, 0, 0), (.getfield 447, 3, 10, 76), (.istore 5, 2, 0, 0), (.bipush 56, 2, 0, 0), (.iload_n 3, 1, 0, 0), (.imul, 1, 0, 0), (.bipush 8, 2, 0, 0), (.iload 5, 2, 0, 0), (.imul, 1, 0, 0), (.iadd, 1, 0, 0), (.iload 4, 2, 0, 0), (.iadd, 1, 0, 0), (.istore 6, 2, 0, 0), (.aload_n 0, 1, 0, 0), (.getfield 127, 3, 10, 77), (.iload 6, 2, 0, 0), (.baload, 1, 0, 0), (.ifCond .eq 16, 3, 117, 0), (.aload_n 0, 1, 0, 0), (.getfield 115, 3, 10, 62), (.iload_n 1, 1, 0, 0), (.dup2, 1, 0, 0), (.iaload, 1, 0, 0), (.iconst 1, 1, 0, 0), (.iadd, 1, 0, 0), (.iastore, 1, 0, 0), (.goto 32, 3, 146, 0)]),
  (117, [0, 1, 2, 3, 5, 6], [(.aload_n 0, 1, 0, 0), (.getfield 127, 3, 10, 77), (.iload 6, 2, 0, 0), (.iconst 1, 1, 0, 0), (.bastore, 1, 0, 0), (.aload_n 0, 1, 0, 0), (.getfield 100, 3, 10, 57), (.sipush 224, 3, 0, 0), (.iload_n 1, 1, 0, 0), (.imul, 1, 0, 0), (.iload 6, 2, 0, 0), (.iadd, 1, 0, 0), (.aload_n 0, 1, 0, 0), (.iload_n 1, 1, 0, 0), (.iload_n 3, 1, 0, 0), (.iload 5, 2, 0, 0), (.invokevirtual 477, 3, 2, 1), (.iastore, 1, 0, 0)]),
  (146, [0, 1, 2, 3], [(.iinc 3 1, 3, 0, 0), (.goto (-115), 3, 34, 0)]),
  (152, [0, 1, 2], [(.iinc 2 1, 3, 0, 0), (.goto (-131), 3, 24, 0)]),
  (158, [], [(.return_, 1, 0, 0)])], none)
noncomputable def Mo_joins (x1 : Int32) (M : AM) : Option (Option Value × AM) := mD C_Mo_joins [.ref 82, .int x1] M
noncomputable def Mo_joins_2 (x1 : Int32) (x2 : Int32) (M : AM) : Option (Option Value × AM) := it C_Mo_joins 2 [(0, .ref 82), (1, .int x1), (2, .int x2)] [] M
noncomputable def Mo_joins_24 (x1 : Int32) (x2 : Int32) (M : AM) : Option (Option Value × AM) := it C_Mo_joins 24 [(0, .ref 82), (1, .int x1), (2, .int x2)] [] M
noncomputable def Mo_joins_34 (x1 : Int32) (x2 : Int32) (x3 : Int32) (M : AM) : Option (Option Value × AM) := it C_Mo_joins 34 [(0, .ref 82), (1, .int x1), (2, .int x2), (3, .int x3)] [] M
noncomputable def Mo_joins_63 (x1 : Int32) (x2 : Int32) (x3 : Int32) (z0 : Int32) (M : AM) : Option (Option Value × AM) := it C_Mo_joins 63 [(0, .ref 82), (1, .int x1), (2, .int x2), (3, .int x3)] [.int z0] M
noncomputable def C_Mo_tickGoes : MC := (3, 0, [(0, 10, 3, mD C_Mo_eventGoes), (0, 10, 2, mD C_Mo_joins), (0, 10, 3, mD C_Mo_packet)], [(0, [0, 1], [(.iconst 0, 1, 0, 0), (.istore_n 2, 1, 0, 0)]),
  (2, [0, 1, 2], [(.iload_n 2, 1, 0, 0), (.aload_n 0, 1, 0, 0), (.getfield 252, 3, 10, 15), (.if_icmp .ge 37, 3, 44, 0), (.aload_n 0, 1, 0, 0), (.getfield 410, 3, 10, 71), (.ifCond .ne 30, 3, 44, 0), (.aload_n 0, 1, 0, 0), (.getfield 51, 3, 10, 34), (.iload_n 2, 1, 0, 0), (.iaload, 1, 0, 0), (.aload_n 0, 1, 0, 0), (.getfield 121, 3, 10, 64), (.iload_n 1, 1, 0, 0), (.iaload, 1, 0, 0), (.if_icmp .ne 9, 3, 38, 0), (.aload_n 0, 1, 0, 0), (.iload_n 1, 1, 0, 0), (.iload_n 2, 1, 0, 0), (.invokevirtual 495, 3, 0, 0)]),
  (38, [0, 1, 2], [(.iinc 2 1, 3, 0, 0), (.goto (-39), 3, 2, 0)]),
  (44, [0, 1], [(.sipush 224, 3, 0, 0), (.iload_n 1, 1, 0, 0), (.imul, 1, 0, 0), (.istore_n 2, 1, 0, 0)]),
  (50, [0, 1, 2], [(.iload_n 2, 1, 0, 0), (.sipush 224, 3, 0, 0), (.iload_n 1, 1, 0, 0), (.imul, 1, 0, 0), (.sipush 224, 3, 0, 0), (.iadd, 1, 0, 0), (.if_icmp .ge 36, 3, 96, 0), (.aload_n 0, 1, 0, 0), (.getfield 100, 3, 10, 57), (.iload_n 2, 1, 0, 0), (.aload_n 0, 1, 0, 0), (.getfield 100, 3, 10, 57), (.iload_n 2, 1, 0, 0), (.iaload, 1, 0, 0), (.ifCond .le 14, 3, 88, 0), (.aload_n 0, 1, 0, 0), (.getfield 100, 3, 10, 57), (.iload_n 2, 1, 0, 0), (.iaload, 1, 0, 0), (.iconst 1, 1, 0, 0), (.isub, 1, 0, 0), (.goto 4, 3, 89, 0)]),
  (88, [0, 1, 2], [(.iconst 0, 1, 0, 0)]),
  (89, [0, 1, 2], [(.iastore, 1, 0, 0), (.iinc 2 1, 3, 0, 0), (.goto (-43), 3, 50, 0)]),
  (96, [0, 1], [(.aload_n 0, 1, 0, 0), (.iload_n 1, 1, 0, 0), (.invokevirtual 498, 3, 1, 0), (.iconst 0, 1, 0, 0), (.istore_n 2, 1, 0, 0)]),
  (103, [0, 1, 2], [(.iload_n 2, 1, 0, 0), (.aload_n 0, 1, 0, 0), (.getfield 255, 3, 10, 16), (.if_icmp .ge 43, 3, 151, 0), (.aload_n 0, 1, 0, 0), (.getfield 410, 3, 10, 71), (.ifCond .ne 36, 3, 151, 0), (.aload_n 0, 1, 0, 0), (.getfield 57, 3, 10, 36), (.iload_n 2, 1, 0, 0), (.iaload, 1, 0, 0), (.aload_n 0, 1, 0, 0), (.getfield 121, 3, 10, 64), (.iload_n 1, 1, 0, 0), (.iaload, 1, 0, 0), (.if_icmp .ne 15, 3, 145, 0), (.aload_n 0, 1, 0, 0), (.iload_n 1, 1, 0, 0), (.aload_n 0, 1, 0, 0), (.getfield 54, 3, 10, 35), (.iload_n 2, 1, 0, 0), (.iaload, 1, 0, 0), (.invokevirtual 501, 3, 2, 1), (.pop, 1, 0, 0)]),
  (145, [0, 1, 2], [(.iinc 2 1, 3, 0, 0), (.goto (-45), 3, 103, 0)]),
  (151, [0, 1], [(.aload_n 0, 1, 0, 0), (.getfield 121, 3, 10, 64), (.iload_n 1, 1, 0, 0), (.dup2, 1, 0, 0), (.iaload, 1, 0, 0), (.iconst 1, 1, 0, 0), (.iadd, 1, 0, 0), (.iastore, 1, 0, 0), (.return_, 1, 0, 0)])], none)
noncomputable def Mo_tickGoes (x1 : Int32) (M : AM) : Option (Option Value × AM) := mD C_Mo_tickGoes [.ref 82, .int x1] M
noncomputable def Mo_tickGoes_2 (x1 : Int32) (x2 : Int32) (M : AM) : Option (Option Value × AM) := it C_Mo_tickGoes 2 [(0, .ref 82), (1, .int x1), (2, .int x2)] [] M
noncomputable def Mo_tickGoes_50 (x1 : Int32) (x2 : Int32) (M : AM) : Option (Option Value × AM) := it C_Mo_tickGoes 50 [(0, .ref 82), (1, .int x1), (2, .int x2)] [] M
noncomputable def Mo_tickGoes_103 (x1 : Int32) (x2 : Int32) (M : AM) : Option (Option Value × AM) := it C_Mo_tickGoes 103 [(0, .ref 82), (1, .int x1), (2, .int x2)] [] M
noncomputable def C_Mo_go : MC := (3, 1, [(1, 0, 3, mD C_Mo_isIn), (0, 10, 1, mD C_Mo_plainTried), (0, 10, 2, mD C_Mo_tickGoes)], [(0, [0, 1], [(.aload_n 0, 1, 0, 0), (.iconst 0, 1, 0, 0), (.putfield 160, 3, 10, 2), (.iload_n 1, 1, 0, 0), (.iconst 0, 1, 0, 0), (.sipush 200, 3, 0, 0), (.invokestatic 205, 3, 0, 1), (.ifCond .eq 17, 3, 30, 0), (.aload_n 0, 1, 0, 0), (.getfield 121, 3, 10, 64), (.iconst 0, 1, 0, 0), (.iaload, 1, 0, 0), (.iload_n 1, 1, 0, 0), (.iadd, 1, 0, 0), (.sipush 9000, 3, 0, 0), (.if_icmp .le 5, 3, 32, 0)]),
  (30, [], [(.iconst (-1), 1, 0, 0), (.ireturn, 1, 0, 0)]),
  (32, [0, 1], [(.aload_n 0, 1, 0, 0), (.invokevirtual 383, 3, 1, 0), (.aload_n 0, 1, 0, 0), (.iconst 1, 1, 0, 0), (.putfield 395, 3, 10, 66), (.iconst 0, 1, 0, 0), (.istore_n 2, 1, 0, 0)]),
  (43, [0, 1, 2], [(.iload_n 2, 1, 0, 0), (.iload_n 1, 1, 0, 0), (.if_icmp .ge 14, 3, 59, 0), (.aload_n 0, 1, 0, 0), (.iconst 0, 1, 0, 0), (.invokevirtual 504, 3, 2, 0), (.iinc 2 1, 3, 0, 0), (.goto (-13), 3, 43, 0)]),
  (59, [0, 1], [(.aload_n 0, 1, 0, 0), (.iconst 0, 1, 0, 0), (.putfield 395, 3, 10, 66), (.aload_n 0, 1, 0, 0), (.iload_n 1, 1, 0, 0), (.ifCond .le 7, 3, 73, 0), (.iconst 0, 1, 0, 0), (.goto 7, 3, 77, 0)]),
  (73, [0], [(.aload_n 0, 1, 0, 0), (.getfield 389, 3, 10, 85)]),
  (77, [0], [(.putfield 389, 3, 10, 85), (.aload_n 0, 1, 0, 0), (.getfield 121, 3, 10, 64), (.iconst 0, 1, 0, 0), (.iaload, 1, 0, 0), (.ireturn, 1, 0, 0)])], none)
noncomputable def Mo_go (x1 : Int32) (M : AM) : Option (Option Value × AM) := mD C_Mo_go [.ref 82, .int x1] M
noncomputable def Mo_go_43 (x1 : Int32) (x2 : Int32) (M : AM) : Option (Option Value × AM) := it C_Mo_go 43 [(0, .ref 82), (1, .int x1), (2, .int x2)] [] M
noncomputable def C_Mo_layTried : MC := (2, 0, [(0, 10, 1, mD C_Mo_plainTried)], [(0, [0], [(.aload_n 0, 1, 0, 0), (.getfield 91, 3, 10, 54), (.iconst 1, 1, 0, 0), (.aload_n 0, 1, 0, 0), (.getfield 91, 3, 10, 54), (.iconst 0, 1, 0, 0), (.iaload, 1, 0, 0), (.iastore, 1, 0, 0), (.aload_n 0, 1, 0, 0), (.getfield 94, 3, 10, 55), (.iconst 1, 1, 0, 0), (.aload_n 0, 1, 0, 0), (.getfield 94, 3, 10, 55), (.iconst 0, 1, 0, 0), (.iaload, 1, 0, 0), (.iastore, 1, 0, 0), (.iconst 0, 1, 0, 0), (.istore_n 1, 1, 0, 0)]),
  (26, [0, 1], [(.iload_n 1, 1, 0, 0), (.iconst 3, 1, 0, 0), (.if_icmp .ge 23, 3, 51, 0), (.aload_n 0, 1, 0, 0), (.getfield 97, 3, 10, 56), (.iconst 3, 1, 0, 0), (.iload_n 1, 1, 0, 0), (.iadd, 1, 0, 0), (.aload_n 0, 1, 0, 0), (.getfield 97, 3, 10, 56), (.iload_n 1, 1, 0, 0), (.iaload, 1, 0, 0), (.iastore, 1, 0, 0), (.iinc 1 1, 3, 0, 0), (.goto (-22), 3, 26, 0)]),
  (51, [0], [(.iconst 0, 1, 0, 0), (.istore_n 1, 1, 0, 0)]),
  (53, [0, 1], [(.iload_n 1, 1, 0, 0), (.sipush 224, 3, 0, 0), (.if_icmp .ge 25, 3, 82, 0), (.aload_n 0, 1, 0, 0), (.getfield 100, 3, 10, 57), (.sipush 224, 3, 0, 0), (.iload_n 1, 1, 0, 0), (.iadd, 1, 0, 0), (.aload_n 0, 1, 0, 0), (.getfield 100, 3, 10, 57), (.iload_n 1, 1, 0, 0), (.iaload, 1, 0, 0), (.iastore, 1, 0, 0), (.iinc 1 1, 3, 0, 0), (.goto (-26), 3, 53, 0)]),
  (82, [0], [(.iconst 0, 1, 0, 0), (.istore_n 1, 1, 0, 0)]),
  (84, [0, 1], [(.iload_n 1, 1, 0, 0), (.bipush 7, 2, 0, 0), (.if_icmp .ge 54, 3, 141, 0), (.aload_n 0, 1, 0, 0), (.getfield 103, 3, 10, 58), (.bipush 7, 2, 0, 0), (.iload_n 1, 1, 0, 0), (.iadd, 1, 0, 0), (.aload_n 0, 1, 0, 0), (.getfield 103, 3, 10, 58), (.iload_n 1, 1, 0, 0), (.iaload, 1, 0, 0), (.iastore, 1, 0, 0), (.aload_n 0, 1, 0, 0), (.getfield 106, 3, 10, 59), (.bipush 7, 2, 0, 0), (.iload_n 1, 1, 0, 0), (.iadd, 1, 0, 0), (.aload_n 0, 1, 0, 0), (.getfield 106, 3, 10, 59), (.iload_n 1, 1, 0, 0), (.iaload, 1, 0, 0), (.iastore, 1, 0, 0), (.aload_n 0, 1, 0, 0), (.getfield 109, 3, 10, 60), (.bipush 7, 2, 0, 0), (.iload_n 1, 1, 0, 0), (.iadd, 1, 0, 0), (.aload_n 0, 1, 0, 0), (.getfield 109, 3, 10, 60), (.iload_n 1, 1, 0, 0), (.iaload, 1, 0, 0), (.iastore, 1, 0, 0), (.iinc 1 1, 3, 0, 0), (.goto (-54), 3, 84, 0)]),
  (141, [0], [(.aload_n 0, 1, 0, 0), (.getfield 112, 3, 10, 61), (.iconst 1, 1, 0, 0), (.aload_n 0, 1, 0, 0), (.getfield 112, 3, 10, 61), (.iconst 0, 1, 0, 0), (.iaload, 1, 0, 0), (.iastore, 1, 0, 0), (.aload_n 0, 1, 0, 0), (.getfield 115, 3, 10, 62), (.iconst 1, 1, 0, 0), (.aload_n 0, 1, 0, 0), (.getfield 115, 3, 10, 62), (.iconst 0, 1, 0, 0), (.iaload, 1, 0, 0), (.iastore, 1, 0, 0), (.aload_n 0, 1, 0, 0), (.getfield 118, 3, 10, 63), (.iconst 1, 1, 0, 0), (.aload_n 0, 1, 0, 0), (.getfield 118, 3, 10, 63), (.iconst 0, 1, 0, 0), (.iaload, 1, 0, 0), (.iastore, 1, 0, 0), (.aload_n 0, 1, 0, 0), (.getfield 121, 3, 10, 64), (.iconst 1, 1, 0, 0), (.aload_n 0, 1, 0, 0), (.getfield 121, 3, 10, 64), (.iconst 0, 1, 0, 0), (.iaload, 1, 0, 0), (.iastore, 1, 0, 0), (.aload_n 0, 1, 0, 0), (.invokevirtual 383, 3, 0, 0), (.return_, 1, 0, 0)])], none)
noncomputable def Mo_layTried (M : AM) : Option (Option Value × AM) := mD C_Mo_layTried [.ref 82] M
noncomputable def Mo_layTried_26 (x1 : Int32) (M : AM) : Option (Option Value × AM) := it C_Mo_layTried 26 [(0, .ref 82), (1, .int x1)] [] M
noncomputable def Mo_layTried_53 (x1 : Int32) (M : AM) : Option (Option Value × AM) := it C_Mo_layTried 53 [(0, .ref 82), (1, .int x1)] [] M
noncomputable def Mo_layTried_84 (x1 : Int32) (M : AM) : Option (Option Value × AM) := it C_Mo_layTried 84 [(0, .ref 82), (1, .int x1)] [] M
noncomputable def C_Mo_goMany : MC := (3, 0, [(0, 10, 2, mD C_Mo_tickGoes)], [(0, [0, 1], [(.iconst 0, 1, 0, 0), (.istore_n 2, 1, 0, 0)]),
  (2, [0, 1, 2], [(.iload_n 2, 1, 0, 0), (.iload_n 1, 1, 0, 0), (.if_icmp .ge 14, 3, 18, 0), (.aload_n 0, 1, 0, 0), (.iconst 1, 1, 0, 0), (.invokevirtual 504, 3, 0, 0), (.iinc 2 1, 3, 0, 0), (.goto (-13), 3, 2, 0)]),
  (18, [], [(.return_, 1, 0, 0)])], none)
noncomputable def Mo_goMany (x1 : Int32) (M : AM) : Option (Option Value × AM) := mD C_Mo_goMany [.ref 82, .int x1] M
noncomputable def Mo_goMany_2 (x1 : Int32) (x2 : Int32) (M : AM) : Option (Option Value × AM) := it C_Mo_goMany 2 [(0, .ref 82), (1, .int x1), (2, .int x2)] [] M
noncomputable def C_Mo_sumOf : MC := (4, 1, [], [(0, [0, 1], [(.iconst 0, 1, 0, 0), (.istore_n 2, 1, 0, 0), (.iconst 0, 1, 0, 0), (.istore_n 3, 1, 0, 0)]),
  (4, [0, 1, 2, 3], [(.iload_n 3, 1, 0, 0), (.bipush 7, 2, 0, 0), (.if_icmp .ge 20, 3, 27, 0), (.iload_n 2, 1, 0, 0), (.aload_n 0, 1, 0, 0), (.bipush 7, 2, 0, 0), (.iload_n 1, 1, 0, 0), (.imul, 1, 0, 0), (.iload_n 3, 1, 0, 0), (.iadd, 1, 0, 0), (.iaload, 1, 0, 0), (.iadd, 1, 0, 0), (.istore_n 2, 1, 0, 0), (.iinc 3 1, 3, 0, 0), (.goto (-20), 3, 4, 0)]),
  (27, [2], [(.iload_n 2, 1, 0, 0), (.ireturn, 1, 0, 0)])], none)
noncomputable def Mo_sumOf (o0 : Nat) (x1 : Int32) (M : AM) : Option (Option Value × AM) := mD C_Mo_sumOf [.ref o0, .int x1] M
noncomputable def Mo_sumOf_4 (o0 : Nat) (x1 : Int32) (x2 : Int32) (x3 : Int32) (M : AM) : Option (Option Value × AM) := it C_Mo_sumOf 4 [(0, .ref o0), (1, .int x1), (2, .int x2), (3, .int x3)] [] M
noncomputable def C_Mo_ahead : MC := (3, 1, [(1, 0, 3, mD C_Mo_isIn), (0, 10, 1, mD C_Mo_layTried), (0, 10, 2, mD C_Mo_goMany), (1, 0, 2, mD C_Mo_sumOf)], [(0, [0, 1, 2], [(.aload_n 0, 1, 0, 0), (.iconst 0, 1, 0, 0), (.putfield 160, 3, 10, 2), (.iload_n 1, 1, 0, 0), (.iconst 0, 1, 0, 0), (.bipush 60, 2, 0, 0), (.invokestatic 205, 3, 0, 1), (.ifCond .eq 12, 3, 24, 0), (.iload_n 2, 1, 0, 0), (.iconst 0, 1, 0, 0), (.iconst 4, 1, 0, 0), (.invokestatic 205, 3, 0, 1), (.ifCond .ne 5, 3, 26, 0)]),
  (24, [], [(.iconst (-1), 1, 0, 0), (.ireturn, 1, 0, 0)]),
  (26, [0, 1, 2], [(.aload_n 0, 1, 0, 0), (.invokevirtual 527, 3, 1, 0), (.aload_n 0, 1, 0, 0), (.iload_n 1, 1, 0, 0), (.invokevirtual 530, 3, 2, 0), (.iload_n 2, 1, 0, 0), (.tableswitch 100 0 3 #[32, 50, 68, 86], 32, 0, 0)]),
  (68, [0], [(.aload_n 0, 1, 0, 0), (.getfield 103, 3, 10, 58), (.iconst 1, 1, 0, 0), (.invokestatic 533, 3, 3, 1), (.aload_n 0, 1, 0, 0), (.getfield 103, 3, 10, 58), (.iconst 0, 1, 0, 0), (.invokestatic 533, 3, 3, 1), (.isub, 1, 0, 0), (.ireturn, 1, 0, 0)]),
  (86, [0], [(.aload_n 0, 1, 0, 0), (.getfield 106, 3, 10, 59), (.iconst 1, 1, 0, 0), (.invokestatic 533, 3, 3, 1), (.aload_n 0, 1, 0, 0), (.getfield 106, 3, 10, 59), (.iconst 0, 1, 0, 0), (.invokestatic 533, 3, 3, 1), (.isub, 1, 0, 0), (.ireturn, 1, 0, 0)]),
  (104, [0], [(.aload_n 0, 1, 0, 0), (.getfield 109, 3, 10, 60), (.iconst 1, 1, 0, 0), (.invokestatic 533, 3, 3, 1), (.aload_n 0, 1, 0, 0), (.getfield 109, 3, 10, 60), (.iconst 0, 1, 0, 0), (.invokestatic 533, 3, 3, 1), (.isub, 1, 0, 0), (.ireturn, 1, 0, 0)]),
  (122, [0], [(.aload_n 0, 1, 0, 0), (.getfield 112, 3, 10, 61), (.iconst 1, 1, 0, 0), (.iaload, 1, 0, 0), (.aload_n 0, 1, 0, 0), (.getfield 112, 3, 10, 61), (.iconst 0, 1, 0, 0), (.iaload, 1, 0, 0), (.isub, 1, 0, 0), (.ireturn, 1, 0, 0)]),
  (136, [0], [(.aload_n 0, 1, 0, 0), (.getfield 115, 3, 10, 62), (.iconst 1, 1, 0, 0), (.iaload, 1, 0, 0), (.aload_n 0, 1, 0, 0), (.getfield 115, 3, 10, 62), (.iconst 0, 1, 0, 0), (.iaload, 1, 0, 0), (.isub, 1, 0, 0), (.ireturn, 1, 0, 0)])], none)
noncomputable def Mo_ahead (x1 : Int32) (x2 : Int32) (M : AM) : Option (Option Value × AM) := mD C_Mo_ahead [.ref 82, .int x1, .int x2] M
noncomputable def C_Mo_heldBits : MC := (6, 1, [(0, 10, 5, mD C_Mo_heldAt)], [(0, [0, 1, 2], [(.iconst 0, 1, 0, 0), (.istore_n 3, 1, 0, 0), (.iconst 0, 1, 0, 0), (.istore 4, 2, 0, 0)]),
  (5, [0, 1, 2, 3, 4], [(.iload 4, 2, 0, 0), (.aload_n 0, 1, 0, 0), (.getfield 243, 3, 10, 12), (.if_icmp .ge 51, 3, 62, 0), (.iconst 0, 1, 0, 0), (.istore 5, 2, 0, 0)]),
  (17, [0, 1, 2, 3, 4, 5], [(.iload 5, 2, 0, 0), (.aload_n 0, 1, 0, 0), (.getfield 246, 3, 10, 13), (.if_icmp .ge 33, 3, 56, 0), (.iload_n 3, 1, 0, 0), (.aload_n 0, 1, 0, 0), (.iload_n 1, 1, 0, 0), (.iload_n 2, 1, 0, 0), (.iload 4, 2, 0, 0), (.iload 5, 2, 0, 0), (.invokevirtual 422, 3, 0, 1), (.ifCond .le 10, 3, 47, 0), (.iconst 1, 1, 0, 0), (.iload 5, 2, 0, 0), (.ishl, 1, 0, 0), (.goto 4, 3, 48, 0)]),
  (47, [0, 1, 2, 4, 5], [(.iconst 0, 1, 0, 0)]),
  (48, [0, 1, 2, 4, 5], [(.ior, 1, 0, 0), (.istore_n 3, 1, 0, 0), (.iinc 5 1, 3, 0, 0), (.goto (-36), 3, 17, 0)]),
  (56, [0, 1, 2, 3, 4], [(.iinc 4 1, 3, 0, 0), (.goto (-54), 3, 5, 0)]),
  (62, [3], [(.iload_n 3, 1, 0, 0), (.ireturn, 1, 0, 0)])], none)
noncomputable def Mo_heldBits (x1 : Int32) (x2 : Int32) (M : AM) : Option (Option Value × AM) := mD C_Mo_heldBits [.ref 82, .int x1, .int x2] M
noncomputable def Mo_heldBits_5 (x1 : Int32) (x2 : Int32) (x3 : Int32) (x4 : Int32) (M : AM) : Option (Option Value × AM) := it C_Mo_heldBits 5 [(0, .ref 82), (1, .int x1), (2, .int x2), (3, .int x3), (4, .int x4)] [] M
noncomputable def Mo_heldBits_17 (x1 : Int32) (x2 : Int32) (x3 : Int32) (x4 : Int32) (x5 : Int32) (M : AM) : Option (Option Value × AM) := it C_Mo_heldBits 17 [(0, .ref 82), (1, .int x1), (2, .int x2), (3, .int x3), (4, .int x4), (5, .int x5)] [] M
noncomputable def C_Mo_quiet : MC := (3, 1, [(0, 10, 2, mD C_Mo_isTree), (0, 10, 1, mD C_Mo_layTried), (0, 10, 3, mD C_Mo_stopsListening), (0, 10, 3, mD C_Mo_heldBits), (0, 10, 2, mD C_Mo_tickGoes)], [(0, [0, 1], [(.aload_n 0, 1, 0, 0), (.iconst 0, 1, 0, 0), (.putfield 160, 3, 10, 2), (.aload_n 0, 1, 0, 0), (.iload_n 1, 1, 0, 0), (.invokevirtual 516, 3, 0, 1), (.ifCond .ne 5, 3, 15, 0), (.iconst (-1), 1, 0, 0), (.ireturn, 1, 0, 0)]),
  (15, [0, 1], [(.aload_n 0, 1, 0, 0), (.invokevirtual 527, 3, 1, 0), (.aload_n 0, 1, 0, 0), (.iconst 1, 1, 0, 0), (.putfield 410, 3, 10, 71), (.iconst 0, 1, 0, 0), (.istore_n 2, 1, 0, 0)]),
  (26, [0, 1, 2], [(.iload_n 2, 1, 0, 0), (.aload_n 0, 1, 0, 0), (.getfield 243, 3, 10, 12), (.if_icmp .ge 15, 3, 46, 0), (.aload_n 0, 1, 0, 0), (.iconst 1, 1, 0, 0), (.iload_n 2, 1, 0, 0), (.invokevirtual 468, 3, 2, 0), (.iinc 2 1, 3, 0, 0), (.goto (-17), 3, 26, 0)]),
  (46, [0, 1], [(.iconst 0, 1, 0, 0), (.istore_n 2, 1, 0, 0)]),
  (48, [0, 1, 2], [(.iload_n 2, 1, 0, 0), (.bipush 100, 2, 0, 0), (.if_icmp .ge 25, 3, 76, 0), (.aload_n 0, 1, 0, 0), (.iconst 1, 1, 0, 0), (.iload_n 1, 1, 0, 0), (.invokevirtual 537, 3, 3, 1), (.ifCond .ne 5, 3, 65, 0), (.iload_n 2, 1, 0, 0), (.ireturn, 1, 0, 0)]),
  (65, [0, 1, 2], [(.aload_n 0, 1, 0, 0), (.iconst 1, 1, 0, 0), (.invokevirtual 504, 3, 4, 0), (.iinc 2 1, 3, 0, 0), (.goto (-25), 3, 48, 0)]),
  (76, [], [(.bipush (-2), 2, 0, 0), (.ireturn, 1, 0, 0)])], none)
noncomputable def Mo_quiet (x1 : Int32) (M : AM) : Option (Option Value × AM) := mD C_Mo_quiet [.ref 82, .int x1] M
noncomputable def Mo_quiet_26 (x1 : Int32) (x2 : Int32) (M : AM) : Option (Option Value × AM) := it C_Mo_quiet 26 [(0, .ref 82), (1, .int x1), (2, .int x2)] [] M
noncomputable def Mo_quiet_48 (x1 : Int32) (x2 : Int32) (M : AM) : Option (Option Value × AM) := it C_Mo_quiet 48 [(0, .ref 82), (1, .int x1), (2, .int x2)] [] M
noncomputable def C_Mo_isSettled : MC := (4, 3, [(0, 10, 4, mD C_Mo_wantsNow), (0, 10, 4, mD C_Mo_upLink), (0, 10, 5, mD C_Mo_heldAt)], [(0, [0], [(.iconst 0, 1, 0, 0), (.istore_n 1, 1, 0, 0)]),
  (2, [0, 1], [(.iload_n 1, 1, 0, 0), (.aload_n 0, 1, 0, 0), (.getfield 249, 3, 10, 14), (.if_icmp .gt 67, 3, 74, 0), (.iconst 0, 1, 0, 0), (.istore_n 2, 1, 0, 0)]),
  (12, [0, 1, 2], [(.iload_n 2, 1, 0, 0), (.aload_n 0, 1, 0, 0), (.getfield 243, 3, 10, 12), (.if_icmp .ge 51, 3, 68, 0), (.aload_n 0, 1, 0, 0), (.iconst 1, 1, 0, 0), (.iload_n 1, 1, 0, 0), (.iload_n 2, 1, 0, 0), (.invokevirtual 471, 3, 0, 1), (.ifCond .eq 13, 3, 40, 0), (.aload_n 0, 1, 0, 0), (.iconst 1, 1, 0, 0), (.iload_n 1, 1, 0, 0), (.iload_n 2, 1, 0, 0), (.invokevirtual 474, 3, 1, 1), (.goto 4, 3, 41, 0)]),
  (40, [0, 1, 2], [(.iconst (-1), 1, 0, 0)]),
  (41, [0, 1, 2], [(.istore_n 3, 1, 0, 0), (.iload_n 3, 1, 0, 0), (.ifCond .lt 19, 3, 62, 0), (.aload_n 0, 1, 0, 0), (.iconst 1, 1, 0, 0), (.iload_n 1, 1, 0, 0), (.aload_n 0, 1, 0, 0), (.getfield 447, 3, 10, 76), (.iload_n 3, 1, 0, 0), (.invokevirtual 422, 3, 2, 1), (.ifCond .ne 5, 3, 62, 0), (.iconst 0, 1, 0, 0), (.ireturn, 1, 0, 0)]),
  (62, [0, 1, 2], [(.iinc 2 1, 3, 0, 0), (.goto (-53), 3, 12, 0)]),
  (68, [0, 1], [(.iinc 1 1, 3, 0, 0), (.goto (-69), 3, 2, 0)]),
  (74, [], [(.iconst 1, 1, 0, 0), (.ireturn, 1, 0, 0)])], none)
noncomputable def Mo_isSettled (M : AM) : Option (Option Value × AM) := mD C_Mo_isSettled [.ref 82] M
noncomputable def Mo_isSettled_2 (x1 : Int32) (M : AM) : Option (Option Value × AM) := it C_Mo_isSettled 2 [(0, .ref 82), (1, .int x1)] [] M
noncomputable def Mo_isSettled_12 (x1 : Int32) (x2 : Int32) (M : AM) : Option (Option Value × AM) := it C_Mo_isSettled 12 [(0, .ref 82), (1, .int x1), (2, .int x2)] [] M
noncomputable def Mo_isSettled_41 (x1 : Int32) (x2 : Int32) (z0 : Int32) (M : AM) : Option (Option Value × AM) := it C_Mo_isSettled 41 [(0, .ref 82), (1, .int x1), (2, .int x2)] [.int z0] M
noncomputable def C_Mo_settled : MC := (2, 1, [(0, 10, 1, mD C_Mo_layTried), (0, 10, 1, mD C_Mo_isSettled), (0, 10, 2, mD C_Mo_tickGoes)], [(0, [0], [(.aload_n 0, 1, 0, 0), (.iconst 0, 1, 0, 0), (.putfield 160, 3, 10, 2), (.aload_n 0, 1, 0, 0), (.invokevirtual 527, 3, 0, 0), (.aload_n 0, 1, 0, 0), (.iconst 1, 1, 0, 0), (.putfield 410, 3, 10, 71), (.iconst 0, 1, 0, 0), (.istore_n 1, 1, 0, 0)]),
  (16, [0, 1], [(.iload_n 1, 1, 0, 0), (.bipush 100, 2, 0, 0), (.if_icmp .ge 23, 3, 42, 0), (.aload_n 0, 1, 0, 0), (.invokevirtual 540, 3, 1, 1), (.ifCond .eq 5, 3, 31, 0), (.iload_n 1, 1, 0, 0), (.ireturn, 1, 0, 0)]),
  (31, [0, 1], [(.aload_n 0, 1, 0, 0), (.iconst 1, 1, 0, 0), (.invokevirtual 504, 3, 2, 0), (.iinc 1 1, 3, 0, 0), (.goto (-23), 3, 16, 0)]),
  (42, [], [(.bipush (-2), 2, 0, 0), (.ireturn, 1, 0, 0)])], none)
noncomputable def Mo_settled (M : AM) : Option (Option Value × AM) := mD C_Mo_settled [.ref 82] M
noncomputable def Mo_settled_16 (x1 : Int32) (M : AM) : Option (Option Value × AM) := it C_Mo_settled 16 [(0, .ref 82), (1, .int x1)] [] M
noncomputable def C_Mo_way : MC := (5, 1, [(0, 10, 2, mD C_Mo_isTree), (0, 10, 2, mD C_Mo_isNode), (0, 10, 1, mD C_Mo_plainTried), (0, 10, 4, mD C_Mo_farOf), (0, 10, 4, mD C_Mo_upLink)], [(0, [0, 1, 2], [(.aload_n 0, 1, 0, 0), (.iconst 0, 1, 0, 0), (.putfield 160, 3, 10, 2), (.aload_n 0, 1, 0, 0), (.iload_n 1, 1, 0, 0), (.invokevirtual 516, 3, 0, 1), (.ifCond .eq 11, 3, 21, 0), (.aload_n 0, 1, 0, 0), (.iload_n 2, 1, 0, 0), (.invokevirtual 507, 3, 1, 1), (.ifCond .ne 5, 3, 23, 0)]),
  (21, [], [(.iconst (-1), 1, 0, 0), (.ireturn, 1, 0, 0)]),
  (23, [0, 1, 2], [(.aload_n 0, 1, 0, 0), (.invokevirtual 383, 3, 2, 0), (.aload_n 0, 1, 0, 0), (.iconst 0, 1, 0, 0), (.iload_n 1, 1, 0, 0), (.iload_n 2, 1, 0, 0), (.invokevirtual 444, 3, 3, 1), (.bipush 99, 2, 0, 0), (.if_icmp .lt 6, 3, 42, 0), (.bipush (-2), 2, 0, 0), (.ireturn, 1, 0, 0)]),
  (42, [0, 1, 2], [(.iconst 0, 1, 0, 0), (.istore_n 3, 1, 0, 0), (.iload_n 2, 1, 0, 0), (.istore 4, 2, 0, 0)]),
  (47, [0, 1, 3, 4], [(.iload 4, 2, 0, 0), (.ifCond .lt 28, 3, 77, 0), (.iload_n 3, 1, 0, 0), (.iconst 1, 1, 0, 0), (.iload 4, 2, 0, 0), (.ishl, 1, 0, 0), (.ior, 1, 0, 0), (.istore_n 3, 1, 0, 0), (.aload_n 0, 1, 0, 0), (.iconst 0, 1, 0, 0), (.iload_n 1, 1, 0, 0), (.iload 4, 2, 0, 0), (.invokevirtual 474, 3, 4, 1), (.pop, 1, 0, 0), (.aload_n 0, 1, 0, 0), (.getfield 447, 3, 10, 76), (.istore 4, 2, 0, 0), (.goto (-27), 3, 47, 0)]),
  (77, [3], [(.iload_n 3, 1, 0, 0), (.ireturn, 1, 0, 0)])], none)
noncomputable def Mo_way (x1 : Int32) (x2 : Int32) (M : AM) : Option (Option Value × AM) := mD C_Mo_way [.ref 82, .int x1, .int x2] M
noncomputable def Mo_way_47 (x1 : Int32) (x3 : Int32) (x4 : Int32) (M : AM) : Option (Option Value × AM) := it C_Mo_way 47 [(0, .ref 82), (1, .int x1), (3, .int x3), (4, .int x4)] [] M
noncomputable def C_Mo_best : MC := (7, 1, [(1, 0, 3, mD C_Mo_isIn), (0, 10, 1, mD C_Mo_plainTried), (0, 10, 3, mD C_Mo_layDist), (1, 0, 2, mD C_Mo_isOf)], [(0, [0, 1], [(.aload_n 0, 1, 0, 0), (.iconst 0, 1, 0, 0), (.putfield 160, 3, 10, 2), (.iload_n 1, 1, 0, 0), (.iconst 0, 1, 0, 0), (.iconst 1, 1, 0, 0), (.invokestatic 205, 3, 0, 1), (.ifCond .ne 5, 3, 16, 0), (.iconst (-1), 1, 0, 0), (.ireturn, 1, 0, 0)]),
  (16, [0, 1], [(.aload_n 0, 1, 0, 0), (.invokevirtual 383, 3, 1, 0), (.bipush (-2), 2, 0, 0), (.istore_n 2, 1, 0, 0), (.bipush (-2), 2, 0, 0), (.istore_n 3, 1, 0, 0), (.iconst 0, 1, 0, 0), (.istore 4, 2, 0, 0)]),
  (29, [0, 1, 2, 3, 4], [(.iload 4, 2, 0, 0), (.aload_n 0, 1, 0, 0), (.getfield 243, 3, 10, 12), (.if_icmp .ge 91, 3, 126, 0), (.aload_n 0, 1, 0, 0), (.iload 4, 2, 0, 0), (.aload_n 0, 1, 0, 0), (.getfield 91, 3, 10, 54), (.iconst 0, 1, 0, 0), (.iaload, 1, 0, 0), (.invokevirtual 432, 3, 2, 0), (.iconst 0, 1, 0, 0), (.istore 5, 2, 0, 0), (.iconst 0, 1, 0, 0), (.istore 6, 2, 0, 0)]),
  (56, [0, 1, 2, 3, 4, 5, 6], [(.iload 6, 2, 0, 0), (.aload_n 0, 1, 0, 0), (.getfield 243, 3, 10, 12), (.if_icmp .ge 39, 3, 101, 0), (.iload 5, 2, 0, 0), (.aload_n 0, 1, 0, 0), (.getfield 94, 3, 10, 55), (.iconst 0, 1, 0, 0), (.iaload, 1, 0, 0), (.iload 6, 2, 0, 0), (.invokestatic 279, 3, 3, 1), (.ifCond .eq 13, 3, 91, 0), (.aload_n 0, 1, 0, 0), (.getfield 124, 3, 10, 75), (.iload 6, 2, 0, 0), (.iaload, 1, 0, 0), (.goto 4, 3, 92, 0)]),
  (91, [0, 1, 2, 3, 4, 6], [(.iconst 0, 1, 0, 0)]),
  (92, [0, 1, 2, 3, 4, 6], [(.iadd, 1, 0, 0), (.istore 5, 2, 0, 0), (.iinc 6 1, 3, 0, 0), (.goto (-42), 3, 56, 0)]),
  (101, [0, 1, 2, 3, 4, 5], [(.iload_n 2, 1, 0, 0), (.ifCond .lt 12, 3, 114, 0), (.iload 5, 2, 0, 0), (.iload_n 3, 1, 0, 0), (.if_icmp .lt 6, 3, 114, 0), (.goto 9, 3, 120, 0)]),
  (114, [0, 1, 4, 5], [(.iload 4, 2, 0, 0), (.istore_n 2, 1, 0, 0), (.iload 5, 2, 0, 0), (.istore_n 3, 1, 0, 0)]),
  (120, [0, 1, 2, 3, 4], [(.iinc 4 1, 3, 0, 0), (.goto (-94), 3, 29, 0)]),
  (126, [1, 2, 3], [(.iload_n 1, 1, 0, 0), (.ifCond .ne 7, 3, 134, 0), (.iload_n 2, 1, 0, 0), (.goto 4, 3, 135, 0)]),
  (134, [3], [(.iload_n 3, 1, 0, 0)]),
  (135, [], [(.ireturn, 1, 0, 0)])], none)
noncomputable def Mo_best (x1 : Int32) (M : AM) : Option (Option Value × AM) := mD C_Mo_best [.ref 82, .int x1] M
noncomputable def Mo_best_29 (x1 : Int32) (x2 : Int32) (x3 : Int32) (x4 : Int32) (M : AM) : Option (Option Value × AM) := it C_Mo_best 29 [(0, .ref 82), (1, .int x1), (2, .int x2), (3, .int x3), (4, .int x4)] [] M
noncomputable def Mo_best_56 (x1 : Int32) (x2 : Int32) (x3 : Int32) (x4 : Int32) (x5 : Int32) (x6 : Int32) (M : AM) : Option (Option Value × AM) := it C_Mo_best 56 [(0, .ref 82), (1, .int x1), (2, .int x2), (3, .int x3), (4, .int x4), (5, .int x5), (6, .int x6)] [] M
noncomputable def C_Mo_costAll : MC := (4, 1, [(1, 0, 2, mD C_Mo_isOf)], [(0, [0, 1], [(.iconst 0, 1, 0, 0), (.istore_n 2, 1, 0, 0), (.iconst 0, 1, 0, 0), (.istore_n 3, 1, 0, 0)]),
  (4, [0, 1, 2, 3], [(.iload_n 3, 1, 0, 0), (.aload_n 0, 1, 0, 0), (.getfield 246, 3, 10, 13), (.if_icmp .ge 30, 3, 39, 0), (.iload_n 2, 1, 0, 0), (.iload_n 1, 1, 0, 0), (.iload_n 3, 1, 0, 0), (.invokestatic 279, 3, 0, 1), (.ifCond .eq 12, 3, 30, 0), (.aload_n 0, 1, 0, 0), (.getfield 33, 3, 10, 28), (.iload_n 3, 1, 0, 0), (.iaload, 1, 0, 0), (.goto 4, 3, 31, 0)]),
  (30, [0, 1, 3], [(.iconst 0, 1, 0, 0)]),
  (31, [0, 1, 3], [(.iadd, 1, 0, 0), (.istore_n 2, 1, 0, 0), (.iinc 3 1, 3, 0, 0), (.goto (-32), 3, 4, 0)]),
  (39, [2], [(.iload_n 2, 1, 0, 0), (.ireturn, 1, 0, 0)])], none)
noncomputable def Mo_costAll (x1 : Int32) (M : AM) : Option (Option Value × AM) := mD C_Mo_costAll [.ref 82, .int x1] M
noncomputable def Mo_costAll_4 (x1 : Int32) (x2 : Int32) (x3 : Int32) (M : AM) : Option (Option Value × AM) := it C_Mo_costAll 4 [(0, .ref 82), (1, .int x1), (2, .int x2), (3, .int x3)] [] M
noncomputable def C_Mo_least : MC := (7, 1, [(0, 10, 2, mD C_Mo_isSource), (1, 0, 3, mD C_Mo_isIn), (0, 10, 1, mD C_Mo_plainTried), (0, 10, 2, mD C_Mo_costAll), (0, 10, 3, mD C_Mo_layDist), (1, 0, 2, mD C_Mo_isOf)], [(0, [0, 1, 2], [(.aload_n 0, 1, 0, 0), (.iconst 0, 1, 0, 0), (.putfield 160, 3, 10, 2), (.aload_n 0, 1, 0, 0), (.iload_n 1, 1, 0, 0), (.invokevirtual 524, 3, 0, 1), (.ifCond .eq 12, 3, 22, 0), (.iload_n 2, 1, 0, 0), (.iconst 0, 1, 0, 0), (.iconst 1, 1, 0, 0), (.invokestatic 205, 3, 1, 1), (.ifCond .ne 5, 3, 24, 0)]),
  (22, [], [(.iconst (-1), 1, 0, 0), (.ireturn, 1, 0, 0)]),
  (24, [0, 1, 2], [(.aload_n 0, 1, 0, 0), (.invokevirtual 383, 3, 2, 0), (.bipush (-2), 2, 0, 0), (.istore_n 3, 1, 0, 0), (.iconst 0, 1, 0, 0), (.istore 4, 2, 0, 0)]),
  (34, [0, 1, 2, 3, 4], [(.iload 4, 2, 0, 0), (.iconst 1, 1, 0, 0), (.aload_n 0, 1, 0, 0), (.getfield 246, 3, 10, 13), (.ishl, 1, 0, 0), (.if_icmp .ge 123, 3, 165, 0), (.iload 4, 2, 0, 0), (.aload_n 0, 1, 0, 0), (.getfield 91, 3, 10, 54), (.iconst 0, 1, 0, 0), (.iaload, 1, 0, 0), (.iand, 1, 0, 0), (.ifCond .ne 105, 3, 159, 0), (.iload_n 3, 1, 0, 0), (.ifCond .lt 20, 3, 78, 0), (.aload_n 0, 1, 0, 0), (.iload 4, 2, 0, 0), (.invokevirtual 543, 3, 3, 1), (.aload_n 0, 1, 0, 0), (.iload_n 3, 1, 0, 0), (.invokevirtual 543, 3, 3, 1), (.if_icmp .lt 6, 3, 78, 0), (.goto 84, 3, 159, 0)]),
  (78, [0, 1, 2, 3, 4], [(.aload_n 0, 1, 0, 0), (.aload_n 0, 1, 0, 0), (.getfield 42, 3, 10, 31), (.iload_n 1, 1, 0, 0), (.iaload, 1, 0, 0), (.iload 4, 2, 0, 0), (.iconst (-1), 1, 0, 0), (.ixor, 1, 0, 0), (.invokevirtual 432, 3, 4, 0), (.iconst 1, 1, 0, 0), (.istore 5, 2, 0, 0), (.iconst 0, 1, 0, 0), (.istore 6, 2, 0, 0)]),
  (98, [0, 1, 2, 3, 4, 5, 6], [(.iload 6, 2, 0, 0), (.aload_n 0, 1, 0, 0), (.getfield 243, 3, 10, 12), (.if_icmp .ge 47, 3, 151, 0), (.iload 5, 2, 0, 0), (.ifCond .eq 33, 3, 142, 0), (.aload_n 0, 1, 0, 0), (.getfield 94, 3, 10, 55), (.iconst 0, 1, 0, 0), (.iaload, 1, 0, 0), (.iload 6, 2, 0, 0), (.invokestatic 279, 3, 5, 1), (.ifCond .eq 15, 3, 138, 0), (.aload_n 0, 1, 0, 0), (.getfield 124, 3, 10, 75), (.iload 6, 2, 0, 0), (.iaload, 1, 0, 0), (.bipush 99, 2, 0, 0), (.if_icmp .ge 7, 3, 142, 0)]),
  (138, [0, 1, 2, 3, 4, 6], [(.iconst 1, 1, 0, 0), (.goto 4, 3, 143, 0)]),
  (142, [0, 1, 2, 3, 4, 6], [(.iconst 0, 1, 0, 0)]),
  (143, [0, 1, 2, 3, 4, 6], [(.istore 5, 2, 0, 0), (.iinc 6 1, 3, 0, 0), (.goto (-50), 3, 98, 0)]),
  (151, [0, 1, 2, 3, 4, 5], [(.iload 5, 2, 0, 0), (.ifCond .eq 6, 3, 159, 0), (.iload 4, 2, 0, 0), (.istore_n 3, 1, 0, 0)]),
  (159, [0, 1, 2, 3, 4], [(.iinc 4 1, 3, 0, 0), (.goto (-128), 3, 34, 0)]),
  (165, [0, 2, 3], [(.iload_n 3, 1, 0, 0), (.ifCond .lt 7, 3, 173, 0), (.iload_n 2, 1, 0, 0), (.ifCond .ne 7, 3, 177, 0)]),
  (173, [3], [(.iload_n 3, 1, 0, 0), (.goto 8, 3, 182, 0)]),
  (177, [0, 3], [(.aload_n 0, 1, 0, 0), (.iload_n 3, 1, 0, 0), (.invokevirtual 543, 3, 3, 1)]),
  (182, [], [(.ireturn, 1, 0, 0)])], none)
noncomputable def Mo_least (x1 : Int32) (x2 : Int32) (M : AM) : Option (Option Value × AM) := mD C_Mo_least [.ref 82, .int x1, .int x2] M
noncomputable def Mo_least_34 (x1 : Int32) (x2 : Int32) (x3 : Int32) (x4 : Int32) (M : AM) : Option (Option Value × AM) := it C_Mo_least 34 [(0, .ref 82), (1, .int x1), (2, .int x2), (3, .int x3), (4, .int x4)] [] M
noncomputable def Mo_least_78 (x1 : Int32) (x2 : Int32) (x3 : Int32) (x4 : Int32) (M : AM) : Option (Option Value × AM) := it C_Mo_least 78 [(0, .ref 82), (1, .int x1), (2, .int x2), (3, .int x3), (4, .int x4)] [] M
noncomputable def Mo_least_98 (x1 : Int32) (x2 : Int32) (x3 : Int32) (x4 : Int32) (x5 : Int32) (x6 : Int32) (M : AM) : Option (Option Value × AM) := it C_Mo_least 98 [(0, .ref 82), (1, .int x1), (2, .int x2), (3, .int x3), (4, .int x4), (5, .int x5), (6, .int x6)] [] M
noncomputable def C_Mo_nearOnes : MC := (5, 1, [(0, 10, 2, mD C_Mo_rootOf), (0, 10, 3, mD C_Mo_layDist), (1, 0, 2, mD C_Mo_isOf)], [(0, [0, 1, 2], [(.aload_n 0, 1, 0, 0), (.aload_n 0, 1, 0, 0), (.iload_n 1, 1, 0, 0), (.invokevirtual 429, 3, 0, 1), (.iload_n 2, 1, 0, 0), (.invokevirtual 432, 3, 1, 0), (.iconst 0, 1, 0, 0), (.istore_n 3, 1, 0, 0), (.iconst 0, 1, 0, 0), (.istore 4, 2, 0, 0)]),
  (15, [0, 3, 4], [(.iload 4, 2, 0, 0), (.aload_n 0, 1, 0, 0), (.getfield 243, 3, 10, 12), (.if_icmp .ge 46, 3, 67, 0), (.iload_n 3, 1, 0, 0), (.aload_n 0, 1, 0, 0), (.getfield 94, 3, 10, 55), (.iconst 0, 1, 0, 0), (.iaload, 1, 0, 0), (.iload 4, 2, 0, 0), (.invokestatic 279, 3, 2, 1), (.ifCond .eq 22, 3, 58, 0), (.aload_n 0, 1, 0, 0), (.getfield 124, 3, 10, 75), (.iload 4, 2, 0, 0), (.iaload, 1, 0, 0), (.bipush 99, 2, 0, 0), (.if_icmp .ge 10, 3, 58, 0), (.iconst 1, 1, 0, 0), (.iload 4, 2, 0, 0), (.ishl, 1, 0, 0), (.goto 4, 3, 59, 0)]),
  (58, [0, 4], [(.iconst 0, 1, 0, 0)]),
  (59, [0, 4], [(.ior, 1, 0, 0), (.istore_n 3, 1, 0, 0), (.iinc 4 1, 3, 0, 0), (.goto (-49), 3, 15, 0)]),
  (67, [3], [(.iload_n 3, 1, 0, 0), (.ireturn, 1, 0, 0)])], none)
noncomputable def Mo_nearOnes (x1 : Int32) (x2 : Int32) (M : AM) : Option (Option Value × AM) := mD C_Mo_nearOnes [.ref 82, .int x1, .int x2] M
noncomputable def Mo_nearOnes_15 (x3 : Int32) (x4 : Int32) (M : AM) : Option (Option Value × AM) := it C_Mo_nearOnes 15 [(0, .ref 82), (3, .int x3), (4, .int x4)] [] M
noncomputable def C_Mo_needed : MC := (5, 1, [(0, 10, 2, mD C_Mo_isTree), (0, 10, 1, mD C_Mo_plainTried), (0, 10, 3, mD C_Mo_nearOnes), (1, 0, 2, mD C_Mo_isOf)], [(0, [0, 1], [(.aload_n 0, 1, 0, 0), (.iconst 0, 1, 0, 0), (.putfield 160, 3, 10, 2), (.aload_n 0, 1, 0, 0), (.iload_n 1, 1, 0, 0), (.invokevirtual 516, 3, 0, 1), (.ifCond .ne 5, 3, 15, 0), (.iconst (-1), 1, 0, 0), (.ireturn, 1, 0, 0)]),
  (15, [0, 1], [(.aload_n 0, 1, 0, 0), (.invokevirtual 383, 3, 1, 0), (.aload_n 0, 1, 0, 0), (.iload_n 1, 1, 0, 0), (.aload_n 0, 1, 0, 0), (.getfield 91, 3, 10, 54), (.iconst 0, 1, 0, 0), (.iaload, 1, 0, 0), (.invokevirtual 546, 3, 2, 1), (.istore_n 2, 1, 0, 0), (.iconst 0, 1, 0, 0), (.istore_n 3, 1, 0, 0), (.iconst 0, 1, 0, 0), (.istore 4, 2, 0, 0)]),
  (36, [0, 1, 2, 3, 4], [(.iload 4, 2, 0, 0), (.aload_n 0, 1, 0, 0), (.getfield 246, 3, 10, 13), (.if_icmp .ge 54, 3, 96, 0), (.iload_n 3, 1, 0, 0), (.aload_n 0, 1, 0, 0), (.getfield 91, 3, 10, 54), (.iconst 0, 1, 0, 0), (.iaload, 1, 0, 0), (.iload 4, 2, 0, 0), (.invokestatic 279, 3, 3, 1), (.ifCond .ne 30, 3, 87, 0), (.aload_n 0, 1, 0, 0), (.iload_n 1, 1, 0, 0), (.aload_n 0, 1, 0, 0), (.getfield 91, 3, 10, 54), (.iconst 0, 1, 0, 0), (.iaload, 1, 0, 0), (.iconst 1, 1, 0, 0), (.iload 4, 2, 0, 0), (.ishl, 1, 0, 0), (.ior, 1, 0, 0), (.invokevirtual 546, 3, 2, 1), (.iload_n 2, 1, 0, 0), (.if_icmp .eq 10, 3, 87, 0), (.iconst 1, 1, 0, 0), (.iload 4, 2, 0, 0), (.ishl, 1, 0, 0), (.goto 4, 3, 88, 0)]),
  (87, [0, 1, 2, 4], [(.iconst 0, 1, 0, 0)]),
  (88, [0, 1, 2, 4], [(.ior, 1, 0, 0), (.istore_n 3, 1, 0, 0), (.iinc 4 1, 3, 0, 0), (.goto (-57), 3, 36, 0)]),
  (96, [3], [(.iload_n 3, 1, 0, 0), (.ireturn, 1, 0, 0)])], none)
noncomputable def Mo_needed (x1 : Int32) (M : AM) : Option (Option Value × AM) := mD C_Mo_needed [.ref 82, .int x1] M
noncomputable def Mo_needed_36 (x1 : Int32) (x2 : Int32) (x3 : Int32) (x4 : Int32) (M : AM) : Option (Option Value × AM) := it C_Mo_needed 36 [(0, .ref 82), (1, .int x1), (2, .int x2), (3, .int x3), (4, .int x4)] [] M
noncomputable def C_Mo_wide : MC := (4, 1, [(0, 10, 2, mD C_Mo_isTree), (0, 10, 1, mD C_Mo_plainTried), (0, 10, 2, mD C_Mo_rootOf), (0, 10, 3, mD C_Mo_layDist)], [(0, [0, 1], [(.aload_n 0, 1, 0, 0), (.iconst 0, 1, 0, 0), (.putfield 160, 3, 10, 2), (.aload_n 0, 1, 0, 0), (.iload_n 1, 1, 0, 0), (.invokevirtual 516, 3, 0, 1), (.ifCond .ne 5, 3, 15, 0), (.iconst (-1), 1, 0, 0), (.ireturn, 1, 0, 0)]),
  (15, [0, 1], [(.aload_n 0, 1, 0, 0), (.invokevirtual 383, 3, 1, 0), (.aload_n 0, 1, 0, 0), (.aload_n 0, 1, 0, 0), (.iload_n 1, 1, 0, 0), (.invokevirtual 429, 3, 2, 1), (.aload_n 0, 1, 0, 0), (.getfield 91, 3, 10, 54), (.iconst 0, 1, 0, 0), (.iaload, 1, 0, 0), (.invokevirtual 432, 3, 3, 0), (.iconst 0, 1, 0, 0), (.istore_n 2, 1, 0, 0), (.iconst 0, 1, 0, 0), (.istore_n 3, 1, 0, 0)]),
  (38, [0, 2, 3], [(.iload_n 3, 1, 0, 0), (.aload_n 0, 1, 0, 0), (.getfield 243, 3, 10, 12), (.if_icmp .ge 41, 3, 84, 0), (.aload_n 0, 1, 0, 0), (.getfield 124, 3, 10, 75), (.iload_n 3, 1, 0, 0), (.iaload, 1, 0, 0), (.bipush 99, 2, 0, 0), (.if_icmp .ge 22, 3, 76, 0), (.aload_n 0, 1, 0, 0), (.getfield 124, 3, 10, 75), (.iload_n 3, 1, 0, 0), (.iaload, 1, 0, 0), (.iload_n 2, 1, 0, 0), (.if_icmp .le 12, 3, 76, 0), (.aload_n 0, 1, 0, 0), (.getfield 124, 3, 10, 75), (.iload_n 3, 1, 0, 0), (.iaload, 1, 0, 0), (.goto 4, 3, 77, 0)]),
  (76, [0, 2, 3], [(.iload_n 2, 1, 0, 0)]),
  (77, [0, 3], [(.istore_n 2, 1, 0, 0), (.iinc 3 1, 3, 0, 0), (.goto (-43), 3, 38, 0)]),
  (84, [2], [(.iload_n 2, 1, 0, 0), (.ireturn, 1, 0, 0)])], none)
noncomputable def Mo_wide (x1 : Int32) (M : AM) : Option (Option Value × AM) := mD C_Mo_wide [.ref 82, .int x1] M
noncomputable def Mo_wide_38 (x2 : Int32) (x3 : Int32) (M : AM) : Option (Option Value × AM) := it C_Mo_wide 38 [(0, .ref 82), (2, .int x2), (3, .int x3)] [] M
noncomputable def C_Mo_used : MC := (2, 1, [(0, 10, 2, mD C_Mo_isTree), (0, 10, 3, mD C_Mo_heldBits)], [(0, [0, 1], [(.aload_n 0, 1, 0, 0), (.iconst 0, 1, 0, 0), (.putfield 160, 3, 10, 2), (.aload_n 0, 1, 0, 0), (.iload_n 1, 1, 0, 0), (.invokevirtual 516, 3, 0, 1), (.ifCond .eq 12, 3, 22, 0), (.aload_n 0, 1, 0, 0), (.iconst 0, 1, 0, 0), (.iload_n 1, 1, 0, 0), (.invokevirtual 537, 3, 1, 1), (.goto 4, 3, 23, 0)]),
  (22, [], [(.iconst (-1), 1, 0, 0)]),
  (23, [], [(.ireturn, 1, 0, 0)])], none)
noncomputable def Mo_used (x1 : Int32) (M : AM) : Option (Option Value × AM) := mD C_Mo_used [.ref 82, .int x1] M
noncomputable def C_Mo_areTwo : MC := (4, 3, [(0, 10, 2, mD C_Mo_isTree), (0, 10, 2, mD C_Mo_isNode)], [(0, [0, 1, 2, 3], [(.aload_n 0, 1, 0, 0), (.iload_n 1, 1, 0, 0), (.invokevirtual 516, 3, 0, 1), (.ifCond .eq 28, 3, 33, 0), (.aload_n 0, 1, 0, 0), (.iload_n 2, 1, 0, 0), (.invokevirtual 507, 3, 1, 1), (.ifCond .eq 20, 3, 33, 0), (.aload_n 0, 1, 0, 0), (.iload_n 3, 1, 0, 0), (.invokevirtual 507, 3, 1, 1), (.ifCond .eq 12, 3, 33, 0), (.iload_n 2, 1, 0, 0), (.iload_n 3, 1, 0, 0), (.if_icmp .eq 7, 3, 33, 0), (.iconst 1, 1, 0, 0), (.goto 4, 3, 34, 0)]),
  (33, [], [(.iconst 0, 1, 0, 0)]),
  (34, [], [(.ireturn, 1, 0, 0)])], none)
noncomputable def Mo_areTwo (x1 : Int32) (x2 : Int32) (x3 : Int32) (M : AM) : Option (Option Value × AM) := mD C_Mo_areTwo [.ref 82, .int x1, .int x2, .int x3] M
noncomputable def C_Mo_atLeast : MC := (1, 1, [], [(0, [0], [(.iload_n 0, 1, 0, 0), (.ifCond .ge 7, 3, 8, 0), (.iconst 0, 1, 0, 0), (.goto 4, 3, 9, 0)]),
  (8, [0], [(.iload_n 0, 1, 0, 0)]),
  (9, [], [(.ireturn, 1, 0, 0)])], none)
noncomputable def Mo_atLeast (x0 : Int32) (M : AM) : Option (Option Value × AM) := mD C_Mo_atLeast [.int x0] M
noncomputable def C_Mo_hasBy : MC := (6, 1, [(0, 10, 4, mD C_Mo_farOf), (1, 0, 1, mD C_Mo_atLeast)], [(0, [0, 1, 2, 3, 4], [(.iload_n 3, 1, 0, 0), (.iconst 1, 1, 0, 0), (.if_icmp .ne 14, 3, 16, 0), (.iload 4, 2, 0, 0), (.ifCond .ne 7, 3, 14, 0), (.iconst 3, 1, 0, 0), (.goto 4, 3, 15, 0)]),
  (14, [], [(.iconst 0, 1, 0, 0)]),
  (15, [], [(.ireturn, 1, 0, 0)]),
  (16, [0, 1, 2, 4], [(.aload_n 0, 1, 0, 0), (.iconst 0, 1, 0, 0), (.iload_n 1, 1, 0, 0), (.iload_n 2, 1, 0, 0), (.invokevirtual 444, 3, 0, 1), (.istore 5, 2, 0, 0), (.iload 4, 2, 0, 0), (.ifCond .ne 16, 3, 43, 0), (.bipush 9, 2, 0, 0), (.iload 5, 2, 0, 0), (.isub, 1, 0, 0), (.invokestatic 549, 3, 1, 1), (.iconst 2, 1, 0, 0), (.idiv, 1, 0, 0), (.goto 11, 3, 51, 0)]),
  (43, [5], [(.bipush 10, 2, 0, 0), (.iload 5, 2, 0, 0), (.isub, 1, 0, 0), (.invokestatic 549, 3, 1, 1)]),
  (51, [], [(.ireturn, 1, 0, 0)])], none)
noncomputable def Mo_hasBy (x1 : Int32) (x2 : Int32) (x3 : Int32) (x4 : Int32) (M : AM) : Option (Option Value × AM) := mD C_Mo_hasBy [.ref 82, .int x1, .int x2, .int x3, .int x4] M
noncomputable def C_Mo_restAt : MC := (9, 1, [(0, 10, 5, mD C_Mo_hasBy)], [(0, [0, 1, 2, 3, 4], [(.iconst 0, 1, 0, 0), (.istore 5, 2, 0, 0), (.iconst 0, 1, 0, 0), (.istore 6, 2, 0, 0)]),
  (6, [0, 1, 2, 3, 4, 5, 6], [(.iload 6, 2, 0, 0), (.iconst 4, 1, 0, 0), (.if_icmp .ge 93, 3, 102, 0), (.iload 6, 2, 0, 0), (.iconst 2, 1, 0, 0), (.idiv, 1, 0, 0), (.istore 7, 2, 0, 0), (.iload 6, 2, 0, 0), (.iconst 2, 1, 0, 0), (.irem, 1, 0, 0), (.istore 8, 2, 0, 0), (.aload_n 0, 1, 0, 0), (.iload_n 1, 1, 0, 0), (.iload_n 2, 1, 0, 0), (.iconst 1, 1, 0, 0), (.iload 7, 2, 0, 0), (.isub, 1, 0, 0), (.iload 8, 2, 0, 0), (.invokevirtual 552, 3, 0, 1), (.aload_n 0, 1, 0, 0), (.iload_n 1, 1, 0, 0), (.iload_n 2, 1, 0, 0), (.iload 7, 2, 0, 0), (.iload 8, 2, 0, 0), (.invokevirtual 552, 3, 0, 1), (.if_icmp .gt 50, 3, 96, 0), (.aload_n 0, 1, 0, 0), (.iload_n 1, 1, 0, 0), (.iload_n 3, 1, 0, 0), (.iconst 1, 1, 0, 0), (.iload 8, 2, 0, 0), (.isub, 1, 0, 0), (.iload 7, 2, 0, 0), (.invokevirtual 552, 3, 0, 1), (.aload_n 0, 1, 0, 0), (.iload_n 1, 1, 0, 0), (.iload_n 3, 1, 0, 0), (.iload 8, 2, 0, 0), (.iload 7, 2, 0, 0), (.invokevirtual 552, 3, 0, 1), (.if_icmp .le 6, 3, 77, 0), (.goto 22, 3, 96, 0)]),
  (77, [0, 1, 2, 3, 4, 5, 6, 7, 8], [(.iload 5, 2, 0, 0), (.iload 4, 2, 0, 0), (.if_icmp .ne 12, 3, 93, 0), (.bipush 10, 2, 0, 0), (.iload 7, 2, 0, 0), (.imul, 1, 0, 0), (.iload 8, 2, 0, 0), (.iadd, 1, 0, 0), (.ireturn, 1, 0, 0)]),
  (93, [0, 1, 2, 3, 4, 5, 6], [(.iinc 5 1, 3, 0, 0)]),
  (96, [0, 1, 2, 3, 4, 5, 6], [(.iinc 6 1, 3, 0, 0), (.goto (-93), 3, 6, 0)]),
  (102, [4, 5], [(.iload 4, 2, 0, 0), (.ifCond .ge 8, 3, 112, 0), (.iload 5, 2, 0, 0), (.goto 5, 3, 114, 0)]),
  (112, [], [(.bipush (-2), 2, 0, 0)]),
  (114, [], [(.ireturn, 1, 0, 0)])], none)
noncomputable def Mo_restAt (x1 : Int32) (x2 : Int32) (x3 : Int32) (x4 : Int32) (M : AM) : Option (Option Value × AM) := mD C_Mo_restAt [.ref 82, .int x1, .int x2, .int x3, .int x4] M
noncomputable def Mo_restAt_6 (x1 : Int32) (x2 : Int32) (x3 : Int32) (x4 : Int32) (x5 : Int32) (x6 : Int32) (M : AM) : Option (Option Value × AM) := it C_Mo_restAt 6 [(0, .ref 82), (1, .int x1), (2, .int x2), (3, .int x3), (4, .int x4), (5, .int x5), (6, .int x6)] [] M
noncomputable def C_Mo_rests : MC := (4, 1, [(0, 10, 1, mD C_Mo_plainTried), (0, 10, 4, mD C_Mo_areTwo), (0, 10, 5, mD C_Mo_restAt)], [(0, [0, 1, 2, 3], [(.aload_n 0, 1, 0, 0), (.iconst 0, 1, 0, 0), (.putfield 160, 3, 10, 2), (.aload_n 0, 1, 0, 0), (.invokevirtual 383, 3, 0, 0), (.aload_n 0, 1, 0, 0), (.iload_n 1, 1, 0, 0), (.iload_n 2, 1, 0, 0), (.iload_n 3, 1, 0, 0), (.invokevirtual 555, 3, 1, 1), (.ifCond .eq 14, 3, 30, 0), (.aload_n 0, 1, 0, 0), (.iload_n 1, 1, 0, 0), (.iload_n 2, 1, 0, 0), (.iload_n 3, 1, 0, 0), (.iconst (-1), 1, 0, 0), (.invokevirtual 558, 3, 2, 1), (.goto 4, 3, 31, 0)]),
  (30, [], [(.iconst (-1), 1, 0, 0)]),
  (31, [], [(.ireturn, 1, 0, 0)])], none)
noncomputable def Mo_rests (x1 : Int32) (x2 : Int32) (x3 : Int32) (M : AM) : Option (Option Value × AM) := mD C_Mo_rests [.ref 82, .int x1, .int x2, .int x3] M
noncomputable def C_Mo_rest : MC := (5, 1, [(0, 10, 1, mD C_Mo_plainTried), (0, 10, 4, mD C_Mo_areTwo), (0, 10, 5, mD C_Mo_restAt)], [(0, [0, 1, 2, 3, 4], [(.aload_n 0, 1, 0, 0), (.iconst 0, 1, 0, 0), (.putfield 160, 3, 10, 2), (.aload_n 0, 1, 0, 0), (.invokevirtual 383, 3, 0, 0), (.aload_n 0, 1, 0, 0), (.iload_n 1, 1, 0, 0), (.iload_n 2, 1, 0, 0), (.iload_n 3, 1, 0, 0), (.invokevirtual 555, 3, 1, 1), (.ifCond .eq 20, 3, 36, 0), (.iload 4, 2, 0, 0), (.ifCond .lt 15, 3, 36, 0), (.aload_n 0, 1, 0, 0), (.iload_n 1, 1, 0, 0), (.iload_n 2, 1, 0, 0), (.iload_n 3, 1, 0, 0), (.iload 4, 2, 0, 0), (.invokevirtual 558, 3, 2, 1), (.goto 4, 3, 37, 0)]),
  (36, [], [(.iconst (-1), 1, 0, 0)]),
  (37, [], [(.ireturn, 1, 0, 0)])], none)
noncomputable def Mo_rest (x1 : Int32) (x2 : Int32) (x3 : Int32) (x4 : Int32) (M : AM) : Option (Option Value × AM) := mD C_Mo_rest [.ref 82, .int x1, .int x2, .int x3, .int x4] M
noncomputable def C_Mo_holds : MC := (13, 2, [(1, 0, 3, mD C_Mo_isIn)], [(0, [0, 1, 2], [(.aload_n 0, 1, 0, 0), (.iconst 0, 1, 0, 0), (.putfield 160, 3, 10, 2), (.iload_n 1, 1, 0, 0), (.iconst 0, 1, 0, 0), (.bipush 6, 2, 0, 0), (.invokestatic 205, 3, 0, 1), (.ifCond .eq 12, 3, 24, 0), (.iload_n 2, 1, 0, 0), (.iconst 0, 1, 0, 0), (.iconst 1, 1, 0, 0), (.invokestatic 205, 3, 0, 1), (.ifCond .ne 7, 3, 28, 0)]),
  (24, [], [(.ldc2_w 561, 3, 18446744073709551615, 0), (.lreturn, 1, 0, 0)]),
  (28, [0, 1, 2], [(.lconst 1, 1, 0, 0), (.lstore_n 3, 1, 0, 0), (.lconst 1, 1, 0, 0), (.lstore 5, 2, 0, 0), (.iconst 0, 1, 0, 0), (.istore 7, 2, 0, 0)]),
  (36, [0, 1, 2, 3, 5, 7], [(.iload 7, 2, 0, 0), (.iload_n 1, 1, 0, 0), (.if_icmp .ge 30, 3, 69, 0), (.lload_n 3, 1, 0, 0), (.bipush 100, 2, 0, 0), (.aload_n 0, 1, 0, 0), (.getfield 27, 3, 10, 26), (.iconst 1, 1, 0, 0), (.iaload, 1, 0, 0), (.isub, 1, 0, 0), (.i2l, 1, 0, 0), (.lmul, 1, 0, 0), (.lstore_n 3, 1, 0, 0), (.lload 5, 2, 0, 0), (.ldc2_w 563, 3, 100, 0), (.lmul, 1, 0, 0), (.lstore 5, 2, 0, 0), (.iinc 7 1, 3, 0, 0), (.goto (-30), 3, 36, 0)]),
  (69, [2, 3, 5], [(.lload 5, 2, 0, 0), (.lstore 7, 2, 0, 0), (.lload_n 3, 1, 0, 0), (.lstore 9, 2, 0, 0)]),
  (76, [2, 3, 5, 7, 9], [(.lload 9, 2, 0, 0), (.lconst 0, 1, 0, 0), (.lcmp, 1, 0, 0), (.ifCond .eq 21, 3, 101, 0), (.lload 7, 2, 0, 0), (.lload 9, 2, 0, 0), (.lrem, 1, 0, 0), (.lstore 11, 2, 0, 0), (.lload 9, 2, 0, 0), (.lstore 7, 2, 0, 0), (.lload 11, 2, 0, 0), (.lstore 9, 2, 0, 0), (.goto (-22), 3, 76, 0)]),
  (101, [2, 3, 5, 7], [(.iload_n 2, 1, 0, 0), (.ifCond .ne 10, 3, 112, 0), (.lload_n 3, 1, 0, 0), (.lload 7, 2, 0, 0), (.ldiv, 1, 0, 0), (.goto 8, 3, 117, 0)]),
  (112, [5, 7], [(.lload 5, 2, 0, 0), (.lload 7, 2, 0, 0), (.ldiv, 1, 0, 0)]),
  (117, [], [(.lreturn, 1, 0, 0)])], none)
noncomputable def Mo_holds (x1 : Int32) (x2 : Int32) (M : AM) : Option (Option Value × AM) := mD C_Mo_holds [.ref 82, .int x1, .int x2] M
noncomputable def Mo_holds_36 (x1 : Int32) (x2 : Int32) (y3 : Int64) (y5 : Int64) (x7 : Int32) (M : AM) : Option (Option Value × AM) := it C_Mo_holds 36 [(0, .ref 82), (1, .int x1), (2, .int x2), (3, .long y3), (5, .long y5), (7, .int x7)] [] M
noncomputable def Mo_holds_76 (x2 : Int32) (y3 : Int64) (y5 : Int64) (y7 : Int64) (y9 : Int64) (M : AM) : Option (Option Value × AM) := it C_Mo_holds 76 [(2, .int x2), (3, .long y3), (5, .long y5), (7, .long y7), (9, .long y9)] [] M
noncomputable def C_Mo_notes1 : MC := (6, 1, [], [(0, [0, 1, 2, 3, 4], [(.aload_n 0, 1, 0, 0), (.getfield 386, 3, 10, 80), (.bipush 24, 2, 0, 0), (.if_icmp .ne 5, 3, 11, 0), (.iconst (-1), 1, 0, 0), (.ireturn, 1, 0, 0)]),
  (11, [0, 1, 2, 3, 4], [(.iconst 4, 1, 0, 0), (.aload_n 0, 1, 0, 0), (.getfield 386, 3, 10, 80), (.imul, 1, 0, 0), (.istore 5, 2, 0, 0), (.aload_n 0, 1, 0, 0), (.getfield 139, 3, 10, 82), (.iload 5, 2, 0, 0), (.iload_n 1, 1, 0, 0), (.iastore, 1, 0, 0), (.aload_n 0, 1, 0, 0), (.getfield 139, 3, 10, 82), (.iload 5, 2, 0, 0), (.iconst 1, 1, 0, 0), (.iadd, 1, 0, 0), (.iload_n 2, 1, 0, 0), (.iastore, 1, 0, 0), (.aload_n 0, 1, 0, 0), (.getfield 139, 3, 10, 82), (.iload 5, 2, 0, 0), (.iconst 2, 1, 0, 0), (.iadd, 1, 0, 0), (.iload_n 3, 1, 0, 0), (.iastore, 1, 0, 0), (.aload_n 0, 1, 0, 0), (.getfield 139, 3, 10, 82), (.iload 5, 2, 0, 0), (.iconst 3, 1, 0, 0), (.iadd, 1, 0, 0), (.iload 4, 2, 0, 0), (.iastore, 1, 0, 0), (.aload_n 0, 1, 0, 0), (.dup, 1, 0, 0), (.getfield 386, 3, 10, 80), (.iconst 1, 1, 0, 0), (.iadd, 1, 0, 0), (.putfield 386, 3, 10, 80), (.aload_n 0, 1, 0, 0), (.getfield 386, 3, 10, 80), (.iconst 1, 1, 0, 0), (.isub, 1, 0, 0), (.ireturn, 1, 0, 0)])], none)
noncomputable def Mo_notes1 (x1 : Int32) (x2 : Int32) (x3 : Int32) (x4 : Int32) (M : AM) : Option (Option Value × AM) := mD C_Mo_notes1 [.ref 82, .int x1, .int x2, .int x3, .int x4] M
noncomputable def C_Mo_note : MC := (5, 1, [(0, 10, 2, mD C_Mo_isNode), (1, 0, 3, mD C_Mo_isIn), (0, 10, 5, mD C_Mo_notes1)], [(0, [0, 1, 2, 3, 4], [(.aload_n 0, 1, 0, 0), (.iconst 0, 1, 0, 0), (.putfield 160, 3, 10, 2), (.aload_n 0, 1, 0, 0), (.iload_n 1, 1, 0, 0), (.invokevirtual 507, 3, 0, 1), (.ifCond .eq 46, 3, 56, 0), (.aload_n 0, 1, 0, 0), (.iload_n 2, 1, 0, 0), (.invokevirtual 507, 3, 0, 1), (.ifCond .eq 38, 3, 56, 0), (.iload_n 1, 1, 0, 0), (.iload_n 2, 1, 0, 0), (.if_icmp .eq 33, 3, 56, 0), (.iload_n 3, 1, 0, 0), (.iconst 0, 1, 0, 0), (.bipush 99, 2, 0, 0), (.invokestatic 205, 3, 1, 1), (.ifCond .eq 23, 3, 56, 0), (.aload_n 0, 1, 0, 0), (.iload_n 1, 1, 0, 0), (.iload_n 2, 1, 0, 0), (.iload_n 3, 1, 0, 0), (.iload 4, 2, 0, 0), (.ifCond .eq 7, 3, 49, 0), (.iconst 1, 1, 0, 0), (.goto 4, 3, 50, 0)]),
  (49, [], [(.iconst 0, 1, 0, 0)]),
  (50, [], [(.invokevirtual 565, 3, 2, 1), (.goto 4, 3, 57, 0)]),
  (56, [], [(.iconst (-1), 1, 0, 0)]),
  (57, [], [(.ireturn, 1, 0, 0)])], none)
noncomputable def Mo_note (x1 : Int32) (x2 : Int32) (x3 : Int32) (x4 : Int32) (M : AM) : Option (Option Value × AM) := mD C_Mo_note [.ref 82, .int x1, .int x2, .int x3, .int x4] M
noncomputable def C_Mo_strike : MC := (2, 1, [(0, 10, 5, mD C_Mo_notes1)], [(0, [0, 1], [(.aload_n 0, 1, 0, 0), (.iconst 0, 1, 0, 0), (.putfield 160, 3, 10, 2), (.iload_n 1, 1, 0, 0), (.ifCond .lt 11, 3, 17, 0), (.iload_n 1, 1, 0, 0), (.aload_n 0, 1, 0, 0), (.getfield 386, 3, 10, 80), (.if_icmp .lt 7, 3, 21, 0)]),
  (17, [], [(.iconst (-1), 1, 0, 0), (.goto 11, 3, 29, 0)]),
  (21, [0, 1], [(.aload_n 0, 1, 0, 0), (.iconst (-1), 1, 0, 0), (.iload_n 1, 1, 0, 0), (.iconst 0, 1, 0, 0), (.iconst 0, 1, 0, 0), (.invokevirtual 565, 3, 0, 1)]),
  (29, [], [(.ireturn, 1, 0, 0)])], none)
noncomputable def Mo_strike (x1 : Int32) (M : AM) : Option (Option Value × AM) := mD C_Mo_strike [.ref 82, .int x1] M
noncomputable def C_Mo_known : MC := (2, 3, [(1, 0, 3, mD C_Mo_isIn)], [(0, [0, 1], [(.aload_n 0, 1, 0, 0), (.iconst 0, 1, 0, 0), (.putfield 160, 3, 10, 2), (.iload_n 1, 1, 0, 0), (.iconst (-1), 1, 0, 0), (.aload_n 0, 1, 0, 0), (.getfield 386, 3, 10, 80), (.invokestatic 205, 3, 0, 1), (.ifCond .ne 5, 3, 19, 0), (.iconst 0, 1, 0, 0), (.ireturn, 1, 0, 0)]),
  (19, [0, 1], [(.aload_n 0, 1, 0, 0), (.iload_n 1, 1, 0, 0), (.putfield 136, 3, 10, 81), (.iconst 1, 1, 0, 0), (.ireturn, 1, 0, 0)])], none)
noncomputable def Mo_known (x1 : Int32) (M : AM) : Option (Option Value × AM) := mD C_Mo_known [.ref 82, .int x1] M
noncomputable def C_Mo_knownBy : MC := (1, 1, [], [(0, [0], [(.aload_n 0, 1, 0, 0), (.getfield 136, 3, 10, 81), (.ifCond .ge 10, 3, 14, 0), (.aload_n 0, 1, 0, 0), (.getfield 386, 3, 10, 80), (.goto 7, 3, 18, 0)]),
  (14, [0], [(.aload_n 0, 1, 0, 0), (.getfield 136, 3, 10, 81)]),
  (18, [], [(.ireturn, 1, 0, 0)])], none)
noncomputable def Mo_knownBy (M : AM) : Option (Option Value × AM) := mD C_Mo_knownBy [.ref 82] M
noncomputable def C_Mo_fits : MC := (5, 3, [(0, 10, 1, mD C_Mo_knownBy), (0, 10, 3, mD C_Mo_layDist)], [(0, [0, 1, 2], [(.aload_n 0, 1, 0, 0), (.iload_n 1, 1, 0, 0), (.putfield 416, 3, 10, 73), (.aload_n 0, 1, 0, 0), (.iload_n 2, 1, 0, 0), (.putfield 419, 3, 10, 74), (.iconst 0, 1, 0, 0), (.istore_n 3, 1, 0, 0)]),
  (12, [0, 3], [(.iload_n 3, 1, 0, 0), (.aload_n 0, 1, 0, 0), (.invokevirtual 568, 3, 0, 1), (.if_icmp .ge 102, 3, 119, 0), (.iconst 4, 1, 0, 0), (.iload_n 3, 1, 0, 0), (.imul, 1, 0, 0), (.istore 4, 2, 0, 0), (.aload_n 0, 1, 0, 0), (.getfield 142, 3, 10, 83), (.iload_n 3, 1, 0, 0), (.baload, 1, 0, 0), (.ifCond .eq 82, 3, 113, 0), (.aload_n 0, 1, 0, 0), (.getfield 139, 3, 10, 82), (.iload 4, 2, 0, 0), (.iaload, 1, 0, 0), (.ifCond .ge 6, 3, 47, 0), (.goto 69, 3, 113, 0)]),
  (47, [0, 3, 4], [(.aload_n 0, 1, 0, 0), (.aload_n 0, 1, 0, 0), (.getfield 139, 3, 10, 82), (.iload 4, 2, 0, 0), (.iaload, 1, 0, 0), (.iconst 0, 1, 0, 0), (.invokevirtual 432, 3, 1, 0), (.aload_n 0, 1, 0, 0), (.getfield 124, 3, 10, 75), (.aload_n 0, 1, 0, 0), (.getfield 139, 3, 10, 82), (.iload 4, 2, 0, 0), (.iconst 1, 1, 0, 0), (.iadd, 1, 0, 0), (.iaload, 1, 0, 0), (.iaload, 1, 0, 0), (.aload_n 0, 1, 0, 0), (.getfield 139, 3, 10, 82), (.iload 4, 2, 0, 0), (.iconst 2, 1, 0, 0), (.iadd, 1, 0, 0), (.iaload, 1, 0, 0), (.if_icmp .gt 7, 3, 89, 0), (.iconst 1, 1, 0, 0), (.goto 4, 3, 90, 0)]),
  (89, [0, 3, 4], [(.iconst 0, 1, 0, 0)]),
  (90, [0, 3, 4], [(.aload_n 0, 1, 0, 0), (.getfield 139, 3, 10, 82), (.iload 4, 2, 0, 0), (.iconst 3, 1, 0, 0), (.iadd, 1, 0, 0), (.iaload, 1, 0, 0), (.iconst 1, 1, 0, 0), (.if_icmp .ne 7, 3, 107, 0), (.iconst 1, 1, 0, 0), (.goto 4, 3, 108, 0)]),
  (107, [0, 3], [(.iconst 0, 1, 0, 0)]),
  (108, [0, 3], [(.if_icmp .eq 5, 3, 113, 0), (.iconst 0, 1, 0, 0), (.ireturn, 1, 0, 0)]),
  (113, [0, 3], [(.iinc 3 1, 3, 0, 0), (.goto (-104), 3, 12, 0)]),
  (119, [], [(.iconst 1, 1, 0, 0), (.ireturn, 1, 0, 0)])], none)
noncomputable def Mo_fits (x1 : Int32) (x2 : Int32) (M : AM) : Option (Option Value × AM) := mD C_Mo_fits [.ref 82, .int x1, .int x2] M
noncomputable def Mo_fits_12 (x3 : Int32) (M : AM) : Option (Option Value × AM) := it C_Mo_fits 12 [(0, .ref 82), (3, .int x3)] [] M
noncomputable def Mo_fits_90 (x3 : Int32) (x4 : Int32) (z0 : Int32) (M : AM) : Option (Option Value × AM) := it C_Mo_fits 90 [(0, .ref 82), (3, .int x3), (4, .int x4)] [.int z0] M
noncomputable def C_Mo_costBits : MC := (4, 1, [(0, 10, 1, mD C_Mo_knownBy), (0, 10, 3, mD C_Mo_fits), (0, 10, 1, mD C_Mo_plainTried)], [(0, [0, 1], [(.iconst 0, 1, 0, 0), (.istore_n 2, 1, 0, 0)]),
  (2, [0, 1, 2], [(.iload_n 2, 1, 0, 0), (.aload_n 0, 1, 0, 0), (.invokevirtual 568, 3, 0, 1), (.if_icmp .ge 16, 3, 23, 0), (.aload_n 0, 1, 0, 0), (.getfield 142, 3, 10, 83), (.iload_n 2, 1, 0, 0), (.iconst 1, 1, 0, 0), (.bastore, 1, 0, 0), (.iinc 2 1, 3, 0, 0), (.goto (-18), 3, 2, 0)]),
  (23, [0, 1], [(.aload_n 0, 1, 0, 0), (.invokevirtual 568, 3, 0, 1), (.iconst 1, 1, 0, 0), (.isub, 1, 0, 0), (.istore_n 2, 1, 0, 0)]),
  (30, [0, 1, 2], [(.iload_n 2, 1, 0, 0), (.ifCond .lt 45, 3, 76, 0), (.aload_n 0, 1, 0, 0), (.getfield 142, 3, 10, 83), (.iload_n 2, 1, 0, 0), (.baload, 1, 0, 0), (.ifCond .eq 30, 3, 70, 0), (.aload_n 0, 1, 0, 0), (.getfield 139, 3, 10, 82), (.iconst 4, 1, 0, 0), (.iload_n 2, 1, 0, 0), (.imul, 1, 0, 0), (.iaload, 1, 0, 0), (.ifCond .ge 19, 3, 70, 0), (.aload_n 0, 1, 0, 0), (.getfield 142, 3, 10, 83), (.aload_n 0, 1, 0, 0), (.getfield 139, 3, 10, 82), (.iconst 4, 1, 0, 0), (.iload_n 2, 1, 0, 0), (.imul, 1, 0, 0), (.iconst 1, 1, 0, 0), (.iadd, 1, 0, 0), (.iaload, 1, 0, 0), (.iconst 0, 1, 0, 0), (.bastore, 1, 0, 0)]),
  (70, [0, 1, 2], [(.iinc 2 (-1), 3, 0, 0), (.goto (-43), 3, 30, 0)]),
  (76, [0, 1], [(.iconst 0, 1, 0, 0), (.istore_n 2, 1, 0, 0), (.iconst 1, 1, 0, 0), (.istore_n 3, 1, 0, 0)]),
  (80, [0, 1, 2, 3], [(.iload_n 3, 1, 0, 0), (.bipush 10, 2, 0, 0), (.if_icmp .ge 30, 3, 113, 0), (.iload_n 2, 1, 0, 0), (.aload_n 0, 1, 0, 0), (.iload_n 1, 1, 0, 0), (.iload_n 3, 1, 0, 0), (.invokevirtual 571, 3, 1, 1), (.ifCond .eq 11, 3, 104, 0), (.iconst 1, 1, 0, 0), (.iload_n 3, 1, 0, 0), (.iconst 1, 1, 0, 0), (.isub, 1, 0, 0), (.ishl, 1, 0, 0), (.goto 4, 3, 105, 0)]),
  (104, [0, 1, 3], [(.iconst 0, 1, 0, 0)]),
  (105, [0, 1, 3], [(.ior, 1, 0, 0), (.istore_n 2, 1, 0, 0), (.iinc 3 1, 3, 0, 0), (.goto (-30), 3, 80, 0)]),
  (113, [0, 2], [(.aload_n 0, 1, 0, 0), (.invokevirtual 383, 3, 2, 0), (.iload_n 2, 1, 0, 0), (.ireturn, 1, 0, 0)])], none)
noncomputable def Mo_costBits (x1 : Int32) (M : AM) : Option (Option Value × AM) := mD C_Mo_costBits [.ref 82, .int x1] M
noncomputable def Mo_costBits_2 (x1 : Int32) (x2 : Int32) (M : AM) : Option (Option Value × AM) := it C_Mo_costBits 2 [(0, .ref 82), (1, .int x1), (2, .int x2)] [] M
noncomputable def Mo_costBits_30 (x1 : Int32) (x2 : Int32) (M : AM) : Option (Option Value × AM) := it C_Mo_costBits 30 [(0, .ref 82), (1, .int x1), (2, .int x2)] [] M
noncomputable def Mo_costBits_80 (x1 : Int32) (x2 : Int32) (x3 : Int32) (M : AM) : Option (Option Value × AM) := it C_Mo_costBits 80 [(0, .ref 82), (1, .int x1), (2, .int x2), (3, .int x3)] [] M
noncomputable def C_Mo_costs : MC := (2, 1, [(0, 10, 2, mD C_Mo_isLink), (0, 10, 2, mD C_Mo_costBits)], [(0, [0, 1], [(.aload_n 0, 1, 0, 0), (.iconst 0, 1, 0, 0), (.putfield 160, 3, 10, 2), (.aload_n 0, 1, 0, 0), (.iload_n 1, 1, 0, 0), (.invokevirtual 513, 3, 0, 1), (.ifCond .eq 11, 3, 21, 0), (.aload_n 0, 1, 0, 0), (.iload_n 1, 1, 0, 0), (.invokevirtual 574, 3, 1, 1), (.goto 4, 3, 22, 0)]),
  (21, [], [(.iconst (-1), 1, 0, 0)]),
  (22, [], [(.ireturn, 1, 0, 0)])], none)
noncomputable def Mo_costs (x1 : Int32) (M : AM) : Option (Option Value × AM) := mD C_Mo_costs [.ref 82, .int x1] M
noncomputable def C_Mo_worstBy : MC := (7, 1, [(1, 0, 2, mD C_Mo_isOf)], [(0, [0, 1, 2], [(.iconst 0, 1, 0, 0), (.istore_n 3, 1, 0, 0), (.iconst 0, 1, 0, 0), (.istore 4, 2, 0, 0)]),
  (5, [0, 1, 2, 3, 4], [(.iload 4, 2, 0, 0), (.bipush 9, 2, 0, 0), (.if_icmp .ge 96, 3, 105, 0), (.iconst 0, 1, 0, 0), (.istore 5, 2, 0, 0), (.iconst 0, 1, 0, 0), (.istore 6, 2, 0, 0)]),
  (18, [0, 1, 2, 3, 4, 5, 6], [(.iload 6, 2, 0, 0), (.bipush 9, 2, 0, 0), (.if_icmp .ge 64, 3, 86, 0), (.iload 5, 2, 0, 0), (.iload_n 2, 1, 0, 0), (.iload 4, 2, 0, 0), (.invokestatic 279, 3, 0, 1), (.ifCond .eq 43, 3, 76, 0), (.iload_n 2, 1, 0, 0), (.iload 6, 2, 0, 0), (.invokestatic 279, 3, 0, 1), (.ifCond .eq 34, 3, 76, 0), (.aload_n 0, 1, 0, 0), (.getfield 145, 3, 10, 84), (.bipush 7, 2, 0, 0), (.iload 4, 2, 0, 0), (.imul, 1, 0, 0), (.iload_n 1, 1, 0, 0), (.iadd, 1, 0, 0), (.iaload, 1, 0, 0), (.aload_n 0, 1, 0, 0), (.getfield 145, 3, 10, 84), (.bipush 7, 2, 0, 0), (.iload 6, 2, 0, 0), (.imul, 1, 0, 0), (.iload_n 1, 1, 0, 0), (.iadd, 1, 0, 0), (.iaload, 1, 0, 0), (.if_icmp .ne 7, 3, 76, 0), (.iconst 1, 1, 0, 0), (.goto 4, 3, 77, 0)]),
  (76, [0, 1, 2, 3, 4, 6], [(.iconst 0, 1, 0, 0)]),
  (77, [0, 1, 2, 3, 4, 6], [(.iadd, 1, 0, 0), (.istore 5, 2, 0, 0), (.iinc 6 1, 3, 0, 0), (.goto (-65), 3, 18, 0)]),
  (86, [0, 1, 2, 3, 4, 5], [(.iload 5, 2, 0, 0), (.iload_n 3, 1, 0, 0), (.if_icmp .le 8, 3, 97, 0), (.iload 5, 2, 0, 0), (.goto 4, 3, 98, 0)]),
  (97, [0, 1, 2, 3, 4], [(.iload_n 3, 1, 0, 0)]),
  (98, [0, 1, 2, 4], [(.istore_n 3, 1, 0, 0), (.iinc 4 1, 3, 0, 0), (.goto (-97), 3, 5, 0)]),
  (105, [3], [(.iload_n 3, 1, 0, 0), (.ireturn, 1, 0, 0)])], none)
noncomputable def Mo_worstBy (x1 : Int32) (x2 : Int32) (M : AM) : Option (Option Value × AM) := mD C_Mo_worstBy [.ref 82, .int x1, .int x2] M
noncomputable def Mo_worstBy_5 (x1 : Int32) (x2 : Int32) (x3 : Int32) (x4 : Int32) (M : AM) : Option (Option Value × AM) := it C_Mo_worstBy 5 [(0, .ref 82), (1, .int x1), (2, .int x2), (3, .int x3), (4, .int x4)] [] M
noncomputable def Mo_worstBy_18 (x1 : Int32) (x2 : Int32) (x3 : Int32) (x4 : Int32) (x5 : Int32) (x6 : Int32) (M : AM) : Option (Option Value × AM) := it C_Mo_worstBy 18 [(0, .ref 82), (1, .int x1), (2, .int x2), (3, .int x3), (4, .int x4), (5, .int x5), (6, .int x6)] [] M
noncomputable def C_Mo_ask : MC := (10, 1, [(0, 10, 2, mD C_Mo_isLink), (1, 0, 3, mD C_Mo_isIn), (0, 10, 2, mD C_Mo_costBits), (0, 10, 3, mD C_Mo_layDist), (0, 10, 3, mD C_Mo_worstBy), (0, 10, 1, mD C_Mo_plainTried)], [(0, [0, 1, 2], [(.aload_n 0, 1, 0, 0), (.iconst 0, 1, 0, 0), (.putfield 160, 3, 10, 2), (.aload_n 0, 1, 0, 0), (.iload_n 1, 1, 0, 0), (.invokevirtual 513, 3, 0, 1), (.ifCond .eq 12, 3, 22, 0), (.iload_n 2, 1, 0, 0), (.iconst 0, 1, 0, 0), (.iconst 2, 1, 0, 0), (.invokestatic 205, 3, 1, 1), (.ifCond .ne 5, 3, 24, 0)]),
  (22, [], [(.iconst (-1), 1, 0, 0), (.ireturn, 1, 0, 0)]),
  (24, [0, 1, 2], [(.aload_n 0, 1, 0, 0), (.getfield 243, 3, 10, 12), (.iconst 2, 1, 0, 0), (.if_icmp .ge 6, 3, 35, 0), (.bipush (-2), 2, 0, 0), (.ireturn, 1, 0, 0)]),
  (35, [0, 1, 2], [(.aload_n 0, 1, 0, 0), (.iload_n 1, 1, 0, 0), (.invokevirtual 574, 3, 2, 1), (.istore_n 3, 1, 0, 0), (.iconst (-1), 1, 0, 0), (.istore 4, 2, 0, 0), (.iconst (-1), 1, 0, 0), (.istore 5, 2, 0, 0), (.iconst 0, 1, 0, 0), (.istore 6, 2, 0, 0), (.iconst 0, 1, 0, 0), (.istore 7, 2, 0, 0)]),
  (53, [0, 1, 2, 3, 4, 5, 6, 7], [(.iload 7, 2, 0, 0), (.aload_n 0, 1, 0, 0), (.getfield 243, 3, 10, 12), (.if_icmp .ge 138, 3, 197, 0), (.iconst 0, 1, 0, 0), (.istore 8, 2, 0, 0)]),
  (65, [0, 1, 2, 3, 4, 5, 6, 7, 8], [(.iload 8, 2, 0, 0), (.bipush 9, 2, 0, 0), (.if_icmp .ge 65, 3, 134, 0), (.aload_n 0, 1, 0, 0), (.iload_n 1, 1, 0, 0), (.putfield 416, 3, 10, 73), (.aload_n 0, 1, 0, 0), (.iload 8, 2, 0, 0), (.iconst 1, 1, 0, 0), (.iadd, 1, 0, 0), (.putfield 419, 3, 10, 74), (.aload_n 0, 1, 0, 0), (.iload 7, 2, 0, 0), (.iconst 0, 1, 0, 0), (.invokevirtual 432, 3, 3, 0), (.iconst 0, 1, 0, 0), (.istore 9, 2, 0, 0)]),
  (95, [0, 1, 2, 3, 4, 5, 6, 7, 8, 9], [(.iload 9, 2, 0, 0), (.bipush 7, 2, 0, 0), (.if_icmp .ge 29, 3, 128, 0), (.aload_n 0, 1, 0, 0), (.getfield 145, 3, 10, 84), (.bipush 7, 2, 0, 0), (.iload 8, 2, 0, 0), (.imul, 1, 0, 0), (.iload 9, 2, 0, 0), (.iadd, 1, 0, 0), (.aload_n 0, 1, 0, 0), (.getfield 124, 3, 10, 75), (.iload 9, 2, 0, 0), (.iaload, 1, 0, 0), (.iastore, 1, 0, 0), (.iinc 9 1, 3, 0, 0), (.goto (-30), 3, 95, 0)]),
  (128, [0, 1, 2, 3, 4, 5, 6, 7, 8], [(.iinc 8 1, 3, 0, 0), (.goto (-66), 3, 65, 0)]),
  (134, [0, 1, 2, 3, 4, 5, 6, 7], [(.iload 7, 2, 0, 0), (.iconst 1, 1, 0, 0), (.iadd, 1, 0, 0), (.istore 8, 2, 0, 0)]),
  (140, [0, 1, 2, 3, 4, 5, 6, 7, 8], [(.iload 8, 2, 0, 0), (.aload_n 0, 1, 0, 0), (.getfield 243, 3, 10, 12), (.if_icmp .ge 45, 3, 191, 0), (.aload_n 0, 1, 0, 0), (.iload 8, 2, 0, 0), (.iload_n 3, 1, 0, 0), (.invokevirtual 577, 3, 4, 1), (.istore 9, 2, 0, 0), (.iload 4, 2, 0, 0), (.ifCond .lt 13, 3, 173, 0), (.iload 9, 2, 0, 0), (.iload 6, 2, 0, 0), (.if_icmp .lt 6, 3, 173, 0), (.goto 15, 3, 185, 0)]),
  (173, [0, 1, 2, 3, 7, 8, 9], [(.iload 7, 2, 0, 0), (.istore 4, 2, 0, 0), (.iload 8, 2, 0, 0), (.istore 5, 2, 0, 0), (.iload 9, 2, 0, 0), (.istore 6, 2, 0, 0)]),
  (185, [0, 1, 2, 3, 4, 5, 6, 7, 8], [(.iinc 8 1, 3, 0, 0), (.goto (-48), 3, 140, 0)]),
  (191, [0, 1, 2, 3, 4, 5, 6, 7], [(.iinc 7 1, 3, 0, 0), (.goto (-141), 3, 53, 0)]),
  (197, [0, 2, 4, 5, 6], [(.aload_n 0, 1, 0, 0), (.invokevirtual 383, 3, 5, 0), (.iload_n 2, 1, 0, 0), (.ifCond .ne 8, 3, 210, 0), (.iload 4, 2, 0, 0), (.goto 15, 3, 222, 0)]),
  (210, [2, 5, 6], [(.iload_n 2, 1, 0, 0), (.iconst 1, 1, 0, 0), (.if_icmp .ne 8, 3, 220, 0), (.iload 5, 2, 0, 0), (.goto 5, 3, 222, 0)]),
  (220, [6], [(.iload 6, 2, 0, 0)]),
  (222, [], [(.ireturn, 1, 0, 0)])], none)
noncomputable def Mo_ask (x1 : Int32) (x2 : Int32) (M : AM) : Option (Option Value × AM) := mD C_Mo_ask [.ref 82, .int x1, .int x2] M
noncomputable def Mo_ask_53 (x1 : Int32) (x2 : Int32) (x3 : Int32) (x4 : Int32) (x5 : Int32) (x6 : Int32) (x7 : Int32) (M : AM) : Option (Option Value × AM) := it C_Mo_ask 53 [(0, .ref 82), (1, .int x1), (2, .int x2), (3, .int x3), (4, .int x4), (5, .int x5), (6, .int x6), (7, .int x7)] [] M
noncomputable def Mo_ask_65 (x1 : Int32) (x2 : Int32) (x3 : Int32) (x4 : Int32) (x5 : Int32) (x6 : Int32) (x7 : Int32) (x8 : Int32) (M : AM) : Option (Option Value × AM) := it C_Mo_ask 65 [(0, .ref 82), (1, .int x1), (2, .int x2), (3, .int x3), (4, .int x4), (5, .int x5), (6, .int x6), (7, .int x7), (8, .int x8)] [] M
noncomputable def Mo_ask_140 (x1 : Int32) (x2 : Int32) (x3 : Int32) (x4 : Int32) (x5 : Int32) (x6 : Int32) (x7 : Int32) (x8 : Int32) (M : AM) : Option (Option Value × AM) := it C_Mo_ask 140 [(0, .ref 82), (1, .int x1), (2, .int x2), (3, .int x3), (4, .int x4), (5, .int x5), (6, .int x6), (7, .int x7), (8, .int x8)] [] M
noncomputable def Mo_ask_95 (x1 : Int32) (x2 : Int32) (x3 : Int32) (x4 : Int32) (x5 : Int32) (x6 : Int32) (x7 : Int32) (x8 : Int32) (x9 : Int32) (M : AM) : Option (Option Value × AM) := it C_Mo_ask 95 [(0, .ref 82), (1, .int x1), (2, .int x2), (3, .int x3), (4, .int x4), (5, .int x5), (6, .int x6), (7, .int x7), (8, .int x8), (9, .int x9)] [] M
noncomputable def C_Mo_chance : MC := (9, 1, [(1, 0, 3, mD C_Mo_isIn), (0, 10, 2, mD C_Mo_isNode), (0, 10, 1, mD C_Mo_layTried), (0, 10, 2, mD C_Mo_goMany)], [(0, [0, 1, 2, 3, 4], [(.aload_n 0, 1, 0, 0), (.iconst 0, 1, 0, 0), (.putfield 160, 3, 10, 2), (.iload_n 1, 1, 0, 0), (.ifCond .lt 32, 3, 38, 0), (.iload_n 2, 1, 0, 0), (.iconst 1, 1, 0, 0), (.bipush 40, 2, 0, 0), (.invokestatic 205, 3, 0, 1), (.ifCond .eq 22, 3, 38, 0), (.aload_n 0, 1, 0, 0), (.iload_n 3, 1, 0, 0), (.invokevirtual 507, 3, 1, 1), (.ifCond .eq 14, 3, 38, 0), (.iload 4, 2, 0, 0), (.iconst 0, 1, 0, 0), (.bipush 99, 2, 0, 0), (.invokestatic 205, 3, 0, 1), (.ifCond .ne 5, 3, 40, 0)]),
  (38, [], [(.iconst (-1), 1, 0, 0), (.ireturn, 1, 0, 0)]),
  (40, [0, 1, 2, 3, 4], [(.aload_n 0, 1, 0, 0), (.getfield 379, 3, 10, 65), (.lstore 5, 2, 0, 0), (.aload_n 0, 1, 0, 0), (.iload_n 1, 1, 0, 0), (.i2l, 1, 0, 0), (.putfield 379, 3, 10, 65), (.iconst 0, 1, 0, 0), (.istore 7, 2, 0, 0), (.iconst 0, 1, 0, 0), (.istore 8, 2, 0, 0)]),
  (58, [0, 2, 3, 4, 5, 7, 8], [(.iload 8, 2, 0, 0), (.bipush 10, 2, 0, 0), (.if_icmp .ge 47, 3, 109, 0), (.aload_n 0, 1, 0, 0), (.invokevirtual 527, 3, 2, 0), (.aload_n 0, 1, 0, 0), (.iconst 1, 1, 0, 0), (.putfield 395, 3, 10, 66), (.aload_n 0, 1, 0, 0), (.iload_n 2, 1, 0, 0), (.invokevirtual 530, 3, 3, 0), (.iload 7, 2, 0, 0), (.aload_n 0, 1, 0, 0), (.getfield 103, 3, 10, 58), (.bipush 7, 2, 0, 0), (.iload_n 3, 1, 0, 0), (.iadd, 1, 0, 0), (.iaload, 1, 0, 0), (.iload 4, 2, 0, 0), (.if_icmp .lt 7, 3, 99, 0), (.iconst 1, 1, 0, 0), (.goto 4, 3, 100, 0)]),
  (99, [0, 2, 3, 4, 5, 8], [(.iconst 0, 1, 0, 0)]),
  (100, [0, 2, 3, 4, 5, 8], [(.iadd, 1, 0, 0), (.istore 7, 2, 0, 0), (.iinc 8 1, 3, 0, 0), (.goto (-48), 3, 58, 0)]),
  (109, [0, 5, 7], [(.aload_n 0, 1, 0, 0), (.iconst 0, 1, 0, 0), (.putfield 395, 3, 10, 66), (.aload_n 0, 1, 0, 0), (.lload 5, 2, 0, 0), (.putfield 379, 3, 10, 65), (.iload 7, 2, 0, 0), (.ireturn, 1, 0, 0)])], none)
noncomputable def Mo_chance (x1 : Int32) (x2 : Int32) (x3 : Int32) (x4 : Int32) (M : AM) : Option (Option Value × AM) := mD C_Mo_chance [.ref 82, .int x1, .int x2, .int x3, .int x4] M
noncomputable def Mo_chance_58 (x2 : Int32) (x3 : Int32) (x4 : Int32) (y5 : Int64) (x7 : Int32) (x8 : Int32) (M : AM) : Option (Option Value × AM) := it C_Mo_chance 58 [(0, .ref 82), (2, .int x2), (3, .int x3), (4, .int x4), (5, .long y5), (7, .int x7), (8, .int x8)] [] M
noncomputable def C_Mo_tried : MC := (4, 1, [(1, 0, 3, mD C_Mo_isIn), (0, 10, 2, mD C_Mo_isNode), (0, 10, 1, mD C_Mo_layTried), (0, 10, 3, mD C_Mo_stopsListening), (0, 10, 2, mD C_Mo_goMany), (0, 10, 1, mD C_Mo_plainTried), (1, 0, 2, mD C_Mo_sumOf)], [(0, [0, 1, 2, 3], [(.aload_n 0, 1, 0, 0), (.iconst 0, 1, 0, 0), (.putfield 160, 3, 10, 2), (.iload_n 1, 1, 0, 0), (.iconst 0, 1, 0, 0), (.iconst 4, 1, 0, 0), (.invokestatic 205, 3, 0, 1), (.ifCond .eq 33, 3, 44, 0), (.iload_n 3, 1, 0, 0), (.iconst 0, 1, 0, 0), (.bipush 60, 2, 0, 0), (.invokestatic 205, 3, 0, 1), (.ifCond .eq 23, 3, 44, 0), (.iload_n 1, 1, 0, 0), (.iconst 2, 1, 0, 0), (.if_icmp .ne 14, 3, 40, 0), (.aload_n 0, 1, 0, 0), (.iload_n 2, 1, 0, 0), (.invokevirtual 507, 3, 1, 1), (.ifCond .ne 12, 3, 46, 0), (.goto 7, 3, 44, 0)]),
  (40, [0, 1, 2, 3], [(.iload_n 2, 1, 0, 0), (.ifCond .eq 5, 3, 46, 0)]),
  (44, [], [(.iconst (-1), 1, 0, 0), (.ireturn, 1, 0, 0)]),
  (46, [0, 1, 2, 3], [(.aload_n 0, 1, 0, 0), (.invokevirtual 527, 3, 2, 0), (.aload_n 0, 1, 0, 0), (.iload_n 1, 1, 0, 0), (.ifCond .ne 7, 3, 59, 0), (.iconst 1, 1, 0, 0), (.goto 4, 3, 60, 0)]),
  (59, [0, 1, 2, 3], [(.iconst 0, 1, 0, 0)]),
  (60, [0, 1, 2, 3], [(.putfield 398, 3, 10, 67), (.aload_n 0, 1, 0, 0), (.iload_n 1, 1, 0, 0), (.iconst 1, 1, 0, 0), (.if_icmp .ne 7, 3, 73, 0), (.iconst 1, 1, 0, 0), (.goto 4, 3, 74, 0)]),
  (73, [0, 1, 2, 3], [(.iconst 0, 1, 0, 0)]),
  (74, [0, 1, 2, 3], [(.putfield 401, 3, 10, 68), (.aload_n 0, 1, 0, 0), (.iload_n 1, 1, 0, 0), (.iconst 2, 1, 0, 0), (.if_icmp .ne 7, 3, 87, 0), (.iload_n 2, 1, 0, 0), (.goto 4, 3, 88, 0)]),
  (87, [0, 1, 2, 3], [(.iconst (-1), 1, 0, 0)]),
  (88, [0, 1, 2, 3], [(.putfield 413, 3, 10, 72), (.iload_n 1, 1, 0, 0), (.iconst 2, 1, 0, 0), (.if_icmp .ne 9, 3, 102, 0), (.aload_n 0, 1, 0, 0), (.iconst 1, 1, 0, 0), (.iload_n 2, 1, 0, 0), (.invokevirtual 468, 3, 3, 0)]),
  (102, [0, 1, 3], [(.aload_n 0, 1, 0, 0), (.iload_n 1, 1, 0, 0), (.iconst 3, 1, 0, 0), (.if_icmp .ne 7, 3, 112, 0), (.iconst 1, 1, 0, 0), (.goto 4, 3, 113, 0)]),
  (112, [0, 1, 3], [(.iconst 0, 1, 0, 0)]),
  (113, [0, 1, 3], [(.putfield 404, 3, 10, 69), (.aload_n 0, 1, 0, 0), (.iload_n 1, 1, 0, 0), (.iconst 4, 1, 0, 0), (.if_icmp .ne 7, 3, 126, 0), (.iconst 1, 1, 0, 0), (.goto 4, 3, 127, 0)]),
  (126, [0, 3], [(.iconst 0, 1, 0, 0)]),
  (127, [0, 3], [(.putfield 407, 3, 10, 70), (.aload_n 0, 1, 0, 0), (.iload_n 3, 1, 0, 0), (.invokevirtual 530, 3, 4, 0), (.aload_n 0, 1, 0, 0), (.invokevirtual 383, 3, 5, 0), (.aload_n 0, 1, 0, 0), (.getfield 103, 3, 10, 58), (.iconst 1, 1, 0, 0), (.invokestatic 533, 3, 6, 1), (.aload_n 0, 1, 0, 0), (.getfield 103, 3, 10, 58), (.iconst 0, 1, 0, 0), (.invokestatic 533, 3, 6, 1), (.isub, 1, 0, 0), (.ireturn, 1, 0, 0)])], none)
noncomputable def Mo_tried (x1 : Int32) (x2 : Int32) (x3 : Int32) (M : AM) : Option (Option Value × AM) := mD C_Mo_tried [.ref 82, .int x1, .int x2, .int x3] M
noncomputable def Mo_tried_46 (x1 : Int32) (x2 : Int32) (x3 : Int32) (M : AM) : Option (Option Value × AM) := it C_Mo_tried 46 [(0, .ref 82), (1, .int x1), (2, .int x2), (3, .int x3)] [] M
noncomputable def Mo_tried_74 (x1 : Int32) (x2 : Int32) (x3 : Int32) (z1 : Int32) (M : AM) : Option (Option Value × AM) := it C_Mo_tried 74 [(0, .ref 82), (1, .int x1), (2, .int x2), (3, .int x3)] [.int z1, .ref 82] M
noncomputable def Mo_tried_102 (x1 : Int32) (x3 : Int32) (M : AM) : Option (Option Value × AM) := it C_Mo_tried 102 [(0, .ref 82), (1, .int x1), (3, .int x3)] [] M
noncomputable def Mo_tried_127 (x3 : Int32) (z1 : Int32) (M : AM) : Option (Option Value × AM) := it C_Mo_tried 127 [(0, .ref 82), (3, .int x3)] [.int z1, .ref 82] M
noncomputable def C_Mo_take : MC := (4, 0, [], [(0, [0, 1, 2], [(.aload_n 0, 1, 0, 0), (.getfield 91, 3, 10, 54), (.iconst 0, 1, 0, 0), (.aload_n 1, 1, 0, 0), (.iload_n 2, 1, 0, 0), (.iaload, 1, 0, 0), (.iastore, 1, 0, 0), (.aload_n 0, 1, 0, 0), (.getfield 94, 3, 10, 55), (.iconst 0, 1, 0, 0), (.aload_n 1, 1, 0, 0), (.iload_n 2, 1, 0, 0), (.iconst 1, 1, 0, 0), (.iadd, 1, 0, 0), (.iaload, 1, 0, 0), (.iastore, 1, 0, 0), (.aload_n 0, 1, 0, 0), (.getfield 112, 3, 10, 61), (.iconst 0, 1, 0, 0), (.aload_n 1, 1, 0, 0), (.iload_n 2, 1, 0, 0), (.iconst 2, 1, 0, 0), (.iadd, 1, 0, 0), (.iaload, 1, 0, 0), (.iastore, 1, 0, 0), (.aload_n 0, 1, 0, 0), (.getfield 115, 3, 10, 62), (.iconst 0, 1, 0, 0), (.aload_n 1, 1, 0, 0), (.iload_n 2, 1, 0, 0), (.iconst 3, 1, 0, 0), (.iadd, 1, 0, 0), (.iaload, 1, 0, 0), (.iastore, 1, 0, 0), (.aload_n 0, 1, 0, 0), (.getfield 118, 3, 10, 63), (.iconst 0, 1, 0, 0), (.aload_n 1, 1, 0, 0), (.iload_n 2, 1, 0, 0), (.iconst 4, 1, 0, 0), (.iadd, 1, 0, 0), (.iaload, 1, 0, 0), (.iastore, 1, 0, 0), (.iconst 0, 1, 0, 0), (.istore_n 3, 1, 0, 0)]),
  (55, [0, 1, 2, 3], [(.iload_n 3, 1, 0, 0), (.iconst 3, 1, 0, 0), (.if_icmp .ge 22, 3, 79, 0), (.aload_n 0, 1, 0, 0), (.getfield 97, 3, 10, 56), (.iload_n 3, 1, 0, 0), (.aload_n 1, 1, 0, 0), (.iload_n 2, 1, 0, 0), (.iconst 5, 1, 0, 0), (.iadd, 1, 0, 0), (.iload_n 3, 1, 0, 0), (.iadd, 1, 0, 0), (.iaload, 1, 0, 0), (.iastore, 1, 0, 0), (.iinc 3 1, 3, 0, 0), (.goto (-21), 3, 55, 0)]),
  (79, [0, 1, 2], [(.iconst 0, 1, 0, 0), (.istore_n 3, 1, 0, 0)]),
  (81, [0, 1, 2, 3], [(.iload_n 3, 1, 0, 0), (.bipush 7, 2, 0, 0), (.if_icmp .ge 51, 3, 135, 0), (.aload_n 0, 1, 0, 0), (.getfield 103, 3, 10, 58), (.iload_n 3, 1, 0, 0), (.aload_n 1, 1, 0, 0), (.iload_n 2, 1, 0, 0), (.bipush 8, 2, 0, 0), (.iadd, 1, 0, 0), (.iload_n 3, 1, 0, 0), (.iadd, 1, 0, 0), (.iaload, 1, 0, 0), (.iastore, 1, 0, 0), (.aload_n 0, 1, 0, 0), (.getfield 106, 3, 10, 59), (.iload_n 3, 1, 0, 0), (.aload_n 1, 1, 0, 0), (.iload_n 2, 1, 0, 0), (.bipush 15, 2, 0, 0), (.iadd, 1, 0, 0), (.iload_n 3, 1, 0, 0), (.iadd, 1, 0, 0), (.iaload, 1, 0, 0), (.iastore, 1, 0, 0), (.aload_n 0, 1, 0, 0), (.getfield 109, 3, 10, 60), (.iload_n 3, 1, 0, 0), (.aload_n 1, 1, 0, 0), (.iload_n 2, 1, 0, 0), (.bipush 22, 2, 0, 0), (.iadd, 1, 0, 0), (.iload_n 3, 1, 0, 0), (.iadd, 1, 0, 0), (.iaload, 1, 0, 0), (.iastore, 1, 0, 0), (.iinc 3 1, 3, 0, 0), (.goto (-51), 3, 81, 0)]),
  (135, [0, 1, 2], [(.iconst 0, 1, 0, 0), (.istore_n 3, 1, 0, 0)]),
  (137, [0, 1, 2, 3], [(.iload_n 3, 1, 0, 0), (.sipush 224, 3, 0, 0), (.if_icmp .ge 23, 3, 164, 0), (.aload_n 0, 1, 0, 0), (.getfield 100, 3, 10, 57), (.iload_n 3, 1, 0, 0), (.aload_n 1, 1, 0, 0), (.iload_n 2, 1, 0, 0), (.bipush 29, 2, 0, 0), (.iadd, 1, 0, 0), (.iload_n 3, 1, 0, 0), (.iadd, 1, 0, 0), (.iaload, 1, 0, 0), (.iastore, 1, 0, 0), (.iinc 3 1, 3, 0, 0), (.goto (-24), 3, 137, 0)]),
  (164, [], [(.return_, 1, 0, 0)])], none)
noncomputable def Mo_take (o1 : Nat) (x2 : Int32) (M : AM) : Option (Option Value × AM) := mD C_Mo_take [.ref 82, .ref o1, .int x2] M
noncomputable def Mo_take_55 (o1 : Nat) (x2 : Int32) (x3 : Int32) (M : AM) : Option (Option Value × AM) := it C_Mo_take 55 [(0, .ref 82), (1, .ref o1), (2, .int x2), (3, .int x3)] [] M
noncomputable def Mo_take_81 (o1 : Nat) (x2 : Int32) (x3 : Int32) (M : AM) : Option (Option Value × AM) := it C_Mo_take 81 [(0, .ref 82), (1, .ref o1), (2, .int x2), (3, .int x3)] [] M
noncomputable def Mo_take_137 (o1 : Nat) (x2 : Int32) (x3 : Int32) (M : AM) : Option (Option Value × AM) := it C_Mo_take 137 [(0, .ref 82), (1, .ref o1), (2, .int x2), (3, .int x3)] [] M
noncomputable def C_Mo_undo : MC := (1, 1, [(0, 10, 3, mD C_Mo_take)], [(0, [0], [(.aload_n 0, 1, 0, 0), (.iconst 0, 1, 0, 0), (.putfield 160, 3, 10, 2), (.aload_n 0, 1, 0, 0), (.getfield 389, 3, 10, 85), (.ifCond .ne 5, 3, 14, 0), (.iconst (-1), 1, 0, 0), (.ireturn, 1, 0, 0)]),
  (14, [0], [(.aload_n 0, 1, 0, 0), (.dup, 1, 0, 0), (.getfield 389, 3, 10, 85), (.iconst 1, 1, 0, 0), (.isub, 1, 0, 0), (.putfield 389, 3, 10, 85), (.aload_n 0, 1, 0, 0), (.aload_n 0, 1, 0, 0), (.getfield 148, 3, 10, 86), (.sipush 253, 3, 0, 0), (.aload_n 0, 1, 0, 0), (.getfield 389, 3, 10, 85), (.imul, 1, 0, 0), (.invokevirtual 583, 3, 0, 0), (.aload_n 0, 1, 0, 0), (.getfield 389, 3, 10, 85), (.ireturn, 1, 0, 0)])], none)
noncomputable def Mo_undo (M : AM) : Option (Option Value × AM) := mD C_Mo_undo [.ref 82] M
noncomputable def C_Mo_keep : MC := (1, 1, [(0, 10, 3, mD C_Mo_put)], [(0, [0], [(.aload_n 0, 1, 0, 0), (.iconst 0, 1, 0, 0), (.putfield 160, 3, 10, 2), (.aload_n 0, 1, 0, 0), (.iconst 1, 1, 0, 0), (.putfield 392, 3, 10, 87), (.aload_n 0, 1, 0, 0), (.aload_n 0, 1, 0, 0), (.getfield 151, 3, 10, 88), (.iconst 0, 1, 0, 0), (.invokevirtual 580, 3, 0, 0), (.aload_n 0, 1, 0, 0), (.aload_n 0, 1, 0, 0), (.getfield 121, 3, 10, 64), (.iconst 0, 1, 0, 0), (.iaload, 1, 0, 0), (.putfield 586, 3, 10, 89), (.aload_n 0, 1, 0, 0), (.aload_n 0, 1, 0, 0), (.getfield 379, 3, 10, 65), (.putfield 589, 3, 10, 90), (.aload_n 0, 1, 0, 0), (.getfield 121, 3, 10, 64), (.iconst 0, 1, 0, 0), (.iaload, 1, 0, 0), (.ireturn, 1, 0, 0)])], none)
noncomputable def Mo_keep (M : AM) : Option (Option Value × AM) := mD C_Mo_keep [.ref 82] M
noncomputable def C_Mo_back : MC := (1, 1, [(0, 10, 3, mD C_Mo_take)], [(0, [0], [(.aload_n 0, 1, 0, 0), (.iconst 0, 1, 0, 0), (.putfield 160, 3, 10, 2), (.aload_n 0, 1, 0, 0), (.getfield 392, 3, 10, 87), (.ifCond .ne 5, 3, 14, 0), (.iconst (-1), 1, 0, 0), (.ireturn, 1, 0, 0)]),
  (14, [0], [(.aload_n 0, 1, 0, 0), (.aload_n 0, 1, 0, 0), (.getfield 151, 3, 10, 88), (.iconst 0, 1, 0, 0), (.invokevirtual 583, 3, 0, 0), (.aload_n 0, 1, 0, 0), (.getfield 121, 3, 10, 64), (.iconst 0, 1, 0, 0), (.aload_n 0, 1, 0, 0), (.getfield 586, 3, 10, 89), (.iastore, 1, 0, 0), (.aload_n 0, 1, 0, 0), (.aload_n 0, 1, 0, 0), (.getfield 589, 3, 10, 90), (.putfield 379, 3, 10, 65), (.aload_n 0, 1, 0, 0), (.iconst 0, 1, 0, 0), (.putfield 389, 3, 10, 85), (.aload_n 0, 1, 0, 0), (.getfield 121, 3, 10, 64), (.iconst 0, 1, 0, 0), (.iaload, 1, 0, 0), (.ireturn, 1, 0, 0)])], none)
noncomputable def Mo_back (M : AM) : Option (Option Value × AM) := mD C_Mo_back [.ref 82] M
noncomputable def C_Mo_manyOf : MC := (3, 1, [], [(0, [0], [(.iconst 0, 1, 0, 0), (.istore_n 1, 1, 0, 0), (.iconst 0, 1, 0, 0), (.istore_n 2, 1, 0, 0)]),
  (4, [0, 1, 2], [(.iload_n 2, 1, 0, 0), (.bipush 8, 2, 0, 0), (.if_icmp .ge 17, 3, 24, 0), (.iload_n 1, 1, 0, 0), (.iload_n 0, 1, 0, 0), (.iload_n 2, 1, 0, 0), (.ishr, 1, 0, 0), (.iconst 1, 1, 0, 0), (.iand, 1, 0, 0), (.iadd, 1, 0, 0), (.istore_n 1, 1, 0, 0), (.iinc 2 1, 3, 0, 0), (.goto (-17), 3, 4, 0)]),
  (24, [1], [(.iload_n 1, 1, 0, 0), (.ireturn, 1, 0, 0)])], none)
noncomputable def Mo_manyOf (x0 : Int32) (M : AM) : Option (Option Value × AM) := mD C_Mo_manyOf [.int x0] M
noncomputable def Mo_manyOf_4 (x0 : Int32) (x1 : Int32) (x2 : Int32) (M : AM) : Option (Option Value × AM) := it C_Mo_manyOf 4 [(0, .int x0), (1, .int x1), (2, .int x2)] [] M
noncomputable def C_Mo_count : MC := (4, 1, [(1, 0, 1, mD C_Mo_manyOf), (1, 0, 2, mD C_Mo_sumOf), (0, 10, 1, mD C_Mo_knownBy)], [(0, [0, 1], [(.aload_n 0, 1, 0, 0), (.iconst 0, 1, 0, 0), (.putfield 160, 3, 10, 2), (.iconst 0, 1, 0, 0), (.istore_n 2, 1, 0, 0), (.iload_n 1, 1, 0, 0), (.tableswitch 239 0 16 #[84, 89, 94, 99, 104, 111, 121, 130, 139, 148, 155, 162, 169, 203, 224, 229, 234], 84, 0, 0)]),
  (92, [0], [(.aload_n 0, 1, 0, 0), (.getfield 243, 3, 10, 12), (.ireturn, 1, 0, 0)]),
  (97, [0], [(.aload_n 0, 1, 0, 0), (.getfield 246, 3, 10, 13), (.ireturn, 1, 0, 0)]),
  (102, [0], [(.aload_n 0, 1, 0, 0), (.getfield 249, 3, 10, 14), (.ireturn, 1, 0, 0)]),
  (107, [0], [(.aload_n 0, 1, 0, 0), (.getfield 258, 3, 10, 17), (.ireturn, 1, 0, 0)]),
  (112, [0], [(.aload_n 0, 1, 0, 0), (.getfield 121, 3, 10, 64), (.iconst 0, 1, 0, 0), (.iaload, 1, 0, 0), (.ireturn, 1, 0, 0)]),
  (119, [0], [(.aload_n 0, 1, 0, 0), (.getfield 94, 3, 10, 55), (.iconst 0, 1, 0, 0), (.iaload, 1, 0, 0), (.invokestatic 592, 3, 0, 1), (.ireturn, 1, 0, 0)]),
  (129, [0], [(.aload_n 0, 1, 0, 0), (.getfield 103, 3, 10, 58), (.iconst 0, 1, 0, 0), (.invokestatic 533, 3, 1, 1), (.ireturn, 1, 0, 0)]),
  (138, [0], [(.aload_n 0, 1, 0, 0), (.getfield 106, 3, 10, 59), (.iconst 0, 1, 0, 0), (.invokestatic 533, 3, 1, 1), (.ireturn, 1, 0, 0)]),
  (147, [0], [(.aload_n 0, 1, 0, 0), (.getfield 109, 3, 10, 60), (.iconst 0, 1, 0, 0), (.invokestatic 533, 3, 1, 1), (.ireturn, 1, 0, 0)]),
  (156, [0], [(.aload_n 0, 1, 0, 0), (.getfield 112, 3, 10, 61), (.iconst 0, 1, 0, 0), (.iaload, 1, 0, 0), (.ireturn, 1, 0, 0)]),
  (163, [0], [(.aload_n 0, 1, 0, 0), (.getfield 115, 3, 10, 62), (.iconst 0, 1, 0, 0), (.iaload, 1, 0, 0), (.ireturn, 1, 0, 0)]),
  (170, [0], [(.aload_n 0, 1, 0, 0), (.getfield 118, 3, 10, 63), (.iconst 0, 1, 0, 0), (.iaload, 1, 0, 0), (.ireturn, 1, 0, 0)]),
  (177, [0, 2], [(.iconst 0, 1, 0, 0), (.istore_n 3, 1, 0, 0)]),
  (179, [0, 2, 3], [(.iload_n 3, 1, 0, 0), (.sipush 224, 3, 0, 0), (.if_icmp .ge 26, 3, 209, 0), (.iload_n 2, 1, 0, 0), (.aload_n 0, 1, 0, 0), (.getfield 100, 3, 10, 57), (.iload_n 3, 1, 0, 0), (.iaload, 1, 0, 0), (.ifCond .le 7, 3, 200, 0), (.iconst 1, 1, 0, 0), (.goto 4, 3, 201, 0)]),
  (200, [0, 3], [(.iconst 0, 1, 0, 0)]),
  (201, [0, 3], [(.iadd, 1, 0, 0), (.istore_n 2, 1, 0, 0), (.iinc 3 1, 3, 0, 0), (.goto (-27), 3, 179, 0)]),
  (209, [2], [(.iload_n 2, 1, 0, 0), (.ireturn, 1, 0, 0)]),
  (211, [0], [(.aload_n 0, 1, 0, 0), (.getfield 20, 3, 10, 24), (.iconst 0, 1, 0, 0), (.iaload, 1, 0, 0), (.ifCond .ge 8, 3, 225, 0), (.bipush (-2), 2, 0, 0), (.goto 9, 3, 231, 0)]),
  (225, [0], [(.aload_n 0, 1, 0, 0), (.getfield 20, 3, 10, 24), (.iconst 0, 1, 0, 0), (.iaload, 1, 0, 0)]),
  (231, [], [(.ireturn, 1, 0, 0)]),
  (232, [0], [(.aload_n 0, 1, 0, 0), (.getfield 386, 3, 10, 80), (.ireturn, 1, 0, 0)]),
  (237, [0], [(.aload_n 0, 1, 0, 0), (.invokevirtual 568, 3, 2, 1), (.ireturn, 1, 0, 0)]),
  (242, [0], [(.aload_n 0, 1, 0, 0), (.getfield 389, 3, 10, 85), (.ireturn, 1, 0, 0)]),
  (247, [], [(.iconst (-1), 1, 0, 0), (.ireturn, 1, 0, 0)])], none)
noncomputable def Mo_count (x1 : Int32) (M : AM) : Option (Option Value × AM) := mD C_Mo_count [.ref 82, .int x1] M
noncomputable def Mo_count_179 (x2 : Int32) (x3 : Int32) (M : AM) : Option (Option Value × AM) := it C_Mo_count 179 [(0, .ref 82), (2, .int x2), (3, .int x3)] [] M
end
section
/-! the machine itself beneath the abstract one: what a memory says of the heap; one instruction -/
def adr (base b i : Nat) : Nat := if i = idS then b else base + i
def cv (base b : Nat) (v : Value) : Value := match v with
  | .ref i => .ref (adr base b i)
  | v => v
def cp (base b : Nat) (q : Nat × Value) : Nat × Value := (q.1, cv base b q.2)
/-- a field's value -/
def fV (base b : Nat) (M : AM) (i k : Nat) : Value := match fk (gK i) k with
  | 1 => .long (M.2.1 i k)
  | 2 => va_rf ((M.2.2 i k).map (adr base b))
  | _ => .int (M.1 i k)
/-- an id's cell -/
def reC (D : va_G) (cy : Nat → ClassId) (base b : Nat) (M : AM) (i : Nat) (H : Heap) : Prop :=
  if gK i < 11 then t_OB (base + i) (D.1 (gK i)) (cN (gK i)) (D.2 (gK i)) H (fV base b M i)
  else if gK i = 13 then H[base + i]? = some (arrV (cy 13) (gN i) (fun j => .long (M.2.1 i j)))
  else H[base + i]? = some (arrV (cy (gK i)) (gN i) (fun j => .int (M.1 i j)))
def Rep (D : va_G) (cy : Nat → ClassId) (base b : Nat) (M : AM) (H : Heap) : Prop := ∀ i, i < lyN → reC D cy base b M i H
/-- the cells of the world -/
def frW (base : Nat) (q : Addr) : Prop := base ≤ q ∧ q < base + lyN
/-- the heap in a method that began with the heap H0: the world, and what is outside it as it was -/
def WS (D : va_G) (cy : Nat → ClassId) (base b : Nat) (H0 : Heap) (M : AM) (H : Heap) (locs : List Loc) : Prop :=
  Rep D cy base b M H ∧ (∀ q, (q < base ∨ base + lyN ≤ q) → H[q]? = H0[q]?) ∧ ∀ l ∈ locs, frW base l.base
def aTy (n : Nat) : FieldType := match n with
  | 11 => .byte
  | 12 => .int
  | 13 => .long
  | _ => .boolean
def nstW : List Cond := [.methodLinkNest RX8 95 yX9_find RX9, .methodLinkNest RX6 98 yX9_find RX9]
/-- what is known of classes -/
def Kn (D : va_G) (cy : Nat → ClassId) (U : State) : Prop :=
  (∀ (c : Nat) (q : vw_C), vwCl[c]? = some q → u_Kn U q.1 q.2.1 q.2.2 (D.1 c) (D.2 c)) ∧ (∀ n, 11 ≤ n → n ≤ 14 → ArrOfT U (cy n) (aTy n) ∧ va_RA U (cy n) (aTy n)) ∧ ∀ w ∈ nstW, va_Nw w U
/-- the words of all methods -/
def TBg : List Cond := lw_tbl.filter goodWord
section
variable {α : Type} {base b : Nat}
theorem popI_some {st : List Value} {f : Int32 → List Value → Option α} {r : α} (h : popI st f = some r) : ∃ x st', st = .int x :: st' ∧ f x st' = some r := by
  unfold popI at h
  split at h
  · exact ⟨_, _, rfl, h⟩
  · cases h
theorem popL_some {st : List Value} {f : Int64 → List Value → Option α} {r : α} (h : popL st f = some r) : ∃ x st', st = .long x :: st' ∧ f x st' = some r := by
  unfold popL at h
  split at h
  · exact ⟨_, _, rfl, h⟩
  · cases h
theorem popR_some {st : List Value} {f : Nat → List Value → Option α} {r : α} (h : popR st f = some r) : ∃ x st', st = .ref x :: st' ∧ f x st' = some r := by
  unfold popR at h
  split at h
  · exact ⟨_, _, rfl, h⟩
  · cases h
theorem getL_some {lv : LV} {i : Nat} {f : Value → Option α} {r : α} (h : getL lv i f = some r) : ∃ v, lk lv i = some v ∧ f v = some r := by
  unfold getL at h
  split at h
  · rename_i v hv; exact ⟨v, hv, h⟩
  · cases h
theorem asI_some {v : Value} {f : Int32 → Option α} {r : α} (h : asI v f = some r) : ∃ x, v = .int x ∧ f x = some r := by
  unfold asI at h
  split at h
  · exact ⟨_, rfl, h⟩
  · cases h
theorem asL_some {v : Value} {f : Int64 → Option α} {r : α} (h : asL v f = some r) : ∃ x, v = .long x ∧ f x = some r := by
  unfold asL at h
  split at h
  · exact ⟨_, rfl, h⟩
  · cases h
theorem asR_some {v : Value} {f : Nat → Option α} {r : α} (h : asR v f = some r) : ∃ x, v = .ref x ∧ f x = some r := by
  unfold asR at h
  split at h
  · exact ⟨_, rfl, h⟩
  · cases h
theorem someR_some {v : Option Nat} {f : Nat → Option α} {r : α} (h : someR v f = some r) : ∃ x, v = some x ∧ f x = some r := by
  unfold someR at h
  split at h
  · exact ⟨_, rfl, h⟩
  · cases h
theorem scR_some {β : Type} {v : Option β} {f : β → Option α} {r : α} (h : scR v f = some r) : ∃ x, v = some x ∧ f x = some r := by
  unfold scR at h
  split at h
  · exact ⟨_, rfl, h⟩
  · cases h
theorem gd_some {c : Prop} {x : Option α} {r : α} (h : gd c x = some r) : c ∧ x = some r := by
  unfold gd at h
  by_cases hc : c
  · rw [if_pos hc] at h; exact ⟨hc, h⟩
  · rw [if_neg hc] at h; cases h
theorem ifc_t {c : Prop} {x y : Option α} (hc : c) : ifc c x y = x := by unfold ifc; exact if_pos hc
theorem ifc_f {c : Prop} {x y : Option α} (hc : ¬ c) : ifc c x y = y := by unfold ifc; exact if_neg hc
theorem gk_some {c : Bool} {x : Option α} {r : α} (h : gk c x = some r) : c = true ∧ x = some r := by
  cases c
  · cases h
  · exact ⟨rfl, h⟩
theorem bM_some {c : Bool} {x y : Option α} {r : α} (h : bM c x y = some r) : (c = true ∧ x = some r) ∨ (c = false ∧ y = some r) := by
  cases c
  · exact Or.inr ⟨rfl, h⟩
  · exact Or.inl ⟨rfl, h⟩
theorem cv_cat (v : Value) : (cv base b v).category = v.category := by cases v <;> rfl
theorem catS_cv (st : List Value) : ((st.map (cv base b)).map fun v => v.category).sum = catS st := by
  unfold catS
  rw [List.map_map]
  congr 2
  funext v
  exact cv_cat v
theorem lk_mem : ∀ {lv : LV} {i : Nat} {v : Value}, lk lv i = some v → (i, v) ∈ lv
  | [], _, _, h => by cases h
  | q :: r, i, v, h => by
    unfold lk at h
    by_cases hq : q.1 = i
    · rw [if_pos hq] at h
      cases h
      subst hq
      exact List.mem_cons_self
    · rw [if_neg hq] at h
      exact List.mem_cons_of_mem _ (lk_mem h)
theorem lk_has {ls : Array Slot} {nL : Nat} {lv : LV} (hl : lv_has ls nL (lv.map (cp base b))) {i : Nat} {v : Value} (h : lk lv i = some v) : ls[i]? = some (.val (cv base b v)) :=
  hl.2.2 (i, cv base b v) (List.mem_map.mpr ⟨(i, v), lk_mem h, rfl⟩)
theorem cp_filter (p : Nat → Nat → Bool) (lv : LV) : (lv.filter (fun q => p q.1 q.2.category)).map (cp base b) = (lv.map (cp base b)).filter (fun q => p q.1 q.2.category) := by
  induction lv with
  | nil => rfl
  | cons q r ih =>
    rw [List.map_cons, List.filter_cons, List.filter_cons]
    have e : p (cp base b q).1 (cp base b q).2.category = p q.1 q.2.category := by
      show p q.1 (cv base b q.2).category = _
      rw [cv_cat]
    rw [e]
    split
    · rw [List.map_cons, ih]
    · exact ih
theorem st1_cp (lv : LV) (i : Nat) (v : Value) : (i, cv base b v) :: (lv.map (cp base b)).filter (fun q => !(q.1 == i) && !(q.1 + 1 == i && q.2.category == 2)) = (st1 lv i v).map (cp base b) := by
  unfold st1
  rw [List.map_cons, cp_filter (fun a c => !(a == i) && !(a + 1 == i && c == 2))]
  rfl
theorem st2_cp (lv : LV) (i : Nat) (v : Value) : (i, cv base b v) :: (lv.map (cp base b)).filter (fun q => !(q.1 == i) && (!(q.1 == i + 1) && !(q.1 + 1 == i && q.2.category == 2))) = (st2 lv i v).map (cp base b) := by
  unfold st2
  rw [List.map_cons, cp_filter (fun a c => !(a == i) && (!(a == i + 1) && !(a + 1 == i && c == 2)))]
  rfl
theorem pick_has {ls : Array Slot} {nL : Nat} {lv : LV} (ks : List Nat) (hl : lv_has ls nL (lv.map (cp base b))) : lv_has ls nL ((pick ks lv).map (cp base b)) := by
  refine ⟨hl.1, hl.2.1, fun q hq => ?_⟩
  obtain ⟨a, ha, rfl⟩ := List.mem_map.mp hq
  obtain ⟨i, -, hi⟩ := List.mem_filterMap.mp ha
  cases h : lk lv i with
  | none => rw [h] at hi; cases hi
  | some v =>
    rw [h] at hi
    cases hi
    exact lk_has hl h
theorem inB_in {i : Int32} {n : Nat} (h : inB i n) : vp_in i n := fun q => q.elim h.1 (Nat.not_le.mpr h.2)
theorem obj_spec {c a : Nat} (h : obj c a = true) : gK a = c ∧ a < lyN := by
  unfold obj at h
  rw [Bool.and_eq_true] at h
  refine ⟨by simpa using h.1, ?_⟩
  have h2 := h.2
  simp only [Nat.blt, Nat.ble_eq] at h2
  exact h2
theorem adr_id {a : Nat} (h : a < lyN) : adr base b a = base + a := by
  unfold adr
  rw [if_neg]
  intro q
  rw [q] at h
  exact absurd h (by decide)
theorem isB_or {x : Int32} (h : isB x) : x = 0 ∨ x = 1 := h
end

theorem u2_ne {α : Type} {f : Nat → Nat → α} {a k : Nat} {x : α} {c : Nat} (h : c ≠ a) : u2 f a k x c = f c := by
  funext j
  simp [u2, h]
theorem u2_at {α : Type} (f : Nat → Nat → α) (a k : Nat) (x : α) (j : Nat) : u2 f a k x a j = if j = k then x else f a j := by
  simp [u2]
theorem reC_kept {D : va_G} {cy : Nat → ClassId} {base b : Nat} {M M' : AM} {i : Nat} {H H' : Heap} (h : reC D cy base b M i H) (e1 : M'.1 i = M.1 i) (e2 : M'.2.1 i = M.2.1 i) (e3 : M'.2.2 i = M.2.2 i) (hq : H'[base + i]? = H[base + i]?) : reC D cy base b M' i H' := by
  unfold reC at h ⊢
  by_cases h1 : gK i < 11
  · rw [if_pos h1] at h ⊢
    refine (h.kept hq).to (fun k _ => ?_)
    unfold fV
    rw [e1, e2, e3]
  · rw [if_neg h1] at h ⊢
    by_cases h2 : gK i = 13
    · rw [if_pos h2] at h ⊢
      rw [hq, e2]
      exact h
    · rw [if_neg h2] at h ⊢
      rw [hq, e1]
      exact h
theorem Rep.put {D : va_G} {cy : Nat → ClassId} {base b : Nat} {M M' : AM} {i : Nat} {H H' : Heap} (h : Rep D cy base b M H) (e1 : ∀ j, j ≠ i → M'.1 j = M.1 j) (e2 : ∀ j, j ≠ i → M'.2.1 j = M.2.1 j) (e3 : ∀ j, j ≠ i → M'.2.2 j = M.2.2 j) (hq : ∀ q, q ≠ base + i → H'[q]? = H[q]?) (hi : reC D cy base b M' i H') : Rep D cy base b M' H' := by
  intro j hj
  by_cases hji : j = i
  · rw [hji]; exact hi
  · exact reC_kept (h j hj) (e1 j hji) (e2 j hji) (e3 j hji) (hq _ (fun z => hji (by omega)))
theorem WS.put {D : va_G} {cy : Nat → ClassId} {base b : Nat} {H0 : Heap} {M M' : AM} {i : Nat} {H H' : Heap} {locs locs' : List Loc} (h : WS D cy base b H0 M H locs) (hi9 : i < lyN) (e1 : ∀ j, j ≠ i → M'.1 j = M.1 j) (e2 : ∀ j, j ≠ i → M'.2.1 j = M.2.1 j) (e3 : ∀ j, j ≠ i → M'.2.2 j = M.2.2 j) (hq : ∀ q, q ≠ base + i → H'[q]? = H[q]?) (hi : reC D cy base b M' i H') (hl : ∀ l ∈ locs', l ∈ locs ∨ l.base = base + i) : WS D cy base b H0 M' H' locs' := by
  refine ⟨h.1.put e1 e2 e3 hq hi, fun q hb => ?_, fun l h9 => ?_⟩
  · rw [hq q (by omega)]
    exact h.2.1 q hb
  · rcases hl l h9 with z | z
    · exact h.2.2 l z
    · rw [z]; exact ⟨Nat.le_add_right _ _, Nat.add_lt_add_left hi9 _⟩
end
section
/-! one instruction: what the abstract machine does, the machine does -/
def tyK (t : FieldType) : Nat := match t with
  | .int => 0
  | .long => 1
  | .object _ => 2
  | .array _ => 2
  | .boolean => 3
  | _ => 9
/-- what is said of the classes by their tables -/
def CF : Prop := ∀ (c : Nat) (q : vw_C), vwCl[c]? = some q → q.2.2 = cN c ∧ c < 11 ∧ (∀ w ∈ u_ws q.1 q.2.1 q.2.2, w ∈ TBg) ∧ (∃ ty : Nat → FieldType, ∀ k, k < q.2.2 → parseFieldDescriptor (q.2.1 k).2.2.1 = some (ty k) ∧ tyK (ty k) = fk c k) ∧
  (∀ a, a < q.2.2 → ∀ d, d < q.2.2 → a ≠ d → (q.2.1 a).2.1 ≠ (q.2.1 d).2.1) ∧ ∀ k, k < q.2.2 → (q.2.1 k).2.2.2 = fFin c k
/-- a field's link -/
def FO (own : String) (idx c k : Nat) : Prop := ∃ q, vwCl[c]? = some q ∧ Cond.fieldLink own idx (q.2.1 k).1 (q.2.1 k).2.1 (q.2.1 k).2.2.1 ∈ TBg
/-- a method's contract: what the abstract method does, it does -/
def Pcx (D : va_G) (cy : Nat → ClassId) (base b : Nat) (As : List Value) (M : AM) : Array Value → State → Prop := fun a U => a = (As.map (cv base b)).toArray ∧ Rep D cy base b M U.heap ∧ Kn D cy U
def Qcx (D : va_G) (cy : Nat → ClassId) (base b : Nat) (r : Option Value) (M' : AM) : Array Value → State → Outcome → State → Prop := fun _ st o t => o = .returned (r.map (cv base b)) ∧ Rep D cy base b M' t.heap ∧ ∀ q, (q < base ∨ base + lyN ≤ q) → t.heap[q]? = st.heap[q]?
def Ct (l : Launch) (y : MethodName) (cc : ByteArray) (maxL : Nat) (ret : Option FieldType) (rm : Room) (Df : DT) : Prop :=
  ∀ (D : va_G) (cy : Nat → ClassId) (base b : Nat) (As : List Value) (M : AM) (r : Option Value) (M' : AM), Df As M = some (r, M') → Met l y (.code y cc maxL ret :: TBg) rm (Pcx D cy base b As M) (Qcx D cy base b r M') 0 0 (frW base)
/-- a callee's link, words and room -/
def CO (l : Launch) (R : Room) (own : String) (idx : Nat) (cal : Cal) : Prop := match cal with
  | (0, c, n, Df) => ∃ (y : MethodName) (cc : ByteArray) (maxL : Nat) (ret : Option FieldType) (rm : Room) (q : vw_C), Ct l y cc maxL ret rm Df ∧ (rm.cells = 0 ∧ rm.slots = 0 ∧ rm.frames + 1 ≤ R.frames ∧ 8 + (maxL + 11) + rm.locals ≤ R.locals) ∧
      Cond.code y cc maxL ret ∈ TBg ∧ Cond.initialized y.cls ∈ TBg ∧ Cond.methodLink own idx y ∈ TBg ∧ (y.cls ≠ "java/lang/invoke/MethodHandle" ∧ y.cls ≠ "java/lang/invoke/VarHandle" ∧ (parseMethodDescriptor y.desc).map (fun d => d.parameters.length + 1) = some n) ∧
      Cond.instanceMethod y ∈ TBg ∧ vwCl[c]? = some q ∧ Cond.selects q.1 y y ∈ TBg
  | (1, _, n, Df) => ∃ (y : MethodName) (cc : ByteArray) (maxL : Nat) (ret : Option FieldType) (rm : Room), Ct l y cc maxL ret rm Df ∧ (rm.cells = 0 ∧ rm.slots = 0 ∧ rm.frames + 1 ≤ R.frames ∧ 8 + (maxL + 11) + rm.locals ≤ R.locals) ∧
      Cond.code y cc maxL ret ∈ TBg ∧ Cond.initialized y.cls ∈ TBg ∧ (Cond.methodLink own idx y ∈ TBg ∨ ∃ host, Cond.methodLinkNest own idx y host ∈ nstW) ∧ (y.cls ≠ "java/lang/invoke/MethodHandle" ∧ y.cls ≠ "java/lang/invoke/VarHandle" ∧ (parseMethodDescriptor y.desc).map (fun d => d.parameters.length) = some n) ∧
      Cond.static y ∈ TBg
  | (2, _, _, _) => 1 ≤ R.frames ∧ 8 + (nativeFrameWords "java/lang/System" "arraycopy" 5 + 11) ≤ R.locals ∧ Cond.methodLink own idx arraycopyName ∈ TBg ∧ Cond.native arraycopyName ∈ TBg ∧ Cond.static arraycopyName ∈ TBg ∧ Cond.initialized "java/lang/System" ∈ TBg
  | (3, _, _, _) => 1 ≤ R.frames ∧ 23 ≤ R.locals ∧ Cond.methodLink own idx Lib.Math.min.name ∈ TBg ∧ Cond.static Lib.Math.min.name ∈ TBg ∧ Cond.initialized "java/lang/Math" ∈ TBg ∧ Cond.code Lib.Math.min.name Lib.Math.min.code 2 (some .int) ∈ TBg
  | (4, _, _, _) => 1 ≤ R.frames ∧ 23 ≤ R.locals ∧ Cond.methodLink own idx Lib.Math.max.name ∈ TBg ∧ Cond.static Lib.Math.max.name ∈ TBg ∧ Cond.initialized "java/lang/Math" ∈ TBg ∧ Cond.code Lib.Math.max.name Lib.Math.max.code 2 (some .int) ∈ TBg
  | (5, _, _, _) => 1 ≤ R.frames ∧ 23 ≤ R.locals ∧ Cond.methodLink own idx Lib.MathLoose.min_long.x ∈ TBg ∧ Cond.static Lib.MathLoose.min_long.x ∈ TBg ∧ Cond.initialized "java/lang/Math" ∈ TBg ∧ Cond.code Lib.MathLoose.min_long.x Lib.MathLoose.min_long.code 4 (some .long) ∈ TBg
  | (6, _, _, _) => 1 ≤ R.frames ∧ 23 ≤ R.locals ∧ Cond.methodLink own idx Lib.MathLoose.max_long.x ∈ TBg ∧ Cond.static Lib.MathLoose.max_long.x ∈ TBg ∧ Cond.initialized "java/lang/Math" ∈ TBg ∧ Cond.code Lib.MathLoose.max_long.x Lib.MathLoose.max_long.code 4 (some .long) ∈ TBg
  | _ => False
/-- the length of an instruction -/
def iLen (i : Instr) : Nat := match i with
  | .bipush _ | .ldc _ | .iload _ | .lload _ | .aload _ | .istore _ | .lstore _ | .astore _ => 2
  | .sipush _ | .ldc2_w _ | .iinc _ _ | .goto _ | .ifCond _ _ | .if_icmp _ _ | .getfield _ | .putfield _ | .invokevirtual _ | .invokestatic _ => 3
  | _ => 1
def swTok (pc : Nat) : Int → List Int → Bool
  | _, [] => true
  | lo, o :: r => decide (0 ≤ (pc : Int) + o) && decide ((cI lo).toInt = lo) && swTok pc (lo + 1) r
def swLok (pc : Nat) : List (Int × Int) → Bool
  | [] => true
  | q :: r => decide (0 ≤ (pc : Int) + q.2) && decide ((cI q.1).toInt = q.1) && swLok pc r
/-- what a program decides of an instruction: its hints, its numbers, its length -/
def eC (FL : List (Nat × Nat × Nat)) (KI KL : List (Nat × Nat)) (CL : List Nat) (pc : Nat) (e : Ent) : Bool := match e.1 with
  | .iconst n => decide (Int32.ofInt n = cI n) && Nat.beq e.2.1 1
  | .bipush n => decide ((Int8.ofInt n).toInt32 = cI n) && Nat.beq e.2.1 2
  | .sipush n => decide ((Int16.ofInt n).toInt32 = cI n) && Nat.beq e.2.1 3
  | .iinc _ n => decide (Int32.ofInt n = cI n) && Nat.beq e.2.1 3
  | .ldc i => KI.contains (i, e.2.2.1) && Nat.beq e.2.1 2
  | .ldc_w i => KI.contains (i, e.2.2.1) && Nat.beq e.2.1 3
  | .ldc2_w i => KL.contains (i, e.2.2.1) && Nat.beq e.2.1 3
  | .getfield i => FL.contains (i, e.2.2.1, e.2.2.2) && Nat.beq e.2.1 3
  | .putfield i => FL.contains (i, e.2.2.1, e.2.2.2) && Nat.beq e.2.1 3
  | .goto o => decide ((pc : Int) + o = (e.2.2.1 : Int)) && Nat.beq e.2.1 3
  | .ifCond _ o => decide ((pc : Int) + o = (e.2.2.1 : Int)) && Nat.beq e.2.1 3
  | .if_icmp _ o => decide ((pc : Int) + o = (e.2.2.1 : Int)) && Nat.beq e.2.1 3
  | .tableswitch d lo hi os => decide (0 ≤ (pc : Int) + d) && decide (hi = lo + os.toList.length - 1) && swTok pc lo os.toList
  | .lookupswitch d ps => decide (0 ≤ (pc : Int) + d) && (ps.toList.zip (ps.toList.drop 1)).all (fun (a, next) => a.1 < next.1) && swLok pc ps.toList
  | .invokevirtual i => decide (CL[e.2.2.1]? = some i) && Nat.beq e.2.1 3
  | .invokestatic i => decide (CL[e.2.2.1]? = some i) && Nat.beq e.2.1 3
  | i => Nat.beq e.2.1 (iLen i)
def chkB (cc : ByteArray) (FL : List (Nat × Nat × Nat)) (KI KL : List (Nat × Nat)) (CL : List Nat) : List Ent → Nat → Bool
  | [], _ => true
  | e :: is, pc => decide (decode cc pc = .ok (e.1, e.2.1)) && eC FL KI KL CL pc e && chkB cc FL KI KL CL is (pc + e.2.1)
section
variable {p : Program} {l : Launch} {e : Env} {R : Room} {s : State} {m : MethodId} {args : Array Value} {below : List Frame} {meth : Method} {c : Code} {H : Heap} {locs : List Loc} {cells slots : Nat} {Q : State → Prop}
variable {cc : ByteArray} {pc : Nat} {ls : Array Slot} {rest : List Value} {D : va_G} {cy : Nat → ClassId} {base b : Nat} {H0 : Heap} {M : AM} {own : String}
theorem rep_obj {a k9 : Nat} (hws : WS D cy base b H0 M H locs) (hcf : CF) {q : vw_C} (hq : vwCl[k9]? = some q) (ho : obj k9 a = true) : adr base b a = base + a ∧ t_OB (base + a) (D.1 k9) q.2.2 (D.2 k9) H (fV base b M a) := by
  obtain ⟨hg, ha⟩ := obj_spec ho
  obtain ⟨hN, hlt, -⟩ := hcf k9 q hq
  have h := hws.1 a ha
  unfold reC at h
  rw [hg, if_pos hlt, ← hN] at h
  exact ⟨adr_id ha, h⟩
theorem rw_get (hx : p.tables.exec = Jvm.exec) (hb : c.code = cc) (hts : ∀ w ∈ TBg, w.before args s = true) (hcf : CF) (hown : s.vm.findClass own = some m.cls) (hK : Kn D cy s) (hws : WS D cy base b H0 M H locs) {a idx k9 k : Nat} (ho : obj k9 a = true) (hk : k < cN k9) (hf : FO own idx k9 k) (hdg : decode cc pc = .ok (.getfield idx, 3))
    (kk : W p l e R s m args below meth c H locs cells slots Q (F0 m (pc + 3) ls (fV base b M a k :: rest))) : W p l e R s m args below meth c H locs cells slots Q (F0 m pc ls (.ref (adr base b a) :: rest)) := by
  obtain ⟨q, hq, hl⟩ := hf
  obtain ⟨hadr, cell, q1, q2, q3, q4⟩ := rep_obj hws hcf hq ho
  obtain ⟨hN, -, hin, -⟩ := hcf k9 q hq
  rw [hadr]
  have hk2 : k < q.2.2 := by rw [hN]; exact hk
  obtain ⟨hS, hfc, kC, hkC, hkind⟩ := hK.1 k9 q hq
  obtain ⟨cf, kf, fi, f, hi, hsl⟩ := hS k hk2
  refine W.getf hx hb hown (hts _ hl) hi (u_facts hfc hkC (u_lays hts hin hk2) hi).1 q1 (by rw [q3]; exact fun h => by cases h) (v := fV base b M a k) ?_ rfl rfl hdg kk
  rw [hsl, q4 k hk2]
theorem rw_put (hx : p.tables.exec = Jvm.exec) (hb : c.code = cc) (hts : ∀ w ∈ TBg, w.before args s = true) (hcf : CF) (hown : s.vm.findClass own = some m.cls) (hK : Kn D cy s) (hws : WS D cy base b H0 M H locs) {a idx k9 k : Nat} (ho : obj k9 a = true) (hk : k < cN k9) (hf : FO own idx k9 k) (hfin : fFin k9 k = false) {v : Value} {M' : AM}
    (hv : ∀ ty, tyK ty = fk k9 k → narrow ty v = v ∧ fits ty v = true) (e1 : ∀ j, j ≠ a → M'.1 j = M.1 j) (e2 : ∀ j, j ≠ a → M'.2.1 j = M.2.1 j) (e3 : ∀ j, j ≠ a → M'.2.2 j = M.2.2 j) (hV : ∀ j, j < cN k9 → updV (fV base b M a) k v j = fV base b M' a j) (hdg : decode cc pc = .ok (.putfield idx, 3))
    (kk : ∀ (H1 : Heap) (locs1 : List Loc), WS D cy base b H0 M' H1 locs1 → W p l e R s m args below meth c H1 locs1 cells slots Q (F0 m (pc + 3) ls rest)) : W p l e R s m args below meth c H locs cells slots Q (F0 m pc ls (v :: .ref (adr base b a) :: rest)) := by
  obtain ⟨q, hq, hl⟩ := hf
  obtain ⟨hadr, cell, q1, q2, q3, q4⟩ := rep_obj hws hcf hq ho
  obtain ⟨hN, hlt, hin, ⟨ty, hty⟩, hnm, hfi⟩ := hcf k9 q hq
  rw [hadr]
  have hk2 : k < q.2.2 := by rw [hN]; exact hk
  obtain ⟨hS, hfc, kC, hkC, hkind⟩ := hK.1 k9 q hq
  have hap : ∀ x y, x < q.2.2 → y < q.2.2 → x ≠ y → (D.2 k9) x ≠ (D.2 k9) y := by
    intro x y hx1 hy1 hne
    obtain ⟨_, _, _, fa, hia, ea⟩ := hS x hx1
    obtain ⟨_, _, _, fb, hib, eb⟩ := hS y hy1
    rw [← ea, ← eb]
    refine u_apart (u_lays hts hin hx1) (u_lays hts hin hy1) hia hib ?_
    rw [(State.fieldFound?_type hia (hty x hx1).1).1, (State.fieldFound?_type hib (hty y hy1).1).1]
    exact hnm x hx1 y hy1 hne
  obtain ⟨cf, kf, fi, f, hi, hsl⟩ := hS k hk2
  have hlay := hts _ (hin _ (u_in_lay hk2))
  unfold u_lay at hlay
  rw [if_neg (by rw [hfi k hk2, hfin]; decide)] at hlay
  have hst := (u_facts hfc hkC (u_lays hts hin hk2) hi).1
  obtain ⟨hn, hfit⟩ := hv _ (hty k hk2).2
  have h6 := u_store hfc hkC hkind hlay hi (hty k hk2).1 hn hfit
  refine W.putK hx hb (f := f) ⟨hown, hts _ hl, ⟨_, _, _, hi⟩, hst⟩ (by rw [q2]; exact h6) q1 q3 (by rw [hsl]; exact k2_hasslot (q4 k hk2)) rfl rfl hdg fun H' g1 g2 g3 => ?_
  rw [hsl] at g1 ⊢
  refine kk H' _ (hws.put (obj_spec ho).2 e1 e2 e3 g3 ?_ (fun z hz => ?_))
  · unfold reC
    rw [(obj_spec ho).1, if_pos hlt, ← hN]
    refine t_OB.to (V := updV (fV base b M a) k v) ⟨_, g1, q2, q3, t_set q4 hap hk2 v⟩ (fun j hj => hV j (by rw [← hN]; exact hj))
  · rcases List.mem_append.mp hz with h | h
    · exact Or.inl h
    · rw [List.mem_singleton.mp h]; exact Or.inr rfl
theorem rep_arr {a n : Nat} (hws : WS D cy base b H0 M H locs) (hn : n = 11 ∨ n = 12 ∨ n = 14) (ho : obj n a = true) : adr base b a = base + a ∧ H[base + a]? = some (arrV (cy n) (gN a) (fun j => .int (M.1 a j))) := by
  obtain ⟨hg, ha⟩ := obj_spec ho
  have h := hws.1 a ha
  unfold reC at h
  rw [hg, if_neg (by omega), if_neg (by omega)] at h
  exact ⟨adr_id ha, h⟩
theorem rep_arrL {a : Nat} (hws : WS D cy base b H0 M H locs) (ho : obj 13 a = true) : adr base b a = base + a ∧ H[base + a]? = some (arrV (cy 13) (gN a) (fun j => .long (M.2.1 a j))) := by
  obtain ⟨hg, ha⟩ := obj_spec ho
  have h := hws.1 a ha
  unfold reC at h
  rw [hg, if_neg (by omega), if_pos rfl] at h
  exact ⟨adr_id ha, h⟩
theorem ws_arr {a n : Nat} (hws : WS D cy base b H0 M H locs) (hn : n = 11 ∨ n = 12 ∨ n = 14) (ho : obj n a = true) {j : Nat} {x : Int32} {H1 : Heap} {locs1 : List Loc} (hc : H1[base + a]? = some ((arrV (cy n) (gN a) (fun j => .int (M.1 a j))).setSlot j (.int x))) (hq : ∀ q, q ≠ base + a → H1[q]? = H[q]?) (hl : ∀ z ∈ locs1, z ∈ locs ∨ z.base = base + a) :
    WS D cy base b H0 (u2 M.1 a j x, M.2.1, M.2.2) H1 locs1 := by
  refine hws.put (obj_spec ho).2 (fun z hz => u2_ne hz) (fun _ _ => rfl) (fun _ _ => rfl) hq ?_ hl
  unfold reC
  rw [(obj_spec ho).1, if_neg (by omega), if_neg (by omega), hc, arrV_store]
  congr 2
  funext z
  show updV _ _ _ z = .int (u2 M.1 a j x a z)
  rw [u2_at]
  unfold updV
  by_cases h : z = j <;> simp [h]
theorem ws_arrL {a : Nat} (hws : WS D cy base b H0 M H locs) (ho : obj 13 a = true) {j : Nat} {x : Int64} {H1 : Heap} {locs1 : List Loc} (hc : H1[base + a]? = some ((arrV (cy 13) (gN a) (fun j => .long (M.2.1 a j))).setSlot j (.long x))) (hq : ∀ q, q ≠ base + a → H1[q]? = H[q]?) (hl : ∀ z ∈ locs1, z ∈ locs ∨ z.base = base + a) :
    WS D cy base b H0 (M.1, u2 M.2.1 a j x, M.2.2) H1 locs1 := by
  refine hws.put (obj_spec ho).2 (fun _ _ => rfl) (fun z hz => u2_ne hz) (fun _ _ => rfl) hq ?_ hl
  unfold reC
  rw [(obj_spec ho).1, if_neg (by omega), if_pos rfl, hc, arrV_store]
  congr 2
  funext z
  show updV _ _ _ z = .long (u2 M.2.1 a j x a z)
  rw [u2_at]
  unfold updV
  by_cases h : z = j <;> simp [h]
theorem loc_app {z : Loc} {a j : Nat} (h : z ∈ locs ++ [⟨base + a, j⟩]) : z ∈ locs ∨ z.base = base + a := by
  rcases List.mem_append.mp h with h | h
  · exact Or.inl h
  · rw [List.mem_singleton.mp h]; exact Or.inr rfl
theorem in_arr {n : Nat} {ci : ClassId} {f : Nat → Value} {i : Int32} (h : inB i n) : ¬ (i < 0 ∨ (arrV ci n f).slots.size ≤ i.toNatClampNeg) := by
  rw [arrV_size]
  exact inB_in h
theorem in_lt {n : Nat} {i : Int32} (h : inB i n) : i.toNatClampNeg < n := Nat.not_le.mp fun q => inB_in h (Or.inr q)
theorem rw_copy (hx : p.tables.exec = Jvm.exec) (hb : c.code = cc) (hml : c.maxLocals = ls.size) {idx : Nat} (hown : s.vm.findClass own = some m.cls) (hlink : (Cond.methodLink own idx arraycopyName).before args s = true) (hnat : (Cond.native arraycopyName).before args s = true) (hstat : (Cond.static arraycopyName).before args s = true) (hini : (Cond.initialized "java/lang/System").before args s = true)
    (hK : Kn D cy s) (hws : WS D cy base b H0 M H locs) {a d : Nat} (ha : obj 12 a = true) (hd : obj 12 d = true) {sp dp n : Int32} (h1 : ¬ sp < 0) (h2 : ¬ dp < 0) (h3 : ¬ n < 0) (h4 : sp.toNatClampNeg + n.toNatClampNeg ≤ gN a) (h5 : dp.toNatClampNeg + n.toNatClampNeg ≤ gN d)
    (hframes : 1 ≤ R.frames) (hlocals : (rest.map fun v => v.category).sum + (nativeFrameWords "java/lang/System" "arraycopy" 5 + 11) ≤ R.locals) (hdg : decode cc pc = .ok (.invokestatic idx, 3))
    (kk : ∀ (H1 : Heap) (locs1 : List Loc), WS D cy base b H0 (cpy2 M.1 a sp.toNatClampNeg d dp.toNatClampNeg n.toNatClampNeg, M.2.1, M.2.2) H1 locs1 → W p l e R s m args below meth c H1 locs1 cells slots Q (F0 m (pc + 3) ls rest)) :
    W p l e R s m args below meth c H locs cells slots Q (F0 m pc ls (.int n :: .int dp :: .ref (adr base b d) :: .int sp :: .ref (adr base b a) :: rest)) := by
  obtain ⟨ea, hca⟩ := rep_arr hws (Or.inr (Or.inl rfl)) ha
  obtain ⟨ed, hcd⟩ := rep_arr hws (Or.inr (Or.inl rfl)) hd
  rw [ea, ed]
  have nn : ∀ z : Int32, ¬ z < 0 → z.toInt = (z.toNatClampNeg : Int) := by
    intro z hz
    have hz0 : (0 : Int) ≤ z.toInt := by
      have := Int32.not_lt.mp hz
      simpa using Int32.le_iff_toInt_le.mp this
    show z.toInt = ((z.toInt.toNat : Nat) : Int)
    omega
  have hAr := (hK.2.1 12 (by omega) (by omega)).1
  obtain ⟨-, k0, hk0, cm0, hkk0⟩ := hAr (gN a) (fun j => .int (M.1 a j))
  obtain ⟨-, k1, hk1, cm1, hkk1⟩ := hAr (gN d) (fun j => .int (M.1 d j))
  intro T hT X
  obtain ⟨vm', X', step⟩ := X.arraycopy hx hown hlink hnat hstat hini (src := base + a) (dst := base + d) (cs := arrV (cy 12) (gN a) (fun j => .int (M.1 a j))) (cd := arrV (cy 12) (gN d) (fun j => .int (M.1 d j))) (srcPos := sp) (destPos := dp) (n := n) (by rw [hT]; exact hca) (by rw [hT]; exact hcd)
    (fun _ h => by cases h) (fun _ h => by cases h) (fun h => by cases h) (fun h => by cases h) hk0 hk1 hkk0 hkk1 (by rfl) h1 h2 h3
    (by rw [nn sp h1, nn n h3, arrV_size]; omega)
    (by rw [nn dp h2, nn n h3, arrV_size]; omega)
    (fun vm₁ _ i hi => by
      have e : (arrV (cy 12) (gN a) (fun j => .int (M.1 a j))).slots.getD (sp.toNatClampNeg + i) .null = .int (M.1 a (sp.toNatClampNeg + i)) := by
        rw [Array.getD_eq_getD_getElem?, arrV_read _ _ (by omega)]
        rfl
      refine ⟨?_, ?_⟩
      · rw [e]; rfl
      · rw [e]; exact trivial)
    (g := F0 m pc ls (.int n :: .int dp :: .ref (base + d) :: .int sp :: .ref (base + a) :: rest)) rfl (by rw [hml]) (rest := rest) rfl (by rw [hb]; exact hdg) hframes (by show 2 * 0 + _ + _ ≤ _; omega)
  have e1 : copied (arrV (cy 12) (gN a) (fun j => .int (M.1 a j))) (arrV (cy 12) (gN d) (fun j => .int (M.1 d j))) sp dp n = arrV (cy 12) (gN d) (fun j => .int (va_cpy (M.1 a) (M.1 d) sp.toNatClampNeg dp.toNatClampNeg n.toNatClampNeg j)) := va_copied (fun z => .int z) (cy 12) (cy 12) (M.1 a) (M.1 d) h4
  rw [e1] at X' step
  have hl : base + d < H.size := (Array.getElem?_eq_some_iff.mp hcd).1
  have hheap : ((T.setVm vm').setCell (base + d) (arrV (cy 12) (gN d) (fun j => .int (va_cpy (M.1 a) (M.1 d) sp.toNatClampNeg dp.toNatClampNeg n.toNatClampNeg j)))).heap = H.setIfInBounds (base + d) (arrV (cy 12) (gN d) (fun j => .int (va_cpy (M.1 a) (M.1 d) sp.toNatClampNeg dp.toNatClampNeg n.toNatClampNeg j))) := by rw [← hT]; rfl
  obtain ⟨t, a1, b1⟩ := kk _ _ (hws.put (i := d) (obj_spec hd).2 (fun z hz => by funext w; simp [cpy2, hz]) (fun _ _ => rfl) (fun _ _ => rfl) (fun q hq => by simp [Array.getElem?_setIfInBounds, Ne.symm hq]) (by
      unfold reC
      rw [(obj_spec hd).1, if_neg (by omega), if_neg (by omega)]
      rw [Array.getElem?_setIfInBounds]
      simp only [hl, if_true]
      congr 2
      funext z
      simp [cpy2, va_cpy]) (fun z hz => by
      rcases List.mem_append.mp hz with h | h
      · exact Or.inl h
      · obtain ⟨w, -, hw⟩ := List.mem_map.mp h
        rw [← hw]
        exact Or.inr rfl)) _ hheap X'
  exact ⟨t, step t a1, b1⟩
end
end
section
/-! calls -/
theorem Kn.moved {D : va_G} {cy : Nat → ClassId} {s U : State} (hW : s.WarmedH U.vm) (h : Kn D cy s) : Kn D cy U := by
  refine ⟨fun c q hq => u_Kn_moved hW.alike (h.1 c q hq), fun n h1 h2 => ⟨arrOfT_moved hW.alike (h.2.1 n h1 h2).1, (h.2.1 n h1 h2).2.moved hW.alike⟩, fun w hw => ?_⟩
  rcases List.mem_cons.mp hw with rfl | hw2
  · exact va_Nw.warmM hW (h.2.2 _ hw)
  · rw [List.mem_singleton.mp hw2] at hw ⊢
    exact va_Nw.warmM hW (h.2.2 _ hw)
theorem Kn.calling {D : va_G} {cy : Nat → ClassId} {U : State} {g : JFrame} {mk : MethodId} {a : Array Value} (h : Kn D cy U) : Kn D cy (U.calling g mk a) := by
  refine ⟨fun c q hq => u_Kn_moved (u := U) (U := U.calling g mk a) (Vm.Alike.refl U.vm) (h.1 c q hq), fun n h1 h2 => ⟨arrOfT_moved (u := U) (E := U.calling g mk a) (Vm.Alike.refl U.vm) (h.2.1 n h1 h2).1, (h.2.1 n h1 h2).2.moved (u := U) (U := U.calling g mk a) (Vm.Alike.refl U.vm)⟩, fun w hw => ?_⟩
  have hot : w.onTables = true := by
    rcases List.mem_cons.mp hw with rfl | hw2
    · rfl
    · rw [List.mem_singleton.mp hw2]; rfl
  exact va_Nw.same hot (u := U) (U := U.calling g mk a) rfl (h.2.2 w hw)
theorem good_tb {w0 : Cond} (h : w0 ∈ TBg) : GoodIn TBg (w0 :: TBg) := by
  intro w hw
  have hw : w ∈ TBg := by
    rcases List.mem_cons.mp hw with rfl | hw
    · exact h
    · exact hw
  exact ⟨hw, good_of_word (List.mem_filter.mp hw).2⟩
theorem blind_pcx {D : va_G} {cy : Nat → ClassId} {base b : Nat} {As : List Value} {M : AM} : FrameBlind (Pcx D cy base b As M) := fun _ _ _ _ h => ⟨h.1, h.2.1, h.2.2.calling⟩
section
variable {p : Program} {l : Launch} {e : Env} {R : Room} {s : State} {m : MethodId} {args : Array Value} {below : List Frame} {meth : Method} {c : Code} {H : Heap} {locs : List Loc} {cells slots : Nat} {Q : State → Prop}
variable {cc : ByteArray} {pc : Nat} {ls : Array Slot} {rest : List Value} {D : va_G} {cy : Nat → ClassId} {base b : Nat} {H0 : Heap} {M : AM} {own : String}
theorem rw_after {As : List Value} {r : Option Value} {M' : AM} {Av : Array Value} {g : JFrame} (hws : WS D cy base b H0 M H locs) (hr : va_Run p l e R s m args below meth c H locs cells slots 0 0 g rest (Qcx D cy base b r M' Av) (frW base))
    (kk : ∀ (H1 : Heap) (locs1 : List Loc), WS D cy base b H0 M' H1 locs1 → W p l e R s m args below meth c H1 locs1 cells slots Q { g with pc := g.pc + 3, stack := (r.map (cv base b)).toList ++ rest }) : W p l e R s m args below meth c H locs cells slots Q g := by
  intro T hT X
  obtain ⟨v, st₀, t, T', L, h0, X', hL, e1, e2, ⟨hv, hR, hfr⟩, st⟩ := hr T hT X
  cases hv
  have hw : WS D cy base b H0 M' T'.heap (locs ++ L) := by
    refine ⟨by rw [e1]; exact hR, fun q hq => ?_, fun z hz => ?_⟩
    · rw [e1, hfr q hq, h0]
      exact hws.2.1 q hq
    · rcases List.mem_append.mp hz with h | h
      · exact hws.2.2 z h
      · exact hL z h
  obtain ⟨t2, a1, b1⟩ := kk T'.heap (locs ++ L) hw T' rfl X'
  exact ⟨t2, st t2 a1, b1⟩
theorem rw_callV (hx : p.tables.exec = Jvm.exec) (hb : c.code = cc) (hml : c.maxLocals = ls.size) (hts : ∀ w ∈ TBg, w.before args s = true) (hcf : CF) (hown : s.vm.findClass own = some m.cls) (hK : Kn D cy s) (hws : WS D cy base b H0 M H locs) (hcs : cells ≤ R.cells ∧ slots ≤ R.slots) {idx k9 n : Nat} {Df : DT} (hco : CO l R own idx (0, k9, n, Df))
    {a : Nat} {As : List Value} (ho : obj k9 a = true) (hn : As.length + 1 = n) {r : Option Value} {M' : AM} (hD : Df (.ref a :: As) M = some (r, M')) (hcat : (rest.map fun v => v.category).sum ≤ 8) (hdg : decode cc pc = .ok (.invokevirtual idx, 3))
    (kk : ∀ (H1 : Heap) (locs1 : List Loc), WS D cy base b H0 M' H1 locs1 → W p l e R s m args below meth c H1 locs1 cells slots Q (F0 m (pc + 3) ls ((r.map (cv base b)).toList ++ rest))) :
    W p l e R s m args below meth c H locs cells slots Q (F0 m pc ls ((As.map (cv base b)).reverse ++ .ref (adr base b a) :: rest)) := by
  obtain ⟨y, yc, maxL, ret, rm, q, hCt, ⟨hrc, hrs, hR⟩, hcode, hini, hlink, ⟨hd1, hd2, hd3⟩, hinst, hq, hsel⟩ := hco
  obtain ⟨hadr, cell, q1, q2, q3, q4⟩ := rep_obj hws hcf hq ho
  obtain ⟨hS, hfc, kC, hkC, hkind⟩ := hK.1 k9 q hq
  have hlen : (parseMethodDescriptor y.desc).map (fun d => d.parameters.length) = some As.length := by
    cases hp : parseMethodDescriptor y.desc with
    | none => rw [hp] at hd3; cases hd3
    | some d =>
      rw [hp] at hd3
      simp only [Option.map_some, Option.some.injEq] at hd3 ⊢
      omega
  refine rw_after (As := .ref a :: As) hws (va_runV (Ts := TBg) (own := own) (C := q.1) (b := adr base b a) (As := As.map (cv base b)) (rest := rest) (n := As.length) ⟨hx, hb, hml, hown, hts⟩ (hCt D cy base b (.ref a :: As) M r M' hD) ⟨callB_of As.length hts (good_tb hcode) rfl hrc hrs (hts _ hini) (hts _ hlink) ⟨hd1, hd2, hlen⟩ hR, hts _ hinst, hts _ hsel⟩
    ⟨blind_pcx, ⟨cell, by rw [hadr]; exact q1, by rw [q3]; rfl, by rw [q2]; exact hfc⟩, fun U hU hW => ⟨rfl, by rw [hU]; exact hws.1, hK.moved hW⟩⟩ rfl (by simp) rfl rfl (lv_room hcat) hdg hcs) kk
theorem rw_callS (hx : p.tables.exec = Jvm.exec) (hb : c.code = cc) (hml : c.maxLocals = ls.size) (hts : ∀ w ∈ TBg, w.before args s = true) (hown : s.vm.findClass own = some m.cls) (hK : Kn D cy s) (hws : WS D cy base b H0 M H locs) (hcs : cells ≤ R.cells ∧ slots ≤ R.slots) {idx k9 n : Nat} {Df : DT} (hco : CO l R own idx (1, k9, n, Df))
    {As : List Value} (hn : As.length = n) {r : Option Value} {M' : AM} (hD : Df As M = some (r, M')) (hcat : (rest.map fun v => v.category).sum ≤ 8) (hdg : decode cc pc = .ok (.invokestatic idx, 3))
    (kk : ∀ (H1 : Heap) (locs1 : List Loc), WS D cy base b H0 M' H1 locs1 → W p l e R s m args below meth c H1 locs1 cells slots Q (F0 m (pc + 3) ls ((r.map (cv base b)).toList ++ rest))) :
    W p l e R s m args below meth c H locs cells slots Q (F0 m pc ls ((As.map (cv base b)).reverse ++ rest)) := by
  obtain ⟨y, yc, maxL, ret, rm, hCt, ⟨hrc, hrs, hR⟩, hcode, hini, hlink, ⟨hd1, hd2, hd3⟩, hstat⟩ := hco
  subst hn
  have hp : PreS s H (Pcx D cy base b As M) (As.map (cv base b)) := ⟨blind_pcx, fun U hU hW => ⟨rfl, by rw [hU]; exact hws.1, hK.moved hW⟩⟩
  rcases hlink with hlink | ⟨host, hlink⟩
  · exact rw_after (As := As) hws (va_runS (Ts := TBg) (own := own) (As := As.map (cv base b)) (rest := rest) (n := As.length) ⟨hx, hb, hml, hown, hts⟩ (hCt D cy base b As M r M' hD) ⟨callB_of As.length hts (good_tb hcode) rfl hrc hrs (hts _ hini) (hts _ hlink) ⟨hd1, hd2, hd3⟩ hR, hts _ hstat⟩ hp rfl (by simp) rfl rfl (lv_room hcat) hdg hcs) kk
  · exact rw_after (As := As) hws (va_runSN (Ts := TBg) (own := own) (host := host) (As := As.map (cv base b)) (rest := rest) (n := As.length) ⟨hx, hb, hml, hown, hts⟩ (hCt D cy base b As M r M' hD) ⟨va_cnB As.length hts (good_tb hcode) rfl hrc hrs (hK.2.2 _ hlink) (hts _ hini) ⟨hd1, hd2, hd3⟩ hR, hts _ hstat, trivial⟩ hp rfl (by simp) rfl rfl (lv_room hcat) hdg hcs) kk
end
end
section
/-! one instruction, sound -/
def retT (n : Nat) : Option FieldType := match n with
  | 1 => some .int
  | 2 => some .long
  | 3 => some .boolean
  | _ => none
theorem beq_sp {a b : Nat} (h : Nat.beq a b = true) : a = b := Nat.eq_of_beq_eq_true h
theorem blt_sp {a b : Nat} (h : Nat.blt a b = true) : a < b := by
  simp only [Nat.blt, Nat.ble_eq] at h
  exact h
theorem tgt_sp {pc : Nat} {o : Int} (h : 0 ≤ (pc : Int) + o) : (pc : Int) + o = ((tgt pc o : Nat) : Int) := by
  unfold tgt
  omega
theorem swT_some {α : Type} {k : Nat → Option α} {x : Int32} {pc : Nat} {d : Int} {r : α} : ∀ {os : List Int} {lo : Int}, swT k x pc d lo os = some r → swTok pc lo os = true →
    (∃ (i : Nat) (o : Int), os[i]? = some o ∧ x.toInt = lo + i ∧ 0 ≤ (pc : Int) + o ∧ k (tgt pc o) = some r) ∨ ((x.toInt < lo ∨ lo + os.length - 1 < x.toInt) ∧ k (tgt pc d) = some r)
  | [], lo, h, _ => by
    refine Or.inr ⟨?_, h⟩
    simp only [List.length_nil]
    omega
  | o :: os, lo, h, hok => by
    unfold swT at h
    unfold swTok at hok
    rw [Bool.and_eq_true, Bool.and_eq_true, decide_eq_true_eq, decide_eq_true_eq] at hok
    by_cases hx : x = cI lo
    · rw [ifc_t hx] at h
      refine Or.inl ⟨0, o, rfl, ?_, hok.1.1, h⟩
      rw [hx, hok.1.2]
      simp
    · rw [ifc_f hx] at h
      rcases swT_some h hok.2 with ⟨i, o2, h1, h2, h3, h4⟩ | ⟨h1, h2⟩
      · exact Or.inl ⟨i + 1, o2, h1, by rw [h2]; omega, h3, h4⟩
      · refine Or.inr ⟨?_, h2⟩
        have hne : x.toInt ≠ lo := fun q => hx (Int32.toInt_inj.mp (by rw [hok.1.2]; exact q))
        simp only [List.length_cons]
        omega
theorem swL_some {α : Type} {k : Nat → Option α} {x : Int32} {pc : Nat} {d : Int} {r : α} : ∀ {ps : List (Int × Int)}, swL k x pc d ps = some r → swLok pc ps = true → 0 ≤ (pc : Int) + d →
    ∃ o, Op.lookupswitch.offset ps d x.toInt = o ∧ 0 ≤ (pc : Int) + o ∧ k (tgt pc o) = some r
  | [], h, _, hd => ⟨d, rfl, hd, h⟩
  | q :: ps, h, hok, hd => by
    unfold swL at h
    unfold swLok at hok
    rw [Bool.and_eq_true, Bool.and_eq_true, decide_eq_true_eq, decide_eq_true_eq] at hok
    by_cases hx : x = cI q.1
    · rw [ifc_t hx] at h
      refine ⟨q.2, ?_, hok.1.1, h⟩
      rw [Op.lookupswitch.offset_cons, if_pos]
      rw [hx, hok.1.2]
    · rw [ifc_f hx] at h
      obtain ⟨o, h1, h2, h3⟩ := swL_some h hok.2 hd
      refine ⟨o, ?_, h2, h3⟩
      rw [Op.lookupswitch.offset_cons, if_neg]
      · exact h1
      · intro z
        exact hx (Int32.toInt_inj.mp (by rw [hok.1.2]; exact z.symm))
theorem crV_some {α : Type} {o : Option (Option Value × AM)} {M : AM} {f : (Nat → Nat → Int32) → (Nat → Nat → Int64) → Option α} {r : α} (h : crV o M f = some r) : ∃ i l, o = some (none, (i, l, M.2.2)) ∧ f i l = some r := by
  unfold crV at h
  split at h
  · rename_i M'
    by_cases e : M'.2.2 = M.2.2
    · rw [if_pos e] at h
      exact ⟨M'.1, M'.2.1, by rw [← e], h⟩
    · rw [if_neg e] at h; cases h
  · cases h
theorem crI_some {α : Type} {o : Option (Option Value × AM)} {M : AM} {f : Int32 → (Nat → Nat → Int32) → (Nat → Nat → Int64) → Option α} {r : α} (h : crI o M f = some r) : ∃ x i l, o = some (some (.int x), (i, l, M.2.2)) ∧ f x i l = some r := by
  unfold crI at h
  split at h
  · rename_i x M'
    by_cases e : M'.2.2 = M.2.2
    · rw [if_pos e] at h
      exact ⟨x, M'.1, M'.2.1, by rw [← e], h⟩
    · rw [if_neg e] at h; cases h
  · cases h
theorem crL_some {α : Type} {o : Option (Option Value × AM)} {M : AM} {f : Int64 → (Nat → Nat → Int32) → (Nat → Nat → Int64) → Option α} {r : α} (h : crL o M f = some r) : ∃ x i l, o = some (some (.long x), (i, l, M.2.2)) ∧ f x i l = some r := by
  unfold crL at h
  split at h
  · rename_i x M'
    by_cases e : M'.2.2 = M.2.2
    · rw [if_pos e] at h
      exact ⟨x, M'.1, M'.2.1, by rw [← e], h⟩
    · rw [if_neg e] at h; cases h
  · cases h
theorem rpOf_some {Rr : Nat → Nat → Option Nat} {q : Nat × Nat × Nat} (h : rpOf Rr = some q) : Rr = Rp q.1 q.2.1 q.2.2 := by
  unfold rpOf at h
  split at h
  · rename_i hx
    cases h
    exact hx.choose_spec
  · cases h
theorem cmV_some {α : Type} {o : Option (Option Value × AM)} {f : (Nat → Nat → Int32) → (Nat → Nat → Int64) → Nat → Nat → Nat → Option α} {r : α} (h : cmV o f = some r) : ∃ i l a b d, o = some (none, (i, l, Rp a b d)) ∧ f i l a b d = some r := by
  unfold cmV at h
  split at h
  · rename_i M'
    split at h
    · rename_i q hq
      exact ⟨M'.1, M'.2.1, q.1, q.2.1, q.2.2, by rw [← rpOf_some hq], h⟩
    · cases h
  · cases h
theorem cmI_some {α : Type} {o : Option (Option Value × AM)} {f : Int32 → (Nat → Nat → Int32) → (Nat → Nat → Int64) → Nat → Nat → Nat → Option α} {r : α} (h : cmI o f = some r) : ∃ x i l a b d, o = some (some (.int x), (i, l, Rp a b d)) ∧ f x i l a b d = some r := by
  unfold cmI at h
  split at h
  · rename_i x M'
    split at h
    · rename_i q hq
      exact ⟨x, M'.1, M'.2.1, q.1, q.2.1, q.2.2, by rw [← rpOf_some hq], h⟩
    · cases h
  · cases h
theorem f4_some {α : Type} {n : Nat} {x1 x2 x3 x0 : Option α} {r : α} (h : f4 n x1 x2 x3 x0 = some r) : (n = 1 ∧ x1 = some r) ∨ (n = 2 ∧ x2 = some r) ∨ (n = 3 ∧ x3 = some r) ∨ ((n ≠ 1 ∧ n ≠ 2 ∧ n ≠ 3) ∧ x0 = some r) := by
  unfold f4 at h
  split at h
  · exact Or.inl ⟨rfl, h⟩
  · exact Or.inr (Or.inl ⟨rfl, h⟩)
  · exact Or.inr (Or.inr (Or.inl ⟨rfl, h⟩))
  · rename_i h1 h2 h3
    exact Or.inr (Or.inr (Or.inr ⟨⟨h1, h2, h3⟩, h⟩))
theorem fV_1 {base b : Nat} {M : AM} {a k c : Nat} (hg : gK a = c) (h : fk c k = 1) : fV base b M a k = .long (M.2.1 a k) := by
  unfold fV; rw [hg, h]; rfl
theorem fV_2 {base b : Nat} {M : AM} {a k c : Nat} (hg : gK a = c) (h : fk c k = 2) : fV base b M a k = va_rf ((M.2.2 a k).map (adr base b)) := by
  unfold fV; rw [hg, h]; rfl
theorem fV_0 {base b : Nat} {M : AM} {a k c : Nat} (hg : gK a = c) (h1 : fk c k ≠ 1) (h2 : fk c k ≠ 2) : fV base b M a k = .int (M.1 a k) := by
  unfold fV
  rw [hg]
  split
  · rename_i h; exact absurd h h1
  · rename_i h; exact absurd h h2
  · rfl
theorem fV_putI {base b : Nat} {M : AM} {a k c : Nat} {x : Int32} (hg : gK a = c) (h1 : fk c k ≠ 1) (h2 : fk c k ≠ 2) (j : Nat) : updV (fV base b M a) k (.int x) j = fV base b (u2 M.1 a k x, M.2.1, M.2.2) a j := by
  unfold updV
  by_cases hj : j = k
  · subst hj
    rw [if_pos rfl, fV_0 hg h1 h2]; dsimp only; rw [u2_at, if_pos rfl]
  · rw [if_neg hj]
    unfold fV
    split <;> first | rfl | (dsimp only; rw [u2_at, if_neg hj])
theorem fV_putL {base b : Nat} {M : AM} {a k c : Nat} {x : Int64} (hg : gK a = c) (h1 : fk c k = 1) (j : Nat) : updV (fV base b M a) k (.long x) j = fV base b (M.1, u2 M.2.1 a k x, M.2.2) a j := by
  unfold updV
  by_cases hj : j = k
  · subst hj
    rw [if_pos rfl, fV_1 hg h1]; dsimp only; rw [u2_at, if_pos rfl]
  · rw [if_neg hj]
    unfold fV
    split <;> first | rfl | (dsimp only; rw [u2_at, if_neg hj])
theorem fV_putR {base b : Nat} {M : AM} {a k c : Nat} {x : Nat} (hg : gK a = c) (h1 : fk c k = 2) (j : Nat) : updV (fV base b M a) k (.ref (adr base b x)) j = fV base b (M.1, M.2.1, u2 M.2.2 a k (some x)) a j := by
  unfold updV
  by_cases hj : j = k
  · subst hj
    rw [if_pos rfl, fV_2 hg h1]; dsimp only; rw [u2_at, if_pos rfl]
    rfl
  · rw [if_neg hj]
    unfold fV
    split <;> first | rfl | (dsimp only; rw [u2_at, if_neg hj])
theorem boolFit {x : Int32} (hB : isB x) : narrow .boolean (.int x) = .int x ∧ fits .boolean (.int x) = true := by
  rcases isB_or hB with h | h
  · rw [h]; exact ⟨by decide, by decide⟩
  · rw [h]; exact ⟨by decide, by decide⟩
theorem take_rev {base b : Nat} {st : List Value} {n : Nat} : ((st.take n).reverse.map (cv base b)).reverse ++ (st.drop n).map (cv base b) = st.map (cv base b) := by
  rw [← List.map_reverse, List.reverse_reverse, ← List.map_append, List.take_append_drop]

section
variable {p : Program} {l : Launch} {e : Env} {R : Room} {s : State} {m : MethodId} {args : Array Value} {below : List Frame} {meth : Method} {c : Code} {H : Heap} {locs : List Loc} {cells slots : Nat} {Qc : Array Value → State → Outcome → State → Prop}
variable {cc : ByteArray} {pc : Nat} {ls : Array Slot} {D : va_G} {cy : Nat → ClassId} {base b : Nat} {H0 : Heap} {M : AM} {own : String}
set_option maxHeartbeats 8000000 in
set_option maxRecDepth 20000 in
theorem i1_ok {α : Type} {C : MC} {k : Nat → LV → List Value → AM → Option α} {rt : Option Value → AM → Option α} {nx : LV → List Value → AM → Option α} {i : Instr} {n h1 h2 : Nat} {lv : LV} {st : List Value} {r : α} {FL : List (Nat × Nat × Nat)} {KI KL : List (Nat × Nat)} {CL : List Nat}
    (hx : p.tables.exec = Jvm.exec) (hb : c.code = cc) (hml : c.maxLocals = C.1) (hret : meth.sig.returnType = retT C.2.1) (hlocks : meth.locks = false) (hts : ∀ w ∈ TBg, w.before args s = true) (hcf : CF) (hown : s.vm.findClass own = some m.cls) (hK : Kn D cy s) (hcs : cells ≤ R.cells ∧ slots ≤ R.slots)
    (hFL : ∀ q ∈ FL, FO own q.1 q.2.1 q.2.2) (hKI : ∀ q ∈ KI, Cond.constant own q.1 (nI q.2) ∈ TBg) (hKL : ∀ q ∈ KL, Cond.constantLong own q.1 (lN q.2) ∈ TBg) (hCL : ∀ (j : Nat) (cal : Cal) (idx : Nat), C.2.2.1[j]? = some cal → CL[j]? = some idx → CO l R own idx cal)
    (hX : ∀ q, C.2.2.2.2 = some q → b < base ∧ va_X b q.1 q.2 s H0)
    (hd : decode cc pc = .ok (i, n)) (he : eC FL KI KL CL pc (i, n, h1, h2) = true) (h : i1 C k rt nx pc i h1 h2 lv st M = some r) (hws : WS D cy base b H0 M H locs) (hl : lv_has ls C.1 (lv.map (cp base b)))
    (hnx : ∀ (lv' : LV) (st' : List Value) (M' : AM) (H' : Heap) (locs' : List Loc) (ls' : Array Slot), nx lv' st' M' = some r → WS D cy base b H0 M' H' locs' → lv_has ls' C.1 (lv'.map (cp base b)) → W p l e R s m args below meth c H' locs' cells slots (MQ below Qc args s cells slots (frW base)) (F0 m (pc + n) ls' (st'.map (cv base b))))
    (hk : ∀ (pc' : Nat) (lv' : LV) (st' : List Value) (M' : AM) (H' : Heap) (locs' : List Loc) (ls' : Array Slot), k pc' lv' st' M' = some r → WS D cy base b H0 M' H' locs' → lv_has ls' C.1 (lv'.map (cp base b)) → W p l e R s m args below meth c H' locs' cells slots (MQ below Qc args s cells slots (frW base)) (F0 m pc' ls' (st'.map (cv base b))))
    (hrt : ∀ (v : Option Value) (M' : AM) (H' : Heap) (locs' : List Loc) (t : State), rt v M' = some r → WS D cy base b H0 M' H' locs' → t.heap = H' → s.WarmedH t.vm → Qc args s (.returned (v.map (cv base b))) t) :
    W p l e R s m args below meth c H locs cells slots (MQ below Qc args s cells slots (frW base)) (F0 m pc ls (st.map (cv base b))) := by
  cases i
  case iconst z => 
    simp only [i1] at h
    simp only [eC, Bool.and_eq_true, decide_eq_true_eq] at he
    obtain rfl := beq_sp he.2
    exact lv_iconst hx hb hd he.1 (hnx _ _ _ _ _ _ h hws hl)
  case bipush z => 
    simp only [i1] at h
    simp only [eC, Bool.and_eq_true, decide_eq_true_eq] at he
    obtain rfl := beq_sp he.2
    exact lv_bipush hx hb hd he.1 (hnx _ _ _ _ _ _ h hws hl)
  case sipush z => 
    simp only [i1] at h
    simp only [eC, Bool.and_eq_true, decide_eq_true_eq] at he
    obtain rfl := beq_sp he.2
    exact lv_sipush hx hb hd he.1 (hnx _ _ _ _ _ _ h hws hl)
  case lconst z => 
    simp only [i1] at h
    obtain rfl : n = 1 := beq_sp he
    exact lv_lconst hx hb hd rfl (hnx _ _ _ _ _ _ h hws hl)
  case ldc z => 
    simp only [i1] at h
    simp only [eC, Bool.and_eq_true] at he
    obtain rfl := beq_sp he.2
    exact lv_ldc hx hb hown (hts _ (hKI _ (List.contains_iff_mem.mp he.1))) hd (hnx _ _ _ _ _ _ h hws hl)
  case ldc_w z => 
    simp only [i1] at h
    simp only [eC, Bool.and_eq_true] at he
    obtain rfl := beq_sp he.2
    exact lv_ldcw hx hb hown (hts _ (hKI _ (List.contains_iff_mem.mp he.1))) hd (hnx _ _ _ _ _ _ h hws hl)
  case ldc2_w z => 
    simp only [i1] at h
    simp only [eC, Bool.and_eq_true] at he
    obtain rfl := beq_sp he.2
    exact lv_ldc2 hx hb hown (hts _ (hKL _ (List.contains_iff_mem.mp he.1))) hd (hnx _ _ _ _ _ _ h hws hl)
  case iload_n z => 
    simp only [i1] at h
    obtain rfl : n = 1 := beq_sp he
    obtain ⟨v, hv, hg9⟩ := getL_some h
    clear h
    have h := hg9
    clear hg9
    obtain ⟨x, hr9, hg9⟩ := asI_some h
    clear h
    have h := hg9
    clear hg9
    subst hr9
    exact lv_iload_n hx hb hd rfl (lk_has hl hv) (hnx _ _ _ _ _ _ h hws hl)
  case iload z => 
    simp only [i1] at h
    obtain rfl : n = 2 := beq_sp he
    obtain ⟨v, hv, hg9⟩ := getL_some h
    clear h
    have h := hg9
    clear hg9
    obtain ⟨x, hr9, hg9⟩ := asI_some h
    clear h
    have h := hg9
    clear hg9
    subst hr9
    exact lv_iload hx hb hd (lk_has hl hv) (hnx _ _ _ _ _ _ h hws hl)
  case lload_n z => 
    simp only [i1] at h
    obtain rfl : n = 1 := beq_sp he
    obtain ⟨v, hv, hg9⟩ := getL_some h
    clear h
    have h := hg9
    clear hg9
    obtain ⟨x, hr9, hg9⟩ := asL_some h
    clear h
    have h := hg9
    clear hg9
    subst hr9
    exact lv_lload_n hx hb hd rfl (lk_has hl hv) (hnx _ _ _ _ _ _ h hws hl)
  case lload z => 
    simp only [i1] at h
    obtain rfl : n = 2 := beq_sp he
    obtain ⟨v, hv, hg9⟩ := getL_some h
    clear h
    have h := hg9
    clear hg9
    obtain ⟨x, hr9, hg9⟩ := asL_some h
    clear h
    have h := hg9
    clear hg9
    subst hr9
    exact lv_lload hx hb hd (lk_has hl hv) (hnx _ _ _ _ _ _ h hws hl)
  case aload_n z => 
    simp only [i1] at h
    obtain rfl : n = 1 := beq_sp he
    obtain ⟨v, hv, hg9⟩ := getL_some h
    clear h
    have h := hg9
    clear hg9
    obtain ⟨x, hr9, hg9⟩ := asR_some h
    clear h
    have h := hg9
    clear hg9
    subst hr9
    exact lv_aload_n hx hb hd rfl (lk_has hl hv) (hnx _ _ _ _ _ _ h hws hl)
  case aload z => 
    simp only [i1] at h
    obtain rfl : n = 2 := beq_sp he
    obtain ⟨v, hv, hg9⟩ := getL_some h
    clear h
    have h := hg9
    clear hg9
    obtain ⟨x, hr9, hg9⟩ := asR_some h
    clear h
    have h := hg9
    clear hg9
    subst hr9
    exact lv_aload hx hb hd (lk_has hl hv) (hnx _ _ _ _ _ _ h hws hl)
  case istore_n z => 
    simp only [i1] at h
    obtain rfl : n = 1 := beq_sp he
    obtain ⟨x, st1, hs, hg9⟩ := popI_some h
    clear h
    have h := hg9
    clear hg9
    subst hs
    rename List Value => st
    obtain ⟨hz, hg9⟩ := gk_some h
    clear h
    have h := hg9
    clear hg9
    exact lv_istore_n hx hb hd rfl hl (blt_sp hz) (st1_cp lv z.val (.int x)) (fun ls' hl' => hnx _ _ _ _ _ _ h hws hl')
  case istore z => 
    simp only [i1] at h
    obtain rfl : n = 2 := beq_sp he
    obtain ⟨x, st1, hs, hg9⟩ := popI_some h
    clear h
    have h := hg9
    clear hg9
    subst hs
    rename List Value => st
    obtain ⟨hz, hg9⟩ := gk_some h
    clear h
    have h := hg9
    clear hg9
    exact lv_istore hx hb hd hl (blt_sp hz) (st1_cp lv z (.int x)) (fun ls' hl' => hnx _ _ _ _ _ _ h hws hl')
  case astore_n z => 
    simp only [i1] at h
    obtain rfl : n = 1 := beq_sp he
    obtain ⟨x, st1, hs, hg9⟩ := popR_some h
    clear h
    have h := hg9
    clear hg9
    subst hs
    rename List Value => st
    obtain ⟨hz, hg9⟩ := gk_some h
    clear h
    have h := hg9
    clear hg9
    exact lv_astore_n hx hb hd rfl hl (blt_sp hz) (st1_cp lv z.val (.ref x)) (fun ls' hl' => hnx _ _ _ _ _ _ h hws hl')
  case astore z => 
    simp only [i1] at h
    obtain rfl : n = 2 := beq_sp he
    obtain ⟨x, st1, hs, hg9⟩ := popR_some h
    clear h
    have h := hg9
    clear hg9
    subst hs
    rename List Value => st
    obtain ⟨hz, hg9⟩ := gk_some h
    clear h
    have h := hg9
    clear hg9
    exact lv_astore hx hb hd hl (blt_sp hz) (st1_cp lv z (.ref x)) (fun ls' hl' => hnx _ _ _ _ _ _ h hws hl')
  case lstore_n z => 
    simp only [i1] at h
    obtain rfl : n = 1 := beq_sp he
    obtain ⟨x, st1, hs, hg9⟩ := popL_some h
    clear h
    have h := hg9
    clear hg9
    subst hs
    rename List Value => st
    obtain ⟨hz, hg9⟩ := gk_some h
    clear h
    have h := hg9
    clear hg9
    exact lv_lstore_n hx hb hd rfl hl (blt_sp hz) (st2_cp lv z.val (.long x)) (fun ls' hl' => hnx _ _ _ _ _ _ h hws hl')
  case lstore z => 
    simp only [i1] at h
    obtain rfl : n = 2 := beq_sp he
    obtain ⟨x, st1, hs, hg9⟩ := popL_some h
    clear h
    have h := hg9
    clear hg9
    subst hs
    rename List Value => st
    obtain ⟨hz, hg9⟩ := gk_some h
    clear h
    have h := hg9
    clear hg9
    exact lv_lstore hx hb hd hl (blt_sp hz) (st2_cp lv z (.long x)) (fun ls' hl' => hnx _ _ _ _ _ _ h hws hl')
  case iinc z y => 
    simp only [i1] at h
    simp only [eC, Bool.and_eq_true, decide_eq_true_eq] at he
    obtain rfl := beq_sp he.2
    obtain ⟨v, hv, hg9⟩ := getL_some h
    clear h
    have h := hg9
    clear hg9
    obtain ⟨x, hr9, hg9⟩ := asI_some h
    clear h
    have h := hg9
    clear hg9
    subst hr9
    obtain ⟨hz, hg9⟩ := gk_some h
    clear h
    have h := hg9
    clear hg9
    obtain ⟨j, hj⟩ := List.getElem?_of_mem (lk_mem hv)
    exact lv_iinc (k := j) (x := x) hx hb hd hl (by rw [List.getElem?_map, hj]; rfl) (by rw [he.1]) (blt_sp hz) (st1_cp lv z (.int (x + cI y))) (fun ls' hl' => hnx _ _ _ _ _ _ h hws hl')
  case iadd => 
    simp only [i1] at h
    obtain rfl : n = 1 := beq_sp he
    obtain ⟨y, st1, hs, hg9⟩ := popI_some h
    clear h
    have h := hg9
    clear hg9
    subst hs
    rename List Value => st
    obtain ⟨x, st1, hs, hg9⟩ := popI_some h
    clear h
    have h := hg9
    clear hg9
    subst hs
    rename List Value => st
    exact lv_iadd hx hb hd (hnx _ _ _ _ _ _ h hws hl)
  case isub => 
    simp only [i1] at h
    obtain rfl : n = 1 := beq_sp he
    obtain ⟨y, st1, hs, hg9⟩ := popI_some h
    clear h
    have h := hg9
    clear hg9
    subst hs
    rename List Value => st
    obtain ⟨x, st1, hs, hg9⟩ := popI_some h
    clear h
    have h := hg9
    clear hg9
    subst hs
    rename List Value => st
    exact lv_isub hx hb hd (hnx _ _ _ _ _ _ h hws hl)
  case imul => 
    simp only [i1] at h
    obtain rfl : n = 1 := beq_sp he
    obtain ⟨y, st1, hs, hg9⟩ := popI_some h
    clear h
    have h := hg9
    clear hg9
    subst hs
    rename List Value => st
    obtain ⟨x, st1, hs, hg9⟩ := popI_some h
    clear h
    have h := hg9
    clear hg9
    subst hs
    rename List Value => st
    exact lv_imul hx hb hd (hnx _ _ _ _ _ _ h hws hl)
  case iand => 
    simp only [i1] at h
    obtain rfl : n = 1 := beq_sp he
    obtain ⟨y, st1, hs, hg9⟩ := popI_some h
    clear h
    have h := hg9
    clear hg9
    subst hs
    rename List Value => st
    obtain ⟨x, st1, hs, hg9⟩ := popI_some h
    clear h
    have h := hg9
    clear hg9
    subst hs
    rename List Value => st
    exact lv_iand hx hb hd (hnx _ _ _ _ _ _ h hws hl)
  case ior => 
    simp only [i1] at h
    obtain rfl : n = 1 := beq_sp he
    obtain ⟨y, st1, hs, hg9⟩ := popI_some h
    clear h
    have h := hg9
    clear hg9
    subst hs
    rename List Value => st
    obtain ⟨x, st1, hs, hg9⟩ := popI_some h
    clear h
    have h := hg9
    clear hg9
    subst hs
    rename List Value => st
    exact lv_ior hx hb hd (hnx _ _ _ _ _ _ h hws hl)
  case ixor => 
    simp only [i1] at h
    obtain rfl : n = 1 := beq_sp he
    obtain ⟨y, st1, hs, hg9⟩ := popI_some h
    clear h
    have h := hg9
    clear hg9
    subst hs
    rename List Value => st
    obtain ⟨x, st1, hs, hg9⟩ := popI_some h
    clear h
    have h := hg9
    clear hg9
    subst hs
    rename List Value => st
    exact lv_ixor hx hb hd (hnx _ _ _ _ _ _ h hws hl)
  case ishl => 
    simp only [i1] at h
    obtain rfl : n = 1 := beq_sp he
    obtain ⟨y, st1, hs, hg9⟩ := popI_some h
    clear h
    have h := hg9
    clear hg9
    subst hs
    rename List Value => st
    obtain ⟨x, st1, hs, hg9⟩ := popI_some h
    clear h
    have h := hg9
    clear hg9
    subst hs
    rename List Value => st
    exact lv_ishl hx hb hd (hnx _ _ _ _ _ _ h hws hl)
  case ishr => 
    simp only [i1] at h
    obtain rfl : n = 1 := beq_sp he
    obtain ⟨y, st1, hs, hg9⟩ := popI_some h
    clear h
    have h := hg9
    clear hg9
    subst hs
    rename List Value => st
    obtain ⟨x, st1, hs, hg9⟩ := popI_some h
    clear h
    have h := hg9
    clear hg9
    subst hs
    rename List Value => st
    exact lv_ishr hx hb hd (hnx _ _ _ _ _ _ h hws hl)
  case iushr => 
    simp only [i1] at h
    obtain rfl : n = 1 := beq_sp he
    obtain ⟨y, st1, hs, hg9⟩ := popI_some h
    clear h
    have h := hg9
    clear hg9
    subst hs
    rename List Value => st
    obtain ⟨x, st1, hs, hg9⟩ := popI_some h
    clear h
    have h := hg9
    clear hg9
    subst hs
    rename List Value => st
    exact lv_iushr hx hb hd rfl (hnx _ _ _ _ _ _ h hws hl)
  case idiv => 
    simp only [i1] at h
    obtain rfl : n = 1 := beq_sp he
    obtain ⟨y, st1, hs, hg9⟩ := popI_some h
    clear h
    have h := hg9
    clear hg9
    subst hs
    rename List Value => st
    obtain ⟨x, st1, hs, hg9⟩ := popI_some h
    clear h
    have h := hg9
    clear hg9
    subst hs
    rename List Value => st
    obtain ⟨hy, hg9⟩ := gd_some h
    clear h
    have h := hg9
    clear hg9
    exact lv_idiv hx hb hd hy (hnx _ _ _ _ _ _ h hws hl)
  case irem => 
    simp only [i1] at h
    obtain rfl : n = 1 := beq_sp he
    obtain ⟨y, st1, hs, hg9⟩ := popI_some h
    clear h
    have h := hg9
    clear hg9
    subst hs
    rename List Value => st
    obtain ⟨x, st1, hs, hg9⟩ := popI_some h
    clear h
    have h := hg9
    clear hg9
    subst hs
    rename List Value => st
    obtain ⟨hy, hg9⟩ := gd_some h
    clear h
    have h := hg9
    clear hg9
    exact lv_irem hx hb hd hy (hnx _ _ _ _ _ _ h hws hl)
  case ladd => 
    simp only [i1] at h
    obtain rfl : n = 1 := beq_sp he
    obtain ⟨y, st1, hs, hg9⟩ := popL_some h
    clear h
    have h := hg9
    clear hg9
    subst hs
    rename List Value => st
    obtain ⟨x, st1, hs, hg9⟩ := popL_some h
    clear h
    have h := hg9
    clear hg9
    subst hs
    rename List Value => st
    exact lv_ladd hx hb hd (hnx _ _ _ _ _ _ h hws hl)
  case lsub => 
    simp only [i1] at h
    obtain rfl : n = 1 := beq_sp he
    obtain ⟨y, st1, hs, hg9⟩ := popL_some h
    clear h
    have h := hg9
    clear hg9
    subst hs
    rename List Value => st
    obtain ⟨x, st1, hs, hg9⟩ := popL_some h
    clear h
    have h := hg9
    clear hg9
    subst hs
    rename List Value => st
    exact lv_lsub hx hb hd (hnx _ _ _ _ _ _ h hws hl)
  case lmul => 
    simp only [i1] at h
    obtain rfl : n = 1 := beq_sp he
    obtain ⟨y, st1, hs, hg9⟩ := popL_some h
    clear h
    have h := hg9
    clear hg9
    subst hs
    rename List Value => st
    obtain ⟨x, st1, hs, hg9⟩ := popL_some h
    clear h
    have h := hg9
    clear hg9
    subst hs
    rename List Value => st
    exact lv_lmul hx hb hd (hnx _ _ _ _ _ _ h hws hl)
  case land => 
    simp only [i1] at h
    obtain rfl : n = 1 := beq_sp he
    obtain ⟨y, st1, hs, hg9⟩ := popL_some h
    clear h
    have h := hg9
    clear hg9
    subst hs
    rename List Value => st
    obtain ⟨x, st1, hs, hg9⟩ := popL_some h
    clear h
    have h := hg9
    clear hg9
    subst hs
    rename List Value => st
    exact lv_land hx hb hd (hnx _ _ _ _ _ _ h hws hl)
  case ldiv => 
    simp only [i1] at h
    obtain rfl : n = 1 := beq_sp he
    obtain ⟨y, st1, hs, hg9⟩ := popL_some h
    clear h
    have h := hg9
    clear hg9
    subst hs
    rename List Value => st
    obtain ⟨x, st1, hs, hg9⟩ := popL_some h
    clear h
    have h := hg9
    clear hg9
    subst hs
    rename List Value => st
    obtain ⟨hy, hg9⟩ := gd_some h
    clear h
    have h := hg9
    clear hg9
    exact lv_ldiv hx hb hd hy (hnx _ _ _ _ _ _ h hws hl)
  case lrem => 
    simp only [i1] at h
    obtain rfl : n = 1 := beq_sp he
    obtain ⟨y, st1, hs, hg9⟩ := popL_some h
    clear h
    have h := hg9
    clear hg9
    subst hs
    rename List Value => st
    obtain ⟨x, st1, hs, hg9⟩ := popL_some h
    clear h
    have h := hg9
    clear hg9
    subst hs
    rename List Value => st
    obtain ⟨hy, hg9⟩ := gd_some h
    clear h
    have h := hg9
    clear hg9
    exact lv_lrem hx hb hd hy (hnx _ _ _ _ _ _ h hws hl)
  case lneg => 
    simp only [i1] at h
    obtain rfl : n = 1 := beq_sp he
    obtain ⟨x, st1, hs, hg9⟩ := popL_some h
    clear h
    have h := hg9
    clear hg9
    subst hs
    rename List Value => st
    exact lv_lneg hx hb hd (hnx _ _ _ _ _ _ h hws hl)
  case lcmp => 
    simp only [i1] at h
    obtain rfl : n = 1 := beq_sp he
    obtain ⟨y, st1, hs, hg9⟩ := popL_some h
    clear h
    have h := hg9
    clear hg9
    subst hs
    rename List Value => st
    obtain ⟨x, st1, hs, hg9⟩ := popL_some h
    clear h
    have h := hg9
    clear hg9
    subst hs
    rename List Value => st
    exact W.lcmp hx hb hd (hnx _ _ _ _ _ _ h hws hl)
  case i2l => 
    simp only [i1] at h
    obtain rfl : n = 1 := beq_sp he
    obtain ⟨x, st1, hs, hg9⟩ := popI_some h
    clear h
    have h := hg9
    clear hg9
    subst hs
    rename List Value => st
    exact lv_i2l hx hb hd rfl (hnx _ _ _ _ _ _ h hws hl)
  case l2i => 
    simp only [i1] at h
    obtain rfl : n = 1 := beq_sp he
    obtain ⟨x, st1, hs, hg9⟩ := popL_some h
    clear h
    have h := hg9
    clear hg9
    subst hs
    rename List Value => st
    exact lv_l2i hx hb hd rfl (hnx _ _ _ _ _ _ h hws hl)
  case i2b => 
    simp only [i1] at h
    obtain rfl : n = 1 := beq_sp he
    obtain ⟨x, st1, hs, hg9⟩ := popI_some h
    clear h
    have h := hg9
    clear hg9
    subst hs
    rename List Value => st
    exact lv_i2b hx hb hd rfl (hnx _ _ _ _ _ _ h hws hl)
  case dup => 
    simp only [i1] at h
    obtain rfl : n = 1 := beq_sp he
    split at h
    · obtain ⟨hz, hg9⟩ := gk_some h
      clear h
      have h := hg9
      clear hg9
      exact lv_dup hx hb hd (by rw [cv_cat]; exact beq_sp hz) (hnx _ _ _ _ _ _ h hws hl)
    · cases h
  case pop => 
    simp only [i1] at h
    obtain rfl : n = 1 := beq_sp he
    split at h
    · obtain ⟨hz, hg9⟩ := gk_some h
      clear h
      have h := hg9
      clear hg9
      exact lv_pop hx hb hd (by rw [cv_cat]; exact beq_sp hz) (hnx _ _ _ _ _ _ h hws hl)
    · cases h
  case dup2 => 
    simp only [i1] at h
    obtain rfl : n = 1 := beq_sp he
    split at h
    · obtain ⟨hz, hg9⟩ := gk_some h
      clear h
      have h := hg9
      clear hg9
      rw [Bool.and_eq_true] at hz
      exact lv_dup2_11 hx hb hd (by rw [cv_cat]; exact beq_sp hz.1) (by rw [cv_cat]; exact beq_sp hz.2) (hnx _ _ _ _ _ _ h hws hl)
    · cases h
  case goto z => 
    simp only [i1] at h
    simp only [eC, Bool.and_eq_true, decide_eq_true_eq] at he
    obtain rfl := beq_sp he.2
    exact lv_goto hx hb hd he.1 (hk _ _ _ _ _ _ _ h hws hl)
  case ifCond z y => 
    simp only [i1] at h
    simp only [eC, Bool.and_eq_true, decide_eq_true_eq] at he
    obtain rfl := beq_sp he.2
    obtain ⟨x, st1, hs, hg9⟩ := popI_some h
    clear h
    have h := hg9
    clear hg9
    subst hs
    rename List Value => st
    cases z
    case eq =>
      simp only [cmpZ] at h
      exact lv_if_eq hx hb hd he.1 (fun q => hk _ _ _ _ _ _ _ (by rw [ifc_t q] at h; exact h) hws hl) (fun q => hnx _ _ _ _ _ _ (by rw [ifc_f q] at h; exact h) hws hl)
    case ne =>
      simp only [cmpZ] at h
      exact lv_if_ne hx hb hd he.1 (fun q => hk _ _ _ _ _ _ _ (by rw [ifc_f q] at h; exact h) hws hl) (fun q => hnx _ _ _ _ _ _ (by rw [ifc_t q] at h; exact h) hws hl)
    case lt =>
      simp only [cmpZ] at h
      exact lv_if_lt hx hb hd he.1 (fun q => hk _ _ _ _ _ _ _ (by rw [ifc_t q] at h; exact h) hws hl) (fun q => hnx _ _ _ _ _ _ (by rw [ifc_f q] at h; exact h) hws hl)
    case ge =>
      simp only [cmpZ] at h
      exact lv_if_ge hx hb hd he.1 (fun q => hk _ _ _ _ _ _ _ (by rw [ifc_f (Int32.not_lt.mpr q)] at h; exact h) hws hl) (fun q => hnx _ _ _ _ _ _ (by rw [ifc_t (Int32.not_le.mp q)] at h; exact h) hws hl)
    case gt =>
      simp only [cmpZ] at h
      exact lv_if_gt hx hb hd he.1 (fun q => hk _ _ _ _ _ _ _ (by rw [ifc_t q] at h; exact h) hws hl) (fun q => hnx _ _ _ _ _ _ (by rw [ifc_f q] at h; exact h) hws hl)
    case le =>
      simp only [cmpZ] at h
      exact lv_if_le hx hb hd he.1 (fun q => hk _ _ _ _ _ _ _ (by rw [ifc_f (Int32.not_lt.mpr q)] at h; exact h) hws hl) (fun q => hnx _ _ _ _ _ _ (by rw [ifc_t (Int32.not_le.mp q)] at h; exact h) hws hl)
  case if_icmp z y => 
    simp only [i1] at h
    simp only [eC, Bool.and_eq_true, decide_eq_true_eq] at he
    obtain rfl := beq_sp he.2
    obtain ⟨y2, st1, hs, hg9⟩ := popI_some h
    clear h
    have h := hg9
    clear hg9
    subst hs
    rename List Value => st
    obtain ⟨x, st1, hs, hg9⟩ := popI_some h
    clear h
    have h := hg9
    clear hg9
    subst hs
    rename List Value => st
    cases z
    case eq =>
      simp only [cmpI] at h
      exact lv_icmp_eq hx hb hd he.1 (fun q => hk _ _ _ _ _ _ _ (by rw [ifc_t q] at h; exact h) hws hl) (fun q => hnx _ _ _ _ _ _ (by rw [ifc_f q] at h; exact h) hws hl)
    case ne =>
      simp only [cmpI] at h
      exact lv_icmp_ne hx hb hd he.1 (fun q => hk _ _ _ _ _ _ _ (by rw [ifc_f q] at h; exact h) hws hl) (fun q => hnx _ _ _ _ _ _ (by rw [ifc_t q] at h; exact h) hws hl)
    case lt =>
      simp only [cmpI] at h
      exact lv_icmp_lt hx hb hd he.1 (fun q => hk _ _ _ _ _ _ _ (by rw [ifc_t q] at h; exact h) hws hl) (fun q => hnx _ _ _ _ _ _ (by rw [ifc_f q] at h; exact h) hws hl)
    case ge =>
      simp only [cmpI] at h
      exact lv_icmp_ge hx hb hd he.1 (fun q => hk _ _ _ _ _ _ _ (by rw [ifc_f (Int32.not_lt.mpr q)] at h; exact h) hws hl) (fun q => hnx _ _ _ _ _ _ (by rw [ifc_t (Int32.not_le.mp q)] at h; exact h) hws hl)
    case gt =>
      simp only [cmpI] at h
      exact lv_icmp_gt hx hb hd he.1 (fun q => hk _ _ _ _ _ _ _ (by rw [ifc_t q] at h; exact h) hws hl) (fun q => hnx _ _ _ _ _ _ (by rw [ifc_f q] at h; exact h) hws hl)
    case le =>
      simp only [cmpI] at h
      exact lv_icmp_le hx hb hd he.1 (fun q => hk _ _ _ _ _ _ _ (by rw [ifc_f (Int32.not_lt.mpr q)] at h; exact h) hws hl) (fun q => hnx _ _ _ _ _ _ (by rw [ifc_t (Int32.not_le.mp q)] at h; exact h) hws hl)
  case tableswitch d lo hi os => 
    simp only [i1] at h
    simp only [eC, Bool.and_eq_true, decide_eq_true_eq] at he
    obtain ⟨x, st1, hs, hg9⟩ := popI_some h
    clear h
    have h := hg9
    clear hg9
    subst hs
    rename List Value => st
    rcases swT_some h he.2 with ⟨i, o, g1, g2, g3, g4⟩ | ⟨g1, g2⟩
    · have hil : i < os.toList.length := (List.getElem?_eq_some_iff.mp g1).1
      refine lv_tableIn hx hb hd (by omega) (by rw [he.1.2]; omega) (off := o) ?_ (tgt_sp g3) (hk _ _ _ _ _ _ _ g4 hws hl)
      rw [show (x.toInt - lo).toNat = i by omega, ← Array.getElem?_toList]
      exact g1
    · refine lv_tableOut hx hb hd ?_ (tgt_sp he.1.1) (hk _ _ _ _ _ _ _ g2 hws hl)
      rw [he.1.2]
      exact g1
  case lookupswitch d ps => 
    simp only [i1] at h
    simp only [eC, Bool.and_eq_true, decide_eq_true_eq] at he
    obtain ⟨x, st1, hs, hg9⟩ := popI_some h
    clear h
    have h := hg9
    clear hg9
    subst hs
    rename List Value => st
    obtain ⟨o, g1, g2, g3⟩ := swL_some h he.2 he.1.1
    exact lv_lookup hx hb hd he.1.2 g1 (tgt_sp g2) (hk _ _ _ _ _ _ _ g3 hws hl)
  case getfield z => 
    simp only [i1] at h
    simp only [eC, Bool.and_eq_true] at he
    obtain rfl := beq_sp he.2
    obtain ⟨a, st1, hs, hg9⟩ := popR_some h
    clear h
    have h := hg9
    clear hg9
    subst hs
    rename List Value => st
    obtain ⟨hz, hg9⟩ := gk_some h
    clear h
    have h := hg9
    clear hg9
    rw [Bool.and_eq_true] at hz
    have hf := hFL _ (List.contains_iff_mem.mp he.1)
    have hg := (obj_spec hz.1).1
    refine rw_get hx hb hts hcf hown hK hws hz.1 (blt_sp hz.2) hf hd ?_
    have hh9 := f4_some h
    clear h
    rcases hh9 with ⟨q, h⟩ | ⟨q, h⟩ | ⟨q, h⟩ | ⟨q, h⟩
    · rw [fV_1 hg q]
      exact hnx _ _ _ _ _ _ h hws hl
    · obtain ⟨x, hx2, hg9⟩ := someR_some h
      clear h
      have h := hg9
      clear hg9
      rw [fV_2 hg q, hx2]
      exact hnx _ _ _ _ _ _ h hws hl
    · rw [fV_0 hg (by rw [q]; decide) (by rw [q]; decide)]
      exact hnx _ _ _ _ _ _ h hws hl
    · rw [fV_0 hg q.1 q.2.1]
      exact hnx _ _ _ _ _ _ h hws hl
  case putfield z => 
    simp only [i1] at h
    simp only [eC, Bool.and_eq_true] at he
    obtain rfl := beq_sp he.2
    obtain ⟨hz, hg9⟩ := gk_some h
    clear h
    have h := hg9
    clear hg9
    rw [Bool.and_eq_true] at hz
    have hf := hFL _ (List.contains_iff_mem.mp he.1)
    have hfin : fFin h1 h2 = false := by simpa using hz.2
    have hh9 := f4_some h
    clear h
    rcases hh9 with ⟨q, h⟩ | ⟨q, h⟩ | ⟨q, h⟩ | ⟨q, h⟩
    · obtain ⟨x, st1, hs, hg9⟩ := popL_some h
      clear h
      have h := hg9
      clear hg9
      subst hs
      rename List Value => st
      obtain ⟨a, st1, hs, hg9⟩ := popR_some h
      clear h
      have h := hg9
      clear hg9
      subst hs
      rename List Value => st
      obtain ⟨ho, hg9⟩ := gk_some h
      clear h
      have h := hg9
      clear hg9
      exact rw_put hx hb hts hcf hown hK hws ho (blt_sp hz.1) hf hfin (M' := (M.1, u2 M.2.1 a h2 x, M.2.2)) (fun ty hty => by rw [q] at hty; cases ty <;> first | (exact ⟨rfl, rfl⟩) | (simp [tyK] at hty)) (fun _ _ => rfl) (fun z hz => u2_ne hz) (fun _ _ => rfl) (fun j _ => fV_putL (obj_spec ho).1 q j) hd (fun H1 locs1 hws1 => hnx _ _ _ _ _ _ h hws1 hl)
    · obtain ⟨x, st1, hs, hg9⟩ := popR_some h
      clear h
      have h := hg9
      clear hg9
      subst hs
      rename List Value => st
      obtain ⟨a, st1, hs, hg9⟩ := popR_some h
      clear h
      have h := hg9
      clear hg9
      subst hs
      rename List Value => st
      obtain ⟨ho, hg9⟩ := gk_some h
      clear h
      have h := hg9
      clear hg9
      exact rw_put hx hb hts hcf hown hK hws ho (blt_sp hz.1) hf hfin (M' := (M.1, M.2.1, u2 M.2.2 a h2 (some x))) (fun ty hty => by rw [q] at hty; cases ty <;> first | (exact ⟨rfl, rfl⟩) | (simp [tyK] at hty)) (fun _ _ => rfl) (fun _ _ => rfl) (fun z hz => u2_ne hz) (fun j _ => fV_putR (obj_spec ho).1 q j) hd (fun H1 locs1 hws1 => hnx _ _ _ _ _ _ h hws1 hl)
    · obtain ⟨x, st1, hs, hg9⟩ := popI_some h
      clear h
      have h := hg9
      clear hg9
      subst hs
      rename List Value => st
      obtain ⟨a, st1, hs, hg9⟩ := popR_some h
      clear h
      have h := hg9
      clear hg9
      subst hs
      rename List Value => st
      obtain ⟨ho, hg9⟩ := gk_some h
      clear h
      have h := hg9
      clear hg9
      obtain ⟨hB, hg9⟩ := gd_some h
      clear h
      have h := hg9
      clear hg9
      exact rw_put hx hb hts hcf hown hK hws ho (blt_sp hz.1) hf hfin (M' := (u2 M.1 a h2 x, M.2.1, M.2.2)) (fun ty hty => by rw [q] at hty; cases ty <;> first | (exact boolFit hB) | (simp [tyK] at hty)) (fun z hz => u2_ne hz) (fun _ _ => rfl) (fun _ _ => rfl) (fun j _ => fV_putI (obj_spec ho).1 (by rw [q]; decide) (by rw [q]; decide) j) hd (fun H1 locs1 hws1 => hnx _ _ _ _ _ _ h hws1 hl)
    · obtain ⟨x, st1, hs, hg9⟩ := popI_some h
      clear h
      have h := hg9
      clear hg9
      subst hs
      rename List Value => st
      obtain ⟨a, st1, hs, hg9⟩ := popR_some h
      clear h
      have h := hg9
      clear hg9
      subst hs
      rename List Value => st
      obtain ⟨ho, hg9⟩ := gk_some h
      clear h
      have h := hg9
      clear hg9
      have hlt : fk h1 h2 < 4 := by unfold fk; exact Nat.lt_of_le_of_lt Nat.and_le_right (by decide)
      have q0 : fk h1 h2 = 0 := by omega
      exact rw_put hx hb hts hcf hown hK hws ho (blt_sp hz.1) hf hfin (M' := (u2 M.1 a h2 x, M.2.1, M.2.2)) (fun ty hty => by rw [q0] at hty; cases ty <;> first | (exact ⟨rfl, rfl⟩) | (simp [tyK] at hty)) (fun z hz => u2_ne hz) (fun _ _ => rfl) (fun _ _ => rfl) (fun j _ => fV_putI (obj_spec ho).1 q.1 q.2.1 j) hd (fun H1 locs1 hws1 => hnx _ _ _ _ _ _ h hws1 hl)
  case iaload => 
    simp only [i1] at h
    obtain rfl : n = 1 := beq_sp he
    obtain ⟨j, st1, hs, hg9⟩ := popI_some h
    clear h
    have h := hg9
    clear hg9
    subst hs
    rename List Value => st
    obtain ⟨a, st1, hs, hg9⟩ := popR_some h
    clear h
    have h := hg9
    clear hg9
    subst hs
    rename List Value => st
    have hh9 := bM_some h
    clear h
    rcases hh9 with ⟨hz, h⟩ | ⟨hz, h⟩
    · obtain ⟨q, hq, hg9⟩ := scR_some h
      clear h
      have h := hg9
      clear hg9
      obtain ⟨hi, hg9⟩ := gd_some h
      clear h
      have h := hg9
      clear hg9
      obtain ⟨hbb, scr, g1, g2, g3, g4, g5⟩ := hX q hq
      have ea : adr base b a = b := by rw [beq_sp hz]; rfl
      show W p l e R s m args below meth c H locs cells slots _ (F0 m pc ls (.int j :: .ref (adr base b a) :: st.map (cv base b)))
      rw [ea]
      exact W.iald (v := .int (q.2 j.toNatClampNeg)) hx hb (by rw [hws.2.1 b (Or.inl hbb)]; exact g1) g2 g3 (by rw [g4]; exact inB_in hi) (g5 _ (in_lt hi)) rfl rfl hd (hnx _ _ _ _ _ _ h hws hl)
    · obtain ⟨ho, hg9⟩ := gk_some h
      clear h
      have h := hg9
      clear hg9
      obtain ⟨hi, hg9⟩ := gd_some h
      clear h
      have h := hg9
      clear hg9
      obtain ⟨ea, hc⟩ := rep_arr hws (Or.inr (Or.inl rfl)) ho
      show W p l e R s m args below meth c H locs cells slots _ (F0 m pc ls (.int j :: .ref (adr base b a) :: st.map (cv base b)))
      rw [ea]
      exact W.iald (v := .int (M.1 a j.toNatClampNeg)) hx hb hc ((hK.2.1 12 (by omega) (by omega)).1 _ _) (fun q => by cases q) (in_arr hi) (arrV_read _ _ (in_lt hi)) rfl rfl hd (hnx _ _ _ _ _ _ h hws hl)
  case baload => 
    simp only [i1] at h
    obtain rfl : n = 1 := beq_sp he
    obtain ⟨j, st1, hs, hg9⟩ := popI_some h
    clear h
    have h := hg9
    clear hg9
    subst hs
    rename List Value => st
    obtain ⟨a, st1, hs, hg9⟩ := popR_some h
    clear h
    have h := hg9
    clear hg9
    subst hs
    rename List Value => st
    obtain ⟨ho, hg9⟩ := gk_some h
    clear h
    have h := hg9
    clear hg9
    obtain ⟨hi, hg9⟩ := gd_some h
    clear h
    have h := hg9
    clear hg9
    rw [Bool.or_eq_true] at ho
    rcases ho with ho | ho
    · obtain ⟨ea, hc⟩ := rep_arr hws (Or.inl rfl) ho
      show W p l e R s m args below meth c H locs cells slots _ (F0 m pc ls (.int j :: .ref (adr base b a) :: st.map (cv base b)))
      rw [ea]
      exact W.bald (v := .int (M.1 a j.toNatClampNeg)) hx hb hc ((hK.2.1 11 (by omega) (by omega)).1 _ _) (fun q => by cases q) (in_arr hi) (arrV_read _ _ (in_lt hi)) rfl rfl hd (hnx _ _ _ _ _ _ h hws hl)
    · obtain ⟨ea, hc⟩ := rep_arr hws (Or.inr (Or.inr rfl)) ho
      show W p l e R s m args below meth c H locs cells slots _ (F0 m pc ls (.int j :: .ref (adr base b a) :: st.map (cv base b)))
      rw [ea]
      exact W.zald (v := .int (M.1 a j.toNatClampNeg)) hx hb hc ((hK.2.1 14 (by omega) (by omega)).1 _ _) (fun q => by cases q) (in_arr hi) (arrV_read _ _ (in_lt hi)) rfl rfl hd (hnx _ _ _ _ _ _ h hws hl)
  case laload => 
    simp only [i1] at h
    obtain rfl : n = 1 := beq_sp he
    obtain ⟨j, st1, hs, hg9⟩ := popI_some h
    clear h
    have h := hg9
    clear hg9
    subst hs
    rename List Value => st
    obtain ⟨a, st1, hs, hg9⟩ := popR_some h
    clear h
    have h := hg9
    clear hg9
    subst hs
    rename List Value => st
    obtain ⟨ho, hg9⟩ := gk_some h
    clear h
    have h := hg9
    clear hg9
    obtain ⟨hi, hg9⟩ := gd_some h
    clear h
    have h := hg9
    clear hg9
    obtain ⟨ea, hc⟩ := rep_arrL hws ho
    show W p l e R s m args below meth c H locs cells slots _ (F0 m pc ls (.int j :: .ref (adr base b a) :: st.map (cv base b)))
    rw [ea]
    exact W.lald (v := .long (M.2.1 a j.toNatClampNeg)) hx hb hc ((hK.2.1 13 (by omega) (by omega)).1 _ _) (fun q => by cases q) (in_arr hi) (arrV_read _ _ (in_lt hi)) rfl rfl hd (hnx _ _ _ _ _ _ h hws hl)
  case iastore => 
    simp only [i1] at h
    obtain rfl : n = 1 := beq_sp he
    obtain ⟨x, st1, hs, hg9⟩ := popI_some h
    clear h
    have h := hg9
    clear hg9
    subst hs
    rename List Value => st
    obtain ⟨j, st1, hs, hg9⟩ := popI_some h
    clear h
    have h := hg9
    clear hg9
    subst hs
    rename List Value => st
    obtain ⟨a, st1, hs, hg9⟩ := popR_some h
    clear h
    have h := hg9
    clear hg9
    subst hs
    rename List Value => st
    obtain ⟨ho, hg9⟩ := gk_some h
    clear h
    have h := hg9
    clear hg9
    obtain ⟨hi, hg9⟩ := gd_some h
    clear h
    have h := hg9
    clear hg9
    obtain ⟨ea, hc⟩ := rep_arr hws (Or.inr (Or.inl rfl)) ho
    show W p l e R s m args below meth c H locs cells slots _ (F0 m pc ls (.int x :: .int j :: .ref (adr base b a) :: st.map (cv base b)))
    rw [ea]
    exact W.iast hx hb hc ((hK.2.1 12 (by omega) (by omega)).1 _ _) (fun q => by cases q) (in_arr hi) rfl rfl hd (fun H1 g1 _ g3 => hnx _ _ _ _ _ _ h (ws_arr hws (Or.inr (Or.inl rfl)) ho g1 g3 (fun z hz => loc_app hz)) hl)
  case bastore => 
    simp only [i1] at h
    obtain rfl : n = 1 := beq_sp he
    obtain ⟨x, st1, hs, hg9⟩ := popI_some h
    clear h
    have h := hg9
    clear hg9
    subst hs
    rename List Value => st
    obtain ⟨j, st1, hs, hg9⟩ := popI_some h
    clear h
    have h := hg9
    clear hg9
    subst hs
    rename List Value => st
    obtain ⟨a, st1, hs, hg9⟩ := popR_some h
    clear h
    have h := hg9
    clear hg9
    subst hs
    rename List Value => st
    have hh9 := bM_some h
    clear h
    rcases hh9 with ⟨ho, h⟩ | ⟨-, h⟩
    · obtain ⟨hi, hg9⟩ := gd_some h
      clear h
      have h := hg9
      clear hg9
      obtain ⟨ea, hc⟩ := rep_arr hws (Or.inl rfl) ho
      show W p l e R s m args below meth c H locs cells slots _ (F0 m pc ls (.int x :: .int j :: .ref (adr base b a) :: st.map (cv base b)))
      rw [ea]
      exact W.bast hx hb hc ((hK.2.1 11 (by omega) (by omega)).1 _ _) (fun q => by cases q) (in_arr hi) rfl rfl hd (fun H1 g1 _ g3 => hnx _ _ _ _ _ _ h (ws_arr hws (Or.inl rfl) ho g1 g3 (fun z hz => loc_app hz)) hl)
    · obtain ⟨ho, hg9⟩ := gk_some h
      clear h
      have h := hg9
      clear hg9
      obtain ⟨hi, hg9⟩ := gd_some h
      clear h
      have h := hg9
      clear hg9
      obtain ⟨ea, hc⟩ := rep_arr hws (Or.inr (Or.inr rfl)) ho
      show W p l e R s m args below meth c H locs cells slots _ (F0 m pc ls (.int x :: .int j :: .ref (adr base b a) :: st.map (cv base b)))
      rw [ea]
      exact W.zast hx hb hc ((hK.2.1 14 (by omega) (by omega)).1 _ _) (fun q => by cases q) (in_arr hi) rfl rfl hd (fun H1 g1 _ g3 => hnx _ _ _ _ _ _ h (ws_arr hws (Or.inr (Or.inr rfl)) ho g1 g3 (fun z hz => loc_app hz)) hl)
  case lastore => 
    simp only [i1] at h
    obtain rfl : n = 1 := beq_sp he
    obtain ⟨x, st1, hs, hg9⟩ := popL_some h
    clear h
    have h := hg9
    clear hg9
    subst hs
    rename List Value => st
    obtain ⟨j, st1, hs, hg9⟩ := popI_some h
    clear h
    have h := hg9
    clear hg9
    subst hs
    rename List Value => st
    obtain ⟨a, st1, hs, hg9⟩ := popR_some h
    clear h
    have h := hg9
    clear hg9
    subst hs
    rename List Value => st
    obtain ⟨ho, hg9⟩ := gk_some h
    clear h
    have h := hg9
    clear hg9
    obtain ⟨hi, hg9⟩ := gd_some h
    clear h
    have h := hg9
    clear hg9
    obtain ⟨ea, hc⟩ := rep_arrL hws ho
    show W p l e R s m args below meth c H locs cells slots _ (F0 m pc ls (.long x :: .int j :: .ref (adr base b a) :: st.map (cv base b)))
    rw [ea]
    exact W.last hx hb hc ((hK.2.1 13 (by omega) (by omega)).1 _ _) (fun q => by cases q) (in_arr hi) rfl rfl hd (fun H1 g1 _ g3 => hnx _ _ _ _ _ _ h (ws_arrL hws ho g1 g3 (fun z hz => loc_app hz)) hl)
  case arraylength => 
    simp only [i1] at h
    obtain rfl : n = 1 := beq_sp he
    obtain ⟨a, st1, hs, hg9⟩ := popR_some h
    clear h
    have h := hg9
    clear hg9
    subst hs
    rename List Value => st
    have hh9 := bM_some h
    clear h
    rcases hh9 with ⟨hz, h⟩ | ⟨hz, h⟩
    · obtain ⟨q, hq, hg9⟩ := scR_some h
      clear h
      have h := hg9
      clear hg9
      obtain ⟨hbb, scr, g1, g2, g3, g4, g5⟩ := hX q hq
      have ea : adr base b a = b := by rw [beq_sp hz]; rfl
      show W p l e R s m args below meth c H locs cells slots _ (F0 m pc ls (.ref (adr base b a) :: st.map (cv base b)))
      rw [ea]
      exact W.alen (n := nI q.1) hx hb (by rw [hws.2.1 b (Or.inl hbb)]; exact g1) g2 (by rw [g4]; rfl) rfl rfl hd (hnx _ _ _ _ _ _ h hws hl)
    · obtain ⟨ho, hg9⟩ := gk_some h
      clear h
      have h := hg9
      clear hg9
      show W p l e R s m args below meth c H locs cells slots _ (F0 m pc ls (.ref (adr base b a) :: st.map (cv base b)))
      rw [Bool.or_eq_true, Bool.or_eq_true, Bool.or_eq_true] at ho
      rcases ho with ho | ho | ho | ho
      · obtain ⟨ea, hc⟩ := rep_arr hws (Or.inl rfl) ho
        rw [ea]
        exact W.alen (n := nI (gN a)) hx hb hc ((hK.2.1 11 (by omega) (by omega)).1 _ _) (by rw [arrV_size]; rfl) rfl rfl hd (hnx _ _ _ _ _ _ h hws hl)
      · obtain ⟨ea, hc⟩ := rep_arr hws (Or.inr (Or.inl rfl)) ho
        rw [ea]
        exact W.alen (n := nI (gN a)) hx hb hc ((hK.2.1 12 (by omega) (by omega)).1 _ _) (by rw [arrV_size]; rfl) rfl rfl hd (hnx _ _ _ _ _ _ h hws hl)
      · obtain ⟨ea, hc⟩ := rep_arrL hws ho
        rw [ea]
        exact W.alen (n := nI (gN a)) hx hb hc ((hK.2.1 13 (by omega) (by omega)).1 _ _) (by rw [arrV_size]; rfl) rfl rfl hd (hnx _ _ _ _ _ _ h hws hl)
      · obtain ⟨ea, hc⟩ := rep_arr hws (Or.inr (Or.inr rfl)) ho
        rw [ea]
        exact W.alen (n := nI (gN a)) hx hb hc ((hK.2.1 14 (by omega) (by omega)).1 _ _) (by rw [arrV_size]; rfl) rfl rfl hd (hnx _ _ _ _ _ _ h hws hl)
  case invokevirtual z => 
    simp only [i1] at h
    simp only [eC, Bool.and_eq_true, decide_eq_true_eq] at he
    obtain rfl := beq_sp he.2
    split at h
    rotate_left
    · cases h
    rename_i k9 n9 Df hcal
    have hco := hCL _ _ _ hcal he.1
    obtain ⟨hz, hg9⟩ := gk_some h
    clear h
    have h := hg9
    clear hg9
    simp only [Bool.and_eq_true, Nat.ble_eq] at hz
    obtain ⟨⟨hz1, hz2⟩, hz3⟩ := hz
    obtain ⟨a, As, hAs, ho⟩ : ∃ a As, (st.take n9).reverse = .ref a :: As ∧ obj k9 a = true := by
      unfold rcv at hz2
      split at hz2
      · rename_i a As hq
        exact ⟨a, As, hq, hz2⟩
      · cases hz2
    have hlen : As.length + 1 = n9 := by
      have := congrArg List.length hAs
      rw [List.length_reverse, List.length_take, List.length_cons] at this
      omega
    have hcat : (((st.drop n9).map (cv base b)).map fun v => v.category).sum ≤ 8 := by rw [catS_cv]; exact hz3
    rw [← take_rev (st := st) (n := n9), hAs]
    rw [hAs] at h
    have run : ∀ (r0 : Option Value) (M' : AM), Df (.ref a :: As) M = some (r0, M') → (∀ (H1 : Heap) (locs1 : List Loc), WS D cy base b H0 M' H1 locs1 → W p l e R s m args below meth c H1 locs1 cells slots (MQ below Qc args s cells slots (frW base)) (F0 m (pc + 3) ls ((r0.map (cv base b)).toList ++ (st.drop n9).map (cv base b)))) → W p l e R s m args below meth c H locs cells slots (MQ below Qc args s cells slots (frW base)) (F0 m pc ls (((Value.ref a :: As).map (cv base b)).reverse ++ (st.drop n9).map (cv base b))) := by
      intro r0 M' hD kk
      have e9 : ((Value.ref a :: As).map (cv base b)).reverse ++ (st.drop n9).map (cv base b) = (As.map (cv base b)).reverse ++ .ref (adr base b a) :: (st.drop n9).map (cv base b) := by
        rw [List.map_cons, List.reverse_cons, List.append_assoc]; rfl
      rw [e9]
      exact rw_callV hx hb (hml.trans hl.1.symm) hts hcf hown hK hws hcs hco ho hlen hD hcat hd kk
    split at h
    · obtain ⟨i, g, hD, hg9⟩ := crV_some h
      clear h
      have h := hg9
      clear hg9
      exact run _ _ hD (fun H1 locs1 hws1 => hnx _ _ _ _ _ _ h hws1 hl)
    · obtain ⟨x, i, g, hD, hg9⟩ := crI_some h
      clear h
      have h := hg9
      clear hg9
      exact run _ _ hD (fun H1 locs1 hws1 => hnx _ _ _ _ _ _ h hws1 hl)
    · obtain ⟨x, i, g, hD, hg9⟩ := crL_some h
      clear h
      have h := hg9
      clear hg9
      exact run _ _ hD (fun H1 locs1 hws1 => hnx _ _ _ _ _ _ h hws1 hl)
    · obtain ⟨i, g, q1, q2, q3, hD, hg9⟩ := cmV_some h
      clear h
      have h := hg9
      clear hg9
      exact run _ _ hD (fun H1 locs1 hws1 => hnx _ _ _ _ _ _ h hws1 hl)
    · obtain ⟨x, i, g, q1, q2, q3, hD, hg9⟩ := cmI_some h
      clear h
      have h := hg9
      clear hg9
      exact run _ _ hD (fun H1 locs1 hws1 => hnx _ _ _ _ _ _ h hws1 hl)
  case invokestatic z => 
    simp only [i1] at h
    simp only [eC, Bool.and_eq_true, decide_eq_true_eq] at he
    obtain rfl := beq_sp he.2
    split at h
    · rename_i k9 n9 Df hcal
      have hco := hCL _ _ _ hcal he.1
      obtain ⟨hz, hg9⟩ := gk_some h
      clear h
      have h := hg9
      clear hg9
      simp only [Bool.and_eq_true, Nat.ble_eq] at hz
      obtain ⟨hz1, hz3⟩ := hz
      have hlen : (st.take n9).reverse.length = n9 := by rw [List.length_reverse, List.length_take]; omega
      have hcat : (((st.drop n9).map (cv base b)).map fun v => v.category).sum ≤ 8 := by rw [catS_cv]; exact hz3
      rw [← take_rev (st := st) (n := n9)]
      split at h
      · obtain ⟨i, g, hD, hg9⟩ := crV_some h
        clear h
        have h := hg9
        clear hg9
        exact rw_callS hx hb (hml.trans hl.1.symm) hts hown hK hws hcs hco hlen hD hcat hd (fun H1 locs1 hws1 => hnx _ _ _ _ _ _ h hws1 hl)
      · obtain ⟨x, i, g, hD, hg9⟩ := crI_some h
        clear h
        have h := hg9
        clear hg9
        exact rw_callS hx hb (hml.trans hl.1.symm) hts hown hK hws hcs hco hlen hD hcat hd (fun H1 locs1 hws1 => hnx _ _ _ _ _ _ h hws1 hl)
      · obtain ⟨x, i, g, hD, hg9⟩ := crL_some h
        clear h
        have h := hg9
        clear hg9
        exact rw_callS hx hb (hml.trans hl.1.symm) hts hown hK hws hcs hco hlen hD hcat hd (fun H1 locs1 hws1 => hnx _ _ _ _ _ _ h hws1 hl)
    · rename_i k9 n9 Df hcal
      obtain ⟨g1, g2, g3, g4, g5, g6⟩ := hCL _ _ _ hcal he.1
      obtain ⟨n, st1, hs, hg9⟩ := popI_some h
      clear h
      have h := hg9
      clear hg9
      subst hs
      rename List Value => st
      obtain ⟨dp, st1, hs, hg9⟩ := popI_some h
      clear h
      have h := hg9
      clear hg9
      subst hs
      rename List Value => st
      obtain ⟨d, st1, hs, hg9⟩ := popR_some h
      clear h
      have h := hg9
      clear hg9
      subst hs
      rename List Value => st
      obtain ⟨sp, st1, hs, hg9⟩ := popI_some h
      clear h
      have h := hg9
      clear hg9
      subst hs
      rename List Value => st
      obtain ⟨a, st1, hs, hg9⟩ := popR_some h
      clear h
      have h := hg9
      clear hg9
      subst hs
      rename List Value => st
      obtain ⟨hz, hg9⟩ := gk_some h
      clear h
      have h := hg9
      clear hg9
      obtain ⟨hy, hg9⟩ := gd_some h
      clear h
      have h := hg9
      clear hg9
      simp only [Bool.and_eq_true, Nat.ble_eq] at hz
      obtain ⟨y1, y2, y3, y4, y5⟩ := hy
      exact rw_copy hx hb (hml.trans hl.1.symm) hown (hts _ g3) (hts _ g4) (hts _ g5) (hts _ g6) hK hws hz.1.1 hz.1.2 y1 y2 y3 y4 y5 g1 (by rw [catS_cv]; have := hz.2; omega) hd (fun H1 locs1 hws1 => hnx _ _ _ _ _ _ h hws1 hl)
    · rename_i k9 n9 Df hcal
      obtain ⟨g1, g2, g3, g4, g5, g6⟩ := hCL _ _ _ hcal he.1
      obtain ⟨y, st1, hs, hg9⟩ := popI_some h
      clear h
      have h := hg9
      clear hg9
      subst hs
      rename List Value => st
      obtain ⟨x, st1, hs, hg9⟩ := popI_some h
      clear h
      have h := hg9
      clear hg9
      subst hs
      rename List Value => st
      obtain ⟨hz, hg9⟩ := gk_some h
      clear h
      have h := hg9
      clear hg9
      rw [Nat.ble_eq] at hz
      exact va_mmin hx hb (hml.trans hl.1.symm) hown (hts _ g3) (hts _ g4) (hts _ g5) (hts _ g6) g1 (by rw [catS_cv]; omega) hcs.1 hcs.2 hd (hnx _ _ _ _ _ _ h hws hl)
    · rename_i k9 n9 Df hcal
      obtain ⟨g1, g2, g3, g4, g5, g6⟩ := hCL _ _ _ hcal he.1
      obtain ⟨y, st1, hs, hg9⟩ := popI_some h
      clear h
      have h := hg9
      clear hg9
      subst hs
      rename List Value => st
      obtain ⟨x, st1, hs, hg9⟩ := popI_some h
      clear h
      have h := hg9
      clear hg9
      subst hs
      rename List Value => st
      obtain ⟨hz, hg9⟩ := gk_some h
      clear h
      have h := hg9
      clear hg9
      rw [Nat.ble_eq] at hz
      exact va_mmax hx hb (hml.trans hl.1.symm) hown (hts _ g3) (hts _ g4) (hts _ g5) (hts _ g6) g1 (by rw [catS_cv]; omega) hcs.1 hcs.2 hd (hnx _ _ _ _ _ _ h hws hl)
    · rename_i k9 n9 Df hcal
      obtain ⟨g1, g2, g3, g4, g5, g6⟩ := hCL _ _ _ hcal he.1
      obtain ⟨y, st1, hs, hg9⟩ := popL_some h
      clear h
      have h := hg9
      clear hg9
      subst hs
      rename List Value => st
      obtain ⟨x, st1, hs, hg9⟩ := popL_some h
      clear h
      have h := hg9
      clear hg9
      subst hs
      rename List Value => st
      obtain ⟨hz, hg9⟩ := gk_some h
      clear h
      have h := hg9
      clear hg9
      rw [Nat.ble_eq] at hz
      exact va_mmin_long hx hb (hml.trans hl.1.symm) hown (hts _ g3) (hts _ g4) (hts _ g5) (hts _ g6) g1 (by rw [catS_cv]; omega) hcs.1 hcs.2 hd (hnx _ _ _ _ _ _ h hws hl)
    · rename_i k9 n9 Df hcal
      obtain ⟨g1, g2, g3, g4, g5, g6⟩ := hCL _ _ _ hcal he.1
      obtain ⟨y, st1, hs, hg9⟩ := popL_some h
      clear h
      have h := hg9
      clear hg9
      subst hs
      rename List Value => st
      obtain ⟨x, st1, hs, hg9⟩ := popL_some h
      clear h
      have h := hg9
      clear hg9
      subst hs
      rename List Value => st
      obtain ⟨hz, hg9⟩ := gk_some h
      clear h
      have h := hg9
      clear hg9
      rw [Nat.ble_eq] at hz
      exact va_mmax_long hx hb (hml.trans hl.1.symm) hown (hts _ g3) (hts _ g4) (hts _ g5) (hts _ g6) g1 (by rw [catS_cv]; omega) hcs.1 hcs.2 hd (hnx _ _ _ _ _ _ h hws hl)
    · cases h
  case return_ => 
    simp only [i1] at h
    obtain rfl : n = 1 := beq_sp he
    obtain ⟨hz, hg9⟩ := gk_some h
    clear h
    have h := hg9
    clear hg9
    rw [Bool.and_eq_true, List.isEmpty_iff] at hz
    obtain ⟨hz1, rfl⟩ := hz
    have hr : meth.sig.returnType = none := by rw [hret, beq_sp hz1]; rfl
    exact W.vret hx hb hr (fun t ht hW => hrt none M H locs t h hws ht hW) hws.2.2 hd hlocks
  case ireturn => 
    simp only [i1] at h
    obtain rfl : n = 1 := beq_sp he
    obtain ⟨x, st1, hs, hg9⟩ := popI_some h
    clear h
    have h := hg9
    clear hg9
    subst hs
    rename List Value => st
    obtain ⟨hz, hg9⟩ := gk_some h
    clear h
    have h := hg9
    clear hg9
    rw [Bool.and_eq_true, List.isEmpty_iff, Bool.or_eq_true] at hz
    obtain ⟨rfl, hz1⟩ := hz
    have hh9 := bM_some h
    clear h
    rcases hh9 with ⟨h3, h⟩ | ⟨h3, h⟩
    · obtain ⟨hB, hg9⟩ := gd_some h
      clear h
      have h := hg9
      clear hg9
      have hr : meth.sig.returnType = some .boolean := by rw [hret, beq_sp h3]; rfl
      exact W.zret hx hb hr (by rcases isB_or hB with rfl | rfl <;> decide) (fun t ht hW => hrt (some (.int x)) M H locs t h hws ht hW) hws.2.2 hd hlocks
    · have h1r : C.2.1 = 1 := by
        rcases hz1 with q | q
        · exact beq_sp q
        · rw [q] at h3; cases h3
      have hr : meth.sig.returnType = some .int := by rw [hret, h1r]; rfl
      exact W.iret hx hb hr (fun t ht hW => hrt (some (.int x)) M H locs t h hws ht hW) hws.2.2 hd hlocks
  case lreturn => 
    simp only [i1] at h
    obtain rfl : n = 1 := beq_sp he
    obtain ⟨x, st1, hs, hg9⟩ := popL_some h
    clear h
    have h := hg9
    clear hg9
    subst hs
    rename List Value => st
    obtain ⟨hz, hg9⟩ := gk_some h
    clear h
    have h := hg9
    clear hg9
    rw [Bool.and_eq_true, List.isEmpty_iff] at hz
    obtain ⟨rfl, hz1⟩ := hz
    have hr : meth.sig.returnType = some .long := by rw [hret, beq_sp hz1]; rfl
    exact W.lret hx hb hr (fun t ht hW => hrt (some (.long x)) M H locs t h hws ht hW) hws.2.2 hd hlocks
  all_goals (simp only [i1] at h; cases h)
end
end
section
/-! a block, a method: sound -/
def chkM (cc : ByteArray) (FL : List (Nat × Nat × Nat)) (KI KL : List (Nat × Nat)) (CL : List Nat) (bl : List Blk) : Bool := bl.all (fun q => chkB cc FL KI KL CL q.2.2 q.1)
theorem bAt_mem : ∀ {bl : List Blk} {pc : Nat} {q : List Nat × List Ent}, bAt bl pc = some q → (pc, q) ∈ bl
  | [], _, _, h => by cases h
  | x :: r, pc, q, h => by
    unfold bAt at h
    by_cases hx : x.1 = pc
    · rw [if_pos hx] at h
      cases h
      subst hx
      exact List.mem_cons_self
    · rw [if_neg hx] at h
      exact List.mem_cons_of_mem _ (bAt_mem h)
theorem args_cp {base b : Nat} : ∀ (As : List Value) (i : Nat), lv_args i (As.map (cv base b)) = (lv_args i As).map (cp base b)
  | [], _ => rfl
  | v :: r, i => by
    rw [List.map_cons]
    unfold lv_args
    rw [cv_cat, List.map_cons, args_cp r]
    rfl
theorem sl_cv {base b : Nat} : ∀ (As : List Value), (lg_sl (As.map (cv base b))).length = (lg_sl As).length
  | [] => rfl
  | v :: r => by
    have ih := sl_cv (base := base) (b := b) r
    unfold lg_sl at ih ⊢
    rw [List.map_cons, List.flatMap_cons, List.flatMap_cons, List.length_append, List.length_append, ih, cv_cat]
    split <;> rfl
section
variable {p : Program} {l : Launch} {e : Env} {R : Room} {s : State} {m : MethodId} {args : Array Value} {below : List Frame} {meth : Method} {c : Code} {cells slots : Nat} {Qc : Array Value → State → Outcome → State → Prop}
variable {cc : ByteArray} {D : va_G} {cy : Nat → ClassId} {base b : Nat} {H0 : Heap} {own : String}
theorem exB_ok {α : Type} {C : MC} {k : Nat → LV → List Value → AM → Option α} {rt : Option Value → AM → Option α} {r : α} {FL : List (Nat × Nat × Nat)} {KI KL : List (Nat × Nat)} {CL : List Nat}
    (hx : p.tables.exec = Jvm.exec) (hb : c.code = cc) (hml : c.maxLocals = C.1) (hret : meth.sig.returnType = retT C.2.1) (hlocks : meth.locks = false) (hts : ∀ w ∈ TBg, w.before args s = true) (hcf : CF) (hown : s.vm.findClass own = some m.cls) (hK : Kn D cy s) (hcs : cells ≤ R.cells ∧ slots ≤ R.slots)
    (hFL : ∀ q ∈ FL, FO own q.1 q.2.1 q.2.2) (hKI : ∀ q ∈ KI, Cond.constant own q.1 (nI q.2) ∈ TBg) (hKL : ∀ q ∈ KL, Cond.constantLong own q.1 (lN q.2) ∈ TBg) (hCL : ∀ (j : Nat) (cal : Cal) (idx : Nat), C.2.2.1[j]? = some cal → CL[j]? = some idx → CO l R own idx cal)
    (hX : ∀ q, C.2.2.2.2 = some q → b < base ∧ va_X b q.1 q.2 s H0)
    (hk : ∀ (pc' : Nat) (lv' : LV) (st' : List Value) (M' : AM) (H' : Heap) (locs' : List Loc) (ls' : Array Slot), k pc' lv' st' M' = some r → WS D cy base b H0 M' H' locs' → lv_has ls' C.1 (lv'.map (cp base b)) → W p l e R s m args below meth c H' locs' cells slots (MQ below Qc args s cells slots (frW base)) (F0 m pc' ls' (st'.map (cv base b))))
    (hrt : ∀ (v : Option Value) (M' : AM) (H' : Heap) (locs' : List Loc) (t : State), rt v M' = some r → WS D cy base b H0 M' H' locs' → t.heap = H' → s.WarmedH t.vm → Qc args s (.returned (v.map (cv base b))) t) :
    ∀ (is : List Ent) (pc : Nat) (lv : LV) (st : List Value) (M : AM) (H : Heap) (locs : List Loc) (ls : Array Slot), chkB cc FL KI KL CL is pc = true → exB C k rt is pc lv st M = some r → WS D cy base b H0 M H locs → lv_has ls C.1 (lv.map (cp base b)) →
      W p l e R s m args below meth c H locs cells slots (MQ below Qc args s cells slots (frW base)) (F0 m pc ls (st.map (cv base b)))
  | [], pc, lv, st, M, H, locs, ls, _, h, hws, hl => hk _ _ _ _ _ _ _ h hws hl
  | en :: is, pc, lv, st, M, H, locs, ls, hc, h, hws, hl => by
    unfold chkB at hc
    rw [Bool.and_eq_true, Bool.and_eq_true, decide_eq_true_eq] at hc
    unfold exB at h
    exact i1_ok hx hb hml hret hlocks hts hcf hown hK hcs hFL hKI hKL hCL hX hc.1.1 hc.1.2 h hws hl (fun lv' st' M' H' locs' ls' h' hws' hl' => exB_ok hx hb hml hret hlocks hts hcf hown hK hcs hFL hKI hKL hCL hX hk hrt is _ lv' st' M' H' locs' ls' hc.2 h' hws' hl') hk hrt
theorem iF_ok {C : MC} {r : RS} {FL : List (Nat × Nat × Nat)} {KI KL : List (Nat × Nat)} {CL : List Nat}
    (hx : p.tables.exec = Jvm.exec) (hb : c.code = cc) (hml : c.maxLocals = C.1) (hret : meth.sig.returnType = retT C.2.1) (hlocks : meth.locks = false) (hts : ∀ w ∈ TBg, w.before args s = true) (hcf : CF) (hown : s.vm.findClass own = some m.cls) (hK : Kn D cy s) (hcs : cells ≤ R.cells ∧ slots ≤ R.slots)
    (hFL : ∀ q ∈ FL, FO own q.1 q.2.1 q.2.2) (hKI : ∀ q ∈ KI, Cond.constant own q.1 (nI q.2) ∈ TBg) (hKL : ∀ q ∈ KL, Cond.constantLong own q.1 (lN q.2) ∈ TBg) (hCL : ∀ (j : Nat) (cal : Cal) (idx : Nat), C.2.2.1[j]? = some cal → CL[j]? = some idx → CO l R own idx cal)
    (hX : ∀ q, C.2.2.2.2 = some q → b < base ∧ va_X b q.1 q.2 s H0) (hchk : chkM cc FL KI KL CL C.2.2.2.1 = true)
    (hrt : ∀ (H' : Heap) (locs' : List Loc) (t : State), WS D cy base b H0 r.2 H' locs' → t.heap = H' → s.WarmedH t.vm → Qc args s (.returned (r.1.map (cv base b))) t) :
    ∀ (n : Nat) (pc : Nat) (lv : LV) (st : List Value) (M : AM) (H : Heap) (locs : List Loc) (ls : Array Slot), iF C n pc lv st M = some r → WS D cy base b H0 M H locs → lv_has ls C.1 (lv.map (cp base b)) →
      W p l e R s m args below meth c H locs cells slots (MQ below Qc args s cells slots (frW base)) (F0 m pc ls (st.map (cv base b)))
  | 0, _, _, _, _, _, _, _, h, _, _ => by simp [iF] at h
  | n + 1, pc, lv, st, M, H, locs, ls, h, hws, hl => by
    unfold iF at h
    split at h
    · cases h
    · rename_i q hq
      have hc : chkB cc FL KI KL CL q.2 pc = true := List.all_eq_true.mp hchk _ (bAt_mem hq)
      exact exB_ok hx hb hml hret hlocks hts hcf hown hK hcs hFL hKI hKL hCL hX (fun pc' lv' st' M' H' locs' ls' h' hws' hl' => iF_ok hx hb hml hret hlocks hts hcf hown hK hcs hFL hKI hKL hCL hX hchk hrt n pc' lv' st' M' H' locs' ls' h' hws' hl')
        (fun v M' H' locs' t h' hws' ht hW => by cases h'; exact hrt H' locs' t hws' ht hW) q.2 pc (pick q.1 lv) st M H locs ls hc h hws (pick_has q.1 hl)
end
/-- a method whose blocks are its code's, whose callees have their contracts: its contract -/
theorem sound_of {l : Launch} {y : MethodName} {cc : ByteArray} {rm : Room} {C : MC} {ret : Option FieldType} {FL : List (Nat × Nat × Nat)} {KI KL : List (Nat × Nat)} {CL : List Nat} (hcf : CF) (hy : plainName y.cls = true) (hret : ret = retT C.2.1)
    (hFL : ∀ q ∈ FL, FO y.cls q.1 q.2.1 q.2.2) (hKI : ∀ q ∈ KI, Cond.constant y.cls q.1 (nI q.2) ∈ TBg) (hKL : ∀ q ∈ KL, Cond.constantLong y.cls q.1 (lN q.2) ∈ TBg) (hCL : ∀ (j : Nat) (cal : Cal) (idx : Nat), C.2.2.1[j]? = some cal → CL[j]? = some idx → CO l rm y.cls idx cal)
    (hno : C.2.2.2.2 = none) (hchk : chkM cc FL KI KL CL C.2.2.2.1 = true) : Ct l y cc C.1 ret rm (mD C) := by
  intro D cy base b As M r M' hD
  obtain ⟨hlen, hD⟩ := gk_some hD
  rw [Nat.ble_eq] at hlen
  obtain ⟨n, hn⟩ := (it_iff C 0 (lv_args 0 As) [] M (r, M')).mp hD
  refine Met.ofW (cc := cc) (maxL := C.1) (ret := ret) hy rfl ?_
  intro p e s m args below meth c s₁ B hml hv
  obtain ⟨rfl, hRep, hKn⟩ := hv
  have hts : ∀ w ∈ TBg, w.before (As.map (cv base b)).toArray s = true := fun w hw => atoms_spec (ws := .code y cc C.1 ret :: TBg) B.pre w (List.mem_cons_of_mem _ hw)
  have hown : s.vm.findClass y.cls = some m.cls := findClass_of_methodNamed B.named
  have hl := lv_entry (As.map (cv base b)) (n := C.1) (by rw [sl_cv]; exact hlen)
  rw [lg_entry_eq]
  rw [args_cp] at hl
  exact iF_ok (R := rm) (r := (r, M')) (H0 := s.heap) B.exec B.bytes hml (B.returns.trans hret) B.notSynchronized hts hcf hown hKn ⟨Nat.zero_le _, Nat.zero_le _⟩ hFL hKI hKL hCL (fun q hq => by rw [hno] at hq; cases hq) hchk
    (fun H' locs' t hws ht hW => ⟨rfl, by rw [ht]; exact hws.1, fun q hq => by rw [ht]; exact hws.2.1 q hq⟩) n 0 (lv_args 0 As) [] M s.heap [] _ hn ⟨hRep, fun _ _ => rfl, fun z hz => by cases hz⟩ hl
end
section
/-! what the tables say: classes, fields, constants -/
theorem tb_in {i : Nat} {w : Cond} (h : lw_tbl[i]? = some w) (hg : goodWord w = true) : w ∈ TBg := List.mem_filter.mpr ⟨List.mem_of_getElem? h, hg⟩
theorem tb_all {ws : List Cond} (ps : List Nat) (h : ws = ps.filterMap (fun i => lw_tbl[i]?)) (hg : ws.all goodWord = true) : ∀ w ∈ ws, w ∈ TBg := by
  intro w hw
  have h1 := List.all_eq_true.mp hg w hw
  rw [h] at hw
  obtain ⟨i, -, hi⟩ := List.mem_filterMap.mp hw
  exact tb_in hi h1
def wdF (own : String) (q : Nat × Nat × Nat) : Cond := match vwCl[q.2.1]? with
  | some r => Cond.fieldLink own q.1 (r.2.1 q.2.2).1 (r.2.1 q.2.2).2.1 (r.2.1 q.2.2).2.2.1
  | none => Cond.initialized own
theorem FO_all {own : String} {FL : List (Nat × Nat × Nat)} (ps : List Nat) (h : FL.map (wdF own) = ps.filterMap (fun i => lw_tbl[i]?)) (hg : (FL.map (wdF own)).all goodWord = true) (hv : FL.all (fun q => Nat.blt q.2.1 11) = true) : ∀ q ∈ FL, FO own q.1 q.2.1 q.2.2 := by
  intro q hq
  have h1 : wdF own q ∈ TBg := tb_all ps h hg _ (List.mem_map.mpr ⟨q, hq, rfl⟩)
  have h2 : q.2.1 < vwCl.length := blt_sp (List.all_eq_true.mp hv q hq)
  refine ⟨vwCl[q.2.1], List.getElem?_eq_getElem h2, ?_⟩
  unfold wdF at h1
  rw [List.getElem?_eq_getElem h2] at h1
  exact h1
theorem KI_all {own : String} {KI : List (Nat × Nat)} (ps : List Nat) (h : KI.map (fun q => Cond.constant own q.1 (nI q.2)) = ps.filterMap (fun i => lw_tbl[i]?)) (hg : (KI.map (fun q => Cond.constant own q.1 (nI q.2))).all goodWord = true) : ∀ q ∈ KI, Cond.constant own q.1 (nI q.2) ∈ TBg :=
  fun q hq => tb_all ps h hg _ (List.mem_map.mpr ⟨q, hq, rfl⟩)
theorem KL_all {own : String} {KL : List (Nat × Nat)} (ps : List Nat) (h : KL.map (fun q => Cond.constantLong own q.1 (lN q.2)) = ps.filterMap (fun i => lw_tbl[i]?)) (hg : (KL.map (fun q => Cond.constantLong own q.1 (lN q.2))).all goodWord = true) : ∀ q ∈ KL, Cond.constantLong own q.1 (lN q.2) ∈ TBg :=
  fun q hq => tb_all ps h hg _ (List.mem_map.mpr ⟨q, hq, rfl⟩)
/-- one class's part of CF -/
def CF1 (c : Nat) (q : vw_C) : Prop := q.2.2 = cN c ∧ c < 11 ∧ (∀ w ∈ u_ws q.1 q.2.1 q.2.2, w ∈ TBg) ∧ (∃ ty : Nat → FieldType, ∀ k, k < q.2.2 → parseFieldDescriptor (q.2.1 k).2.2.1 = some (ty k) ∧ tyK (ty k) = fk c k) ∧
  (∀ a, a < q.2.2 → ∀ d, d < q.2.2 → a ≠ d → (q.2.1 a).2.1 ≠ (q.2.1 d).2.1) ∧ ∀ k, k < q.2.2 → (q.2.1 k).2.2.2 = fFin c k
set_option maxRecDepth 20000 in
theorem cf_0 : CF1 0 (RX0, TX0, 8) := ⟨rfl, by decide, tb_all [506, 508, 510, 512, 514, 516, 518, 520] (by decide +kernel) (by decide +kernel), ⟨tyX0, fun k hk => ⟨tyX0_ok k hk, (by decide +kernel : ∀ k, k < 8 → tyK (tyX0 k) = fk 0 k) k hk⟩⟩, nmX0, (by decide +kernel : ∀ k, k < 8 → (TX0 k).2.2.2 = fFin 0 k)⟩
set_option maxRecDepth 20000 in
theorem cf_1 : CF1 1 (RX1, TX1, 6) := ⟨rfl, by decide, tb_all [291, 293, 295, 297, 299, 301] (by decide +kernel) (by decide +kernel), ⟨tyX1, fun k hk => ⟨tyX1_ok k hk, (by decide +kernel : ∀ k, k < 6 → tyK (tyX1 k) = fk 1 k) k hk⟩⟩, nmX1, (by decide +kernel : ∀ k, k < 6 → (TX1 k).2.2.2 = fFin 1 k)⟩
set_option maxRecDepth 20000 in
theorem cf_2 : CF1 2 (RX2, TX2, 7) := ⟨rfl, by decide, tb_all [476, 478, 480, 482, 484, 486, 488] (by decide +kernel) (by decide +kernel), ⟨tyX2, fun k hk => ⟨tyX2_ok k hk, (by decide +kernel : ∀ k, k < 7 → tyK (tyX2 k) = fk 2 k) k hk⟩⟩, nmX2, (by decide +kernel : ∀ k, k < 7 → (TX2 k).2.2.2 = fFin 2 k)⟩
set_option maxRecDepth 20000 in
theorem cf_3 : CF1 3 (RX3, TX3, 13) := ⟨rfl, by decide, tb_all [640, 642, 644, 646, 648, 650, 652, 654, 656, 658, 660, 662, 664] (by decide +kernel) (by decide +kernel), ⟨tyX3, fun k hk => ⟨tyX3_ok k hk, (by decide +kernel : ∀ k, k < 13 → tyK (tyX3 k) = fk 3 k) k hk⟩⟩, nmX3, (by decide +kernel : ∀ k, k < 13 → (TX3 k).2.2.2 = fFin 3 k)⟩
set_option maxRecDepth 20000 in
theorem cf_4 : CF1 4 (RX4, TX4, 3) := ⟨rfl, by decide, tb_all [609, 611, 613] (by decide +kernel) (by decide +kernel), ⟨tyX4, fun k hk => ⟨tyX4_ok k hk, (by decide +kernel : ∀ k, k < 3 → tyK (tyX4 k) = fk 4 k) k hk⟩⟩, nmX4, (by decide +kernel : ∀ k, k < 3 → (TX4 k).2.2.2 = fFin 4 k)⟩
set_option maxRecDepth 20000 in
theorem cf_5 : CF1 5 (RX5, TX5, 20) := ⟨rfl, by decide, tb_all [377, 379, 381, 383, 385, 387, 389, 391, 393, 395, 397, 399, 401, 403, 405, 407, 409, 411, 413, 415] (by decide +kernel) (by decide +kernel), ⟨tyX5, fun k hk => ⟨tyX5_ok k hk, (by decide +kernel : ∀ k, k < 20 → tyK (tyX5 k) = fk 5 k) k hk⟩⟩, nmX5, (by decide +kernel : ∀ k, k < 20 → (TX5 k).2.2.2 = fFin 5 k)⟩
set_option maxRecDepth 20000 in
theorem cf_6 : CF1 6 (RX6, TX6, 10) := ⟨rfl, by decide, tb_all [437, 439, 441, 443, 445, 447, 449, 451, 453, 455] (by decide +kernel) (by decide +kernel), ⟨tyX6, fun k hk => ⟨tyX6_ok k hk, (by decide +kernel : ∀ k, k < 10 → tyK (tyX6 k) = fk 6 k) k hk⟩⟩, nmX6, (by decide +kernel : ∀ k, k < 10 → (TX6 k).2.2.2 = fFin 6 k)⟩
set_option maxRecDepth 20000 in
theorem cf_7 : CF1 7 (RX7, TX7, 13) := ⟨rfl, by decide, tb_all [572, 574, 576, 578, 580, 582, 584, 586, 588, 590, 592, 594, 596] (by decide +kernel) (by decide +kernel), ⟨tyX7, fun k hk => ⟨tyX7_ok k hk, (by decide +kernel : ∀ k, k < 13 → tyK (tyX7 k) = fk 7 k) k hk⟩⟩, nmX7, (by decide +kernel : ∀ k, k < 13 → (TX7 k).2.2.2 = fFin 7 k)⟩
set_option maxRecDepth 20000 in
theorem cf_8 : CF1 8 (RX8, TX8, 12) := ⟨rfl, by decide, tb_all [237, 239, 241, 243, 245, 247, 249, 251, 253, 255, 257, 259] (by decide +kernel) (by decide +kernel), ⟨tyX8, fun k hk => ⟨tyX8_ok k hk, (by decide +kernel : ∀ k, k < 12 → tyK (tyX8 k) = fk 8 k) k hk⟩⟩, nmX8, (by decide +kernel : ∀ k, k < 12 → (TX8 k).2.2.2 = fFin 8 k)⟩
set_option maxRecDepth 20000 in
theorem cf_9 : CF1 9 (RX9, TX9, 14) := ⟨rfl, by decide, tb_all [681, 683, 685, 687, 689, 691, 693, 695, 697, 699, 701, 703, 705, 707] (by decide +kernel) (by decide +kernel), ⟨tyX9, fun k hk => ⟨tyX9_ok k hk, (by decide +kernel : ∀ k, k < 14 → tyK (tyX9 k) = fk 9 k) k hk⟩⟩, nmX9, (by decide +kernel : ∀ k, k < 14 → (TX9 k).2.2.2 = fFin 9 k)⟩
set_option maxRecDepth 20000 in
theorem cf_10 : CF1 10 (RX10, TX10, 91) := ⟨rfl, by decide, tb_all [1542, 1544, 1546, 1548, 1550, 1552, 1554, 1556, 1558, 1560, 1562, 1564, 1566, 1568, 1570, 1572, 1574, 1576, 1578, 1580, 1582, 1584, 1586, 1588, 1590, 1592, 1594, 1596, 1598, 1600, 1602, 1604, 1606, 1608, 1610, 1612, 1614, 1616, 1618, 1620, 1622, 1624, 1626, 1628, 1630, 1632, 1634, 1636, 1638, 1640, 1642, 1644, 1646, 1648, 1650, 1652, 1654, 1656, 1658, 1660, 1662, 1664, 1666, 1668, 1670, 1672, 1674, 1676, 1678, 1680, 1682, 1684, 1686, 1688, 1690, 1692, 1694, 1696, 1698, 1700, 1702, 1704, 1706, 1708, 1710, 1712, 1714, 1716, 1718, 1720, 1722] (by decide +kernel) (by decide +kernel), ⟨tyX10, fun k hk => ⟨tyX10_ok k hk, (by decide +kernel : ∀ k, k < 91 → tyK (tyX10 k) = fk 10 k) k hk⟩⟩, nmX10, (by decide +kernel : ∀ k, k < 91 → (TX10 k).2.2.2 = fFin 10 k)⟩
theorem cf_all : CF := by
  intro c q h
  match c, h with
  | 0, h => cases h; exact cf_0
  | 1, h => cases h; exact cf_1
  | 2, h => cases h; exact cf_2
  | 3, h => cases h; exact cf_3
  | 4, h => cases h; exact cf_4
  | 5, h => cases h; exact cf_5
  | 6, h => cases h; exact cf_6
  | 7, h => cases h; exact cf_7
  | 8, h => cases h; exact cf_8
  | 9, h => cases h; exact cf_9
  | 10, h => cases h; exact cf_10
  | c + 11, h => simp [vwCl] at h
def FL_GT : List (Nat × Nat × Nat) := [(14, 9, 0), (21, 9, 1), (30, 9, 2), (39, 9, 3), (48, 9, 4), (55, 9, 5), (59, 9, 6), (62, 9, 7), (68, 9, 8), (75, 9, 9), (79, 9, 10), (83, 9, 11), (87, 9, 12), (91, 9, 13), (94, 8, 8), (105, 6, 8), (106, 6, 9), (109, 2, 6), (115, 5, 19), (126, 6, 7), (129, 5, 0), (132, 5, 11), (139, 5, 3), (142, 5, 13), (156, 7, 7), (163, 7, 1), (166, 7, 2), (169, 7, 3), (180, 5, 1), (183, 5, 2), (186, 7, 8), (195, 2, 0), (202, 7, 4), (233, 7, 6), (250, 7, 9), (253, 7, 10), (256, 7, 0), (276, 5, 4), (279, 5, 12), (312, 5, 18), (322, 3, 8), (325, 3, 9), (334, 3, 10), (337, 3, 11), (340, 3, 12), (343, 7, 12), (350, 4, 2), (354, 5, 10), (358, 1, 4), (363, 7, 11)]
def KI_GT : List (Nat × Nat) := []
def KL_GT : List (Nat × Nat) := [(209, 9223372036854775808), (310, 18446744073709551615)]
set_option maxRecDepth 20000 in
theorem FL_GT_ok : ∀ q ∈ FL_GT, FO RX9 q.1 q.2.1 q.2.2 := FO_all [667, 668, 669, 670, 671, 672, 673, 674, 675, 676, 677, 678, 679, 680, 230, 434, 436, 473, 375, 432, 305, 343, 317, 354, 554, 534, 538, 542, 310, 314, 559, 465, 545, 552, 562, 565, 532, 321, 351, 373, 631, 633, 635, 637, 639, 571, 608, 340, 288, 568] (by decide +kernel) (by decide +kernel) (by decide +kernel)
theorem KI_GT_ok : ∀ q ∈ KI_GT, Cond.constant RX9 q.1 (nI q.2) ∈ TBg := KI_all [] (by decide +kernel) (by decide +kernel)
theorem KL_GT_ok : ∀ q ∈ KL_GT, Cond.constantLong RX9 q.1 (lN q.2) ∈ TBg := KL_all [1016, 1226] (by decide +kernel) (by decide +kernel)
def FL_Course : List (Nat × Nat × Nat) := [(9, 0, 1), (15, 0, 2), (18, 0, 3), (21, 0, 4), (25, 0, 5), (28, 0, 6), (32, 0, 7), (35, 0, 0), (43, 2, 6), (53, 7, 8), (71, 5, 11), (76, 5, 13), (83, 5, 15), (86, 5, 9), (89, 7, 6), (92, 5, 8), (99, 5, 14), (102, 5, 7), (105, 5, 5), (108, 5, 6), (114, 7, 7), (128, 7, 10), (144, 5, 17), (157, 5, 16), (164, 2, 0), (167, 7, 9), (170, 7, 0), (183, 7, 5), (186, 7, 11), (198, 5, 12), (205, 5, 18), (208, 7, 12), (214, 7, 1), (217, 7, 2), (220, 7, 3)]
def KI_Course : List (Nat × Nat) := [(211, 1103515245), (212, 2147483647), (213, 65536)]
def KL_Course : List (Nat × Nat) := [(142, 9223372036854775808), (146, 99)]
set_option maxRecDepth 20000 in
theorem FL_Course_ok : ∀ q ∈ FL_Course, FO RX0 q.1 q.2.1 q.2.2 := FO_all [499, 500, 501, 502, 503, 504, 505, 498, 474, 558, 345, 355, 361, 335, 550, 332, 358, 329, 323, 326, 555, 564, 368, 365, 466, 561, 531, 548, 567, 350, 371, 570, 536, 540, 543] (by decide +kernel) (by decide +kernel) (by decide +kernel)
theorem KI_Course_ok : ∀ q ∈ KI_Course, Cond.constant RX0 q.1 (nI q.2) ∈ TBg := KI_all [1073, 1074, 1075] (by decide +kernel) (by decide +kernel)
theorem KL_Course_ok : ∀ q ∈ KL_Course, Cond.constantLong RX0 q.1 (lN q.2) ∈ TBg := KL_all [1122, 1123] (by decide +kernel) (by decide +kernel)
def FL_Laws : List (Nat × Nat × Nat) := [(9, 1, 0), (15, 1, 1), (18, 1, 2), (21, 1, 3), (24, 1, 4), (28, 1, 5)]
def KI_Laws : List (Nat × Nat) := []
def KL_Laws : List (Nat × Nat) := []
set_option maxRecDepth 20000 in
theorem FL_Laws_ok : ∀ q ∈ FL_Laws, FO RX1 q.1 q.2.1 q.2.2 := FO_all [276, 278, 280, 283, 286, 289] (by decide +kernel) (by decide +kernel) (by decide +kernel)
theorem KI_Laws_ok : ∀ q ∈ KI_Laws, Cond.constant RX1 q.1 (nI q.2) ∈ TBg := KI_all [] (by decide +kernel) (by decide +kernel)
theorem KL_Laws_ok : ∀ q ∈ KL_Laws, Cond.constantLong RX1 q.1 (lN q.2) ∈ TBg := KL_all [] (by decide +kernel) (by decide +kernel)
def FL_Net : List (Nat × Nat × Nat) := [(9, 2, 0), (15, 2, 1), (18, 2, 2), (21, 2, 3), (25, 2, 4), (29, 2, 5), (33, 2, 6), (37, 5, 13), (42, 5, 1), (53, 5, 11), (60, 5, 12), (63, 5, 2), (73, 5, 10), (97, 5, 16), (100, 7, 5), (105, 7, 7), (108, 7, 0), (117, 1, 2), (120, 1, 3), (123, 1, 0), (126, 1, 1), (140, 7, 1), (143, 7, 2), (151, 7, 6)]
def KI_Net : List (Nat × Nat) := []
def KL_Net : List (Nat × Nat) := [(91, 9223372036854775808), (136, 1000000000000), (138, 18446743073709551616)]
set_option maxRecDepth 20000 in
theorem FL_Net_ok : ∀ q ∈ FL_Net, FO RX2 q.1 q.2.1 q.2.2 := FO_all [464, 467, 468, 469, 470, 471, 472, 353, 308, 342, 348, 313, 338, 364, 547, 556, 530, 281, 284, 277, 279, 535, 539, 551] (by decide +kernel) (by decide +kernel) (by decide +kernel)
theorem KI_Net_ok : ∀ q ∈ KI_Net, Cond.constant RX2 q.1 (nI q.2) ∈ TBg := KI_all [] (by decide +kernel) (by decide +kernel)
theorem KL_Net_ok : ∀ q ∈ KL_Net, Cond.constantLong RX2 q.1 (lN q.2) ∈ TBg := KL_all [994, 993, 995] (by decide +kernel) (by decide +kernel)
def FL_Notes : List (Nat × Nat × Nat) := [(9, 3, 1), (15, 3, 2), (18, 3, 3), (21, 3, 4), (24, 3, 5), (27, 3, 6), (30, 3, 7), (34, 3, 8), (37, 3, 9), (40, 3, 10), (43, 3, 11), (46, 3, 12), (49, 3, 0), (53, 2, 6), (59, 5, 1), (70, 5, 11)]
def KI_Notes : List (Nat × Nat) := []
def KL_Notes : List (Nat × Nat) := []
set_option maxRecDepth 20000 in
theorem FL_Notes_ok : ∀ q ∈ FL_Notes, FO RX3 q.1 q.2.1 q.2.2 := FO_all [623, 624, 625, 626, 627, 628, 629, 630, 632, 634, 636, 638, 622, 475, 309, 344] (by decide +kernel) (by decide +kernel) (by decide +kernel)
theorem KI_Notes_ok : ∀ q ∈ KI_Notes, Cond.constant RX3 q.1 (nI q.2) ∈ TBg := KI_all [] (by decide +kernel) (by decide +kernel)
theorem KL_Notes_ok : ∀ q ∈ KL_Notes, Cond.constantLong RX3 q.1 (lN q.2) ∈ TBg := KL_all [] (by decide +kernel) (by decide +kernel)
def FL_Past : List (Nat × Nat × Nat) := [(11, 4, 0), (17, 4, 1), (21, 4, 2)]
def KI_Past : List (Nat × Nat) := []
def KL_Past : List (Nat × Nat) := []
set_option maxRecDepth 20000 in
theorem FL_Past_ok : ∀ q ∈ FL_Past, FO RX4 q.1 q.2.1 q.2.2 := FO_all [605, 606, 607] (by decide +kernel) (by decide +kernel) (by decide +kernel)
theorem KI_Past_ok : ∀ q ∈ KI_Past, Cond.constant RX4 q.1 (nI q.2) ∈ TBg := KI_all [] (by decide +kernel) (by decide +kernel)
theorem KL_Past_ok : ∀ q ∈ KL_Past, Cond.constantLong RX4 q.1 (lN q.2) ∈ TBg := KL_all [] (by decide +kernel) (by decide +kernel)
def FL_Plan : List (Nat × Nat × Nat) := [(15, 5, 1), (18, 5, 2), (24, 5, 4), (45, 5, 10), (49, 5, 11), (53, 5, 12), (56, 5, 13), (59, 5, 14), (62, 5, 15), (65, 5, 16), (68, 5, 17), (71, 5, 18), (74, 5, 19)]
def KI_Plan : List (Nat × Nat) := []
def KL_Plan : List (Nat × Nat) := []
set_option maxRecDepth 20000 in
theorem FL_Plan_ok : ∀ q ∈ FL_Plan, FO RX5 q.1 q.2.1 q.2.2 := FO_all [307, 312, 319, 337, 341, 347, 352, 357, 360, 363, 367, 370, 374] (by decide +kernel) (by decide +kernel) (by decide +kernel)
theorem KI_Plan_ok : ∀ q ∈ KI_Plan, Cond.constant RX5 q.1 (nI q.2) ∈ TBg := KI_all [] (by decide +kernel) (by decide +kernel)
theorem KL_Plan_ok : ∀ q ∈ KL_Plan, Cond.constantLong RX5 q.1 (lN q.2) ∈ TBg := KL_all [] (by decide +kernel) (by decide +kernel)
def FL_Reader : List (Nat × Nat × Nat) := [(9, 6, 1), (15, 6, 2), (18, 6, 4), (22, 6, 5), (25, 6, 6), (28, 6, 7), (31, 6, 8), (34, 6, 9), (37, 6, 0), (41, 6, 3), (56, 8, 9), (91, 8, 10), (95, 8, 11), (102, 5, 11), (109, 5, 0), (116, 5, 12), (125, 5, 1), (128, 5, 2), (137, 5, 16), (140, 5, 13), (143, 5, 3), (146, 5, 4), (149, 5, 14), (155, 5, 5), (158, 5, 6), (161, 5, 7), (164, 5, 15), (167, 5, 8), (170, 5, 9), (174, 5, 17), (177, 5, 18), (180, 5, 19), (183, 5, 10), (187, 1, 2), (191, 1, 5), (197, 1, 3), (227, 1, 4)]
def KI_Reader : List (Nat × Nat) := [(173, 99999)]
def KL_Reader : List (Nat × Nat) := []
set_option maxRecDepth 20000 in
theorem FL_Reader_ok : ∀ q ∈ FL_Reader, FO RX6 q.1 q.2.1 q.2.2 := FO_all [425, 426, 428, 429, 430, 431, 433, 435, 424, 427, 232, 234, 236, 346, 306, 349, 311, 315, 366, 356, 318, 320, 359, 324, 327, 330, 362, 333, 336, 369, 372, 376, 339, 282, 290, 285, 287] (by decide +kernel) (by decide +kernel) (by decide +kernel)
theorem KI_Reader_ok : ∀ q ∈ KI_Reader, Cond.constant RX6 q.1 (nI q.2) ∈ TBg := KI_all [839] (by decide +kernel) (by decide +kernel)
theorem KL_Reader_ok : ∀ q ∈ KL_Reader, Cond.constantLong RX6 q.1 (lN q.2) ∈ TBg := KL_all [] (by decide +kernel) (by decide +kernel)
def FL_State : List (Nat × Nat × Nat) := [(9, 7, 0), (15, 7, 1), (18, 7, 2), (21, 7, 3), (24, 7, 4), (27, 7, 5), (30, 7, 6), (34, 7, 7), (37, 7, 8), (40, 7, 9), (43, 7, 10), (46, 7, 11), (49, 7, 12)]
def KI_State : List (Nat × Nat) := []
def KL_State : List (Nat × Nat) := []
set_option maxRecDepth 20000 in
theorem FL_State_ok : ∀ q ∈ FL_State, FO RX7 q.1 q.2.1 q.2.2 := FO_all [529, 533, 537, 541, 544, 546, 549, 553, 557, 560, 563, 566, 569] (by decide +kernel) (by decide +kernel) (by decide +kernel)
theorem KI_State_ok : ∀ q ∈ KI_State, Cond.constant RX7 q.1 (nI q.2) ∈ TBg := KI_all [] (by decide +kernel) (by decide +kernel)
theorem KL_State_ok : ∀ q ∈ KL_State, Cond.constantLong RX7 q.1 (lN q.2) ∈ TBg := KL_all [] (by decide +kernel) (by decide +kernel)
def FL_Tokens : List (Nat × Nat × Nat) := [(9, 8, 0), (15, 8, 1), (19, 8, 2), (22, 8, 3), (25, 8, 4), (28, 8, 5), (32, 8, 6), (35, 8, 7), (38, 8, 8), (41, 8, 9), (44, 8, 10), (47, 8, 11)]
def KI_Tokens : List (Nat × Nat) := [(99, 1000000)]
def KL_Tokens : List (Nat × Nat) := []
set_option maxRecDepth 20000 in
theorem FL_Tokens_ok : ∀ q ∈ FL_Tokens, FO RX8 q.1 q.2.1 q.2.2 := FO_all [221, 222, 223, 224, 225, 226, 227, 228, 229, 231, 233, 235] (by decide +kernel) (by decide +kernel) (by decide +kernel)
theorem KI_Tokens_ok : ∀ q ∈ KI_Tokens, Cond.constant RX8 q.1 (nI q.2) ∈ TBg := KI_all [765] (by decide +kernel) (by decide +kernel)
theorem KL_Tokens_ok : ∀ q ∈ KL_Tokens, Cond.constantLong RX8 q.1 (lN q.2) ∈ TBg := KL_all [] (by decide +kernel) (by decide +kernel)
def FL_Mo : List (Nat × Nat × Nat) := [(7, 10, 0), (13, 10, 3), (16, 10, 5), (20, 10, 24), (23, 10, 25), (27, 10, 26), (30, 10, 27), (33, 10, 28), (36, 10, 29), (39, 10, 30), (42, 10, 31), (45, 10, 32), (48, 10, 33), (51, 10, 34), (54, 10, 35), (57, 10, 36), (60, 10, 37), (63, 10, 38), (66, 10, 39), (69, 10, 40), (72, 10, 41), (75, 10, 42), (78, 10, 43), (81, 10, 44), (84, 10, 51), (88, 10, 52), (91, 10, 54), (94, 10, 55), (97, 10, 56), (100, 10, 57), (103, 10, 58), (106, 10, 59), (109, 10, 60), (112, 10, 61), (115, 10, 62), (118, 10, 63), (121, 10, 64), (124, 10, 75), (127, 10, 77), (130, 10, 78), (133, 10, 79), (136, 10, 81), (139, 10, 82), (142, 10, 83), (145, 10, 84), (148, 10, 86), (151, 10, 88), (160, 10, 2), (163, 10, 1), (166, 10, 4), (169, 10, 10), (172, 10, 6), (175, 10, 7), (178, 10, 8), (189, 10, 9), (209, 10, 11), (222, 10, 18), (225, 10, 19), (228, 10, 20), (231, 10, 21), (234, 10, 22), (237, 10, 23), (240, 10, 48), (243, 10, 12), (246, 10, 13), (249, 10, 14), (252, 10, 15), (255, 10, 16), (258, 10, 17), (310, 10, 46), (313, 10, 45), (328, 10, 47), (335, 10, 50), (348, 10, 49), (360, 10, 53), (379, 10, 65), (386, 10, 80), (389, 10, 85), (392, 10, 87), (395, 10, 66), (398, 10, 67), (401, 10, 68), (404, 10, 69), (407, 10, 70), (410, 10, 71), (413, 10, 72), (416, 10, 73), (419, 10, 74), (447, 10, 76), (586, 10, 89), (589, 10, 90)]
def KI_Mo : List (Nat × Nat) := [(198, 99999)]
def KL_Mo : List (Nat × Nat) := [(363, 1000000000000), (365, 18446743073709551616), (457, 1103515245), (459, 12345), (461, 2147483647), (463, 65536), (480, 99), (519, 9223372036854775808), (561, 18446744073709551615), (563, 100)]
set_option maxRecDepth 20000 in
theorem FL_Mo_ok : ∀ q ∈ FL_Mo, FO RX10 q.1 q.2.1 q.2.2 := FO_all [1451, 1454, 1456, 1475, 1476, 1477, 1478, 1479, 1480, 1481, 1482, 1483, 1484, 1485, 1486, 1487, 1488, 1489, 1490, 1491, 1492, 1493, 1494, 1495, 1502, 1503, 1505, 1506, 1507, 1508, 1509, 1510, 1511, 1512, 1513, 1514, 1515, 1526, 1528, 1529, 1530, 1532, 1533, 1534, 1535, 1537, 1539, 1453, 1452, 1455, 1461, 1457, 1458, 1459, 1460, 1462, 1469, 1470, 1471, 1472, 1473, 1474, 1499, 1463, 1464, 1465, 1466, 1467, 1468, 1497, 1496, 1498, 1501, 1500, 1504, 1516, 1531, 1536, 1538, 1517, 1518, 1519, 1520, 1521, 1522, 1523, 1524, 1525, 1527, 1540, 1541] (by decide +kernel) (by decide +kernel) (by decide +kernel)
theorem KI_Mo_ok : ∀ q ∈ KI_Mo, Cond.constant RX10 q.1 (nI q.2) ∈ TBg := KI_all [1758] (by decide +kernel) (by decide +kernel)
theorem KL_Mo_ok : ∀ q ∈ KL_Mo, Cond.constantLong RX10 q.1 (lN q.2) ∈ TBg := KL_all [1951, 1952, 2021, 2022, 2023, 2024, 2053, 1976, 2144, 2145] (by decide +kernel) (by decide +kernel)
def FL_Jint : List (Nat × Nat × Nat) := []
def KI_Jint : List (Nat × Nat) := [(265, 1431655765), (266, 858993459), (267, 252645135)]
def KL_Jint : List (Nat × Nat) := []
set_option maxRecDepth 20000 in
theorem FL_Jint_ok : ∀ q ∈ FL_Jint, FO RJ6 q.1 q.2.1 q.2.2 := FO_all [] (by decide +kernel) (by decide +kernel) (by decide +kernel)
theorem KI_Jint_ok : ∀ q ∈ KI_Jint, Cond.constant RJ6 q.1 (nI q.2) ∈ TBg := KI_all [984, 985, 986] (by decide +kernel) (by decide +kernel)
theorem KL_Jint_ok : ∀ q ∈ KL_Jint, Cond.constantLong RJ6 q.1 (lN q.2) ∈ TBg := KL_all [] (by decide +kernel) (by decide +kernel)
def FL_Jarr : List (Nat × Nat × Nat) := []
def KI_Jarr : List (Nat × Nat) := []
def KL_Jarr : List (Nat × Nat) := []
set_option maxRecDepth 20000 in
theorem FL_Jarr_ok : ∀ q ∈ FL_Jarr, FO RJ7 q.1 q.2.1 q.2.2 := FO_all [] (by decide +kernel) (by decide +kernel) (by decide +kernel)
theorem KI_Jarr_ok : ∀ q ∈ KI_Jarr, Cond.constant RJ7 q.1 (nI q.2) ∈ TBg := KI_all [] (by decide +kernel) (by decide +kernel)
theorem KL_Jarr_ok : ∀ q ∈ KL_Jarr, Cond.constantLong RJ7 q.1 (lN q.2) ∈ TBg := KL_all [] (by decide +kernel) (by decide +kernel)
end
section
/-! the words of the methods (by program), class by class -/
theorem tw0 {w : Cond} {i : Nat} (h : (k2_sels lw_privs)[i]? = some w) (hg : goodWord w = true) : w ∈ TBg := List.mem_filter.mpr ⟨List.mem_append_left _ (List.mem_of_getElem? h), hg⟩
theorem tw_t {w : Cond} (h : w ∈ tables_1) (hg : goodWord w = true) : w ∈ TBg := List.mem_filter.mpr ⟨List.mem_append_right _ h, hg⟩
theorem tw1 {w : Cond} {i : Nat} (h : tables_1_1[i]? = some w) (hg : goodWord w = true) : w ∈ TBg := tw_t (show w ∈ tables_1_1 ++ (tables_1_2 ++ (tables_1_3 ++ (tables_1_4 ++ (tables_1_5 ++ (tables_1_6 ++ (tables_1_7 ++ (tables_1_8 ++ tables_1_9))))))) from List.mem_append_left _ (List.mem_of_getElem? h)) hg
theorem tw2 {w : Cond} {i : Nat} (h : tables_1_2[i]? = some w) (hg : goodWord w = true) : w ∈ TBg := tw_t (show w ∈ tables_1_1 ++ (tables_1_2 ++ (tables_1_3 ++ (tables_1_4 ++ (tables_1_5 ++ (tables_1_6 ++ (tables_1_7 ++ (tables_1_8 ++ tables_1_9))))))) from List.mem_append_right _ (List.mem_append_left _ (List.mem_of_getElem? h))) hg
theorem tw3 {w : Cond} {i : Nat} (h : tables_1_3[i]? = some w) (hg : goodWord w = true) : w ∈ TBg := tw_t (show w ∈ tables_1_1 ++ (tables_1_2 ++ (tables_1_3 ++ (tables_1_4 ++ (tables_1_5 ++ (tables_1_6 ++ (tables_1_7 ++ (tables_1_8 ++ tables_1_9))))))) from List.mem_append_right _ (List.mem_append_right _ (List.mem_append_left _ (List.mem_of_getElem? h)))) hg
theorem tw4 {w : Cond} {i : Nat} (h : tables_1_4[i]? = some w) (hg : goodWord w = true) : w ∈ TBg := tw_t (show w ∈ tables_1_1 ++ (tables_1_2 ++ (tables_1_3 ++ (tables_1_4 ++ (tables_1_5 ++ (tables_1_6 ++ (tables_1_7 ++ (tables_1_8 ++ tables_1_9))))))) from List.mem_append_right _ (List.mem_append_right _ (List.mem_append_right _ (List.mem_append_left _ (List.mem_of_getElem? h))))) hg
theorem tw5 {w : Cond} {i : Nat} (h : tables_1_5[i]? = some w) (hg : goodWord w = true) : w ∈ TBg := tw_t (show w ∈ tables_1_1 ++ (tables_1_2 ++ (tables_1_3 ++ (tables_1_4 ++ (tables_1_5 ++ (tables_1_6 ++ (tables_1_7 ++ (tables_1_8 ++ tables_1_9))))))) from List.mem_append_right _ (List.mem_append_right _ (List.mem_append_right _ (List.mem_append_right _ (List.mem_append_left _ (List.mem_of_getElem? h)))))) hg
theorem tw6 {w : Cond} {i : Nat} (h : tables_1_6[i]? = some w) (hg : goodWord w = true) : w ∈ TBg := tw_t (show w ∈ tables_1_1 ++ (tables_1_2 ++ (tables_1_3 ++ (tables_1_4 ++ (tables_1_5 ++ (tables_1_6 ++ (tables_1_7 ++ (tables_1_8 ++ tables_1_9))))))) from List.mem_append_right _ (List.mem_append_right _ (List.mem_append_right _ (List.mem_append_right _ (List.mem_append_right _ (List.mem_append_left _ (List.mem_of_getElem? h))))))) hg
theorem tw7 {w : Cond} {i : Nat} (h : tables_1_7[i]? = some w) (hg : goodWord w = true) : w ∈ TBg := tw_t (show w ∈ tables_1_1 ++ (tables_1_2 ++ (tables_1_3 ++ (tables_1_4 ++ (tables_1_5 ++ (tables_1_6 ++ (tables_1_7 ++ (tables_1_8 ++ tables_1_9))))))) from List.mem_append_right _ (List.mem_append_right _ (List.mem_append_right _ (List.mem_append_right _ (List.mem_append_right _ (List.mem_append_right _ (List.mem_append_left _ (List.mem_of_getElem? h)))))))) hg
theorem tw8 {w : Cond} {i : Nat} (h : tables_1_8[i]? = some w) (hg : goodWord w = true) : w ∈ TBg := tw_t (show w ∈ tables_1_1 ++ (tables_1_2 ++ (tables_1_3 ++ (tables_1_4 ++ (tables_1_5 ++ (tables_1_6 ++ (tables_1_7 ++ (tables_1_8 ++ tables_1_9))))))) from List.mem_append_right _ (List.mem_append_right _ (List.mem_append_right _ (List.mem_append_right _ (List.mem_append_right _ (List.mem_append_right _ (List.mem_append_right _ (List.mem_append_left _ (List.mem_of_getElem? h))))))))) hg
theorem tw9 {w : Cond} {i : Nat} (h : tables_1_9[i]? = some w) (hg : goodWord w = true) : w ∈ TBg := tw_t (show w ∈ tables_1_1 ++ (tables_1_2 ++ (tables_1_3 ++ (tables_1_4 ++ (tables_1_5 ++ (tables_1_6 ++ (tables_1_7 ++ (tables_1_8 ++ tables_1_9))))))) from List.mem_append_right _ (List.mem_append_right _ (List.mem_append_right _ (List.mem_append_right _ (List.mem_append_right _ (List.mem_append_right _ (List.mem_append_right _ (List.mem_append_right _ (List.mem_of_getElem? h))))))))) hg
theorem co_nil {l : Launch} {R : Room} {own : String} : ∀ (j : Nat) (cal : Cal) (idx : Nat), ([] : List Cal)[j]? = some cal → ([] : List Nat)[j]? = some idx → CO l R own idx cal := fun j cal idx h => by simp at h
theorem co_cons {l : Launch} {R : Room} {own : String} {c0 : Cal} {i0 : Nat} {cs : List Cal} {is : List Nat} (h0 : CO l R own i0 c0) (h : ∀ (j : Nat) (cal : Cal) (idx : Nat), cs[j]? = some cal → is[j]? = some idx → CO l R own idx cal) :
    ∀ (j : Nat) (cal : Cal) (idx : Nat), (c0 :: cs)[j]? = some cal → (i0 :: is)[j]? = some idx → CO l R own idx cal
  | 0, cal, idx, h1, h2 => by
    rw [List.getElem?_cons_zero] at h1 h2
    cases h1
    cases h2
    exact h0
  | j + 1, cal, idx, h1, h2 => by
    rw [List.getElem?_cons_succ] at h1 h2
    exact h j cal idx h1 h2
end
section
theorem yf_Tokens_append : Cond.code yX8_append cX8_append 3 (none) ∈ TBg ∧ Cond.initialized RX8 ∈ TBg ∧ Cond.instanceMethod yX8_append ∈ TBg ∧ Cond.selects RX8 yX8_append yX8_append ∈ TBg := ⟨tw3 (i := 104) rfl rfl, tw1 (i := 2) rfl rfl, tw3 (i := 102) rfl rfl, tw3 (i := 103) rfl rfl⟩
theorem yd_Tokens_append : yX8_append.cls ≠ "java/lang/invoke/MethodHandle" ∧ yX8_append.cls ≠ "java/lang/invoke/VarHandle" ∧ (parseMethodDescriptor yX8_append.desc).map (fun d => d.parameters.length + 1) = some 2 := ⟨by decide +kernel, by decide +kernel, by decide +kernel⟩
set_option maxRecDepth 20000 in
theorem ck_Tokens_append : chkM cX8_append FL_Tokens KI_Tokens KL_Tokens [] C_Tokens_append.2.2.2.1 = true := by decide +kernel
set_option maxRecDepth 20000 in
theorem ct_Tokens_append (l : Launch) : Ct l yX8_append cX8_append 3 (none) ({ frames := 0, cells := 0, slots := 0, locals := 0 } : Room) (mD C_Tokens_append) := sound_of (C := C_Tokens_append) (FL := FL_Tokens) (KI := KI_Tokens) (KL := KL_Tokens) (CL := []) cf_all (by decide +kernel) rfl FL_Tokens_ok KI_Tokens_ok KL_Tokens_ok co_nil rfl ck_Tokens_append
theorem yf_GT_feed : Cond.code yX9_feed cX9_feed 6 (some .int) ∈ TBg ∧ Cond.initialized RX9 ∈ TBg ∧ Cond.instanceMethod yX9_feed ∈ TBg ∧ Cond.selects RX9 yX9_feed yX9_feed ∈ TBg := ⟨tw3 (i := 100) rfl rfl, tw1 (i := 1) rfl rfl, tw3 (i := 98) rfl rfl, tw3 (i := 99) rfl rfl⟩
theorem yd_GT_feed : yX9_feed.cls ≠ "java/lang/invoke/MethodHandle" ∧ yX9_feed.cls ≠ "java/lang/invoke/VarHandle" ∧ (parseMethodDescriptor yX9_feed.desc).map (fun d => d.parameters.length + 1) = some 6 := ⟨by decide +kernel, by decide +kernel, by decide +kernel⟩
set_option maxRecDepth 20000 in
theorem ck_GT_feed : chkM cX9_feed FL_GT KI_GT KL_GT [97] C_GT_feed.2.2.2.1 = true := by decide +kernel
set_option maxRecDepth 20000 in
theorem ct_GT_feed (l : Launch) : Ct l yX9_feed cX9_feed 6 (some .int) ({ frames := 1, cells := 0, slots := 0, locals := 22 } : Room) (mD C_GT_feed) := sound_of (C := C_GT_feed) (FL := FL_GT) (KI := KI_GT) (KL := KL_GT) (CL := [97]) cf_all (by decide +kernel) rfl FL_GT_ok KI_GT_ok KL_GT_ok (co_cons (show CO l ({ frames := 1, cells := 0, slots := 0, locals := 22 } : Room) RX9 97 (0, 8, 2, mD C_Tokens_append) from ⟨yX8_append, cX8_append, 3, none, ({ frames := 0, cells := 0, slots := 0, locals := 0 } : Room), (RX8, TX8, 12), ct_Tokens_append l, ⟨rfl, rfl, by decide, by decide⟩, yf_Tokens_append.1, yf_Tokens_append.2.1, tw3 (i := 101) rfl rfl, yd_Tokens_append, yf_Tokens_append.2.2.1, rfl, yf_Tokens_append.2.2.2⟩) co_nil) rfl ck_GT_feed
theorem yf_Jarr_fill : Cond.code yJ7_fill_53178 cJ7_fill_53178 4 (none) ∈ TBg ∧ Cond.initialized RJ7 ∈ TBg ∧ Cond.static yJ7_fill_53178 ∈ TBg := ⟨tw3 (i := 123) rfl rfl, tw1 (i := 16) rfl rfl, tw3 (i := 122) rfl rfl⟩
theorem yd_Jarr_fill : yJ7_fill_53178.cls ≠ "java/lang/invoke/MethodHandle" ∧ yJ7_fill_53178.cls ≠ "java/lang/invoke/VarHandle" ∧ (parseMethodDescriptor yJ7_fill_53178.desc).map (fun d => d.parameters.length) = some 2 := ⟨by decide +kernel, by decide +kernel, by decide +kernel⟩
set_option maxRecDepth 20000 in
theorem ck_Jarr_fill : chkM cJ7_fill_53178 FL_Jarr KI_Jarr KL_Jarr [] C_Jarr_fill.2.2.2.1 = true := by decide +kernel
set_option maxRecDepth 20000 in
theorem ct_Jarr_fill (l : Launch) : Ct l yJ7_fill_53178 cJ7_fill_53178 4 (none) ({ frames := 0, cells := 0, slots := 0, locals := 0 } : Room) (mD C_Jarr_fill) := sound_of (C := C_Jarr_fill) (FL := FL_Jarr) (KI := KI_Jarr) (KL := KL_Jarr) (CL := []) cf_all (by decide +kernel) rfl FL_Jarr_ok KI_Jarr_ok KL_Jarr_ok co_nil rfl ck_Jarr_fill
theorem yf_Laws_forget : Cond.code yX1_forget cX1_forget 1 (none) ∈ TBg ∧ Cond.initialized RX1 ∈ TBg ∧ Cond.instanceMethod yX1_forget ∈ TBg ∧ Cond.selects RX1 yX1_forget yX1_forget ∈ TBg := ⟨tw3 (i := 120) rfl rfl, tw1 (i := 8) rfl rfl, tw3 (i := 118) rfl rfl, tw3 (i := 119) rfl rfl⟩
theorem yd_Laws_forget : yX1_forget.cls ≠ "java/lang/invoke/MethodHandle" ∧ yX1_forget.cls ≠ "java/lang/invoke/VarHandle" ∧ (parseMethodDescriptor yX1_forget.desc).map (fun d => d.parameters.length + 1) = some 1 := ⟨by decide +kernel, by decide +kernel, by decide +kernel⟩
set_option maxRecDepth 20000 in
theorem ck_Laws_forget : chkM cX1_forget FL_Laws KI_Laws KL_Laws [31] C_Laws_forget.2.2.2.1 = true := by decide +kernel
set_option maxRecDepth 20000 in
theorem ct_Laws_forget (l : Launch) : Ct l yX1_forget cX1_forget 1 (none) ({ frames := 1, cells := 0, slots := 0, locals := 23 } : Room) (mD C_Laws_forget) := sound_of (C := C_Laws_forget) (FL := FL_Laws) (KI := KI_Laws) (KL := KL_Laws) (CL := [31]) cf_all (by decide +kernel) rfl FL_Laws_ok KI_Laws_ok KL_Laws_ok (co_cons (show CO l ({ frames := 1, cells := 0, slots := 0, locals := 23 } : Room) RX1 31 (1, 0, 2, mD C_Jarr_fill) from ⟨yJ7_fill_53178, cJ7_fill_53178, 4, none, ({ frames := 0, cells := 0, slots := 0, locals := 0 } : Room), ct_Jarr_fill l, ⟨rfl, rfl, by decide, by decide⟩, yf_Jarr_fill.1, yf_Jarr_fill.2.1, Or.inl (tw3 (i := 121) rfl rfl), yd_Jarr_fill, yf_Jarr_fill.2.2⟩) co_nil) rfl ck_Laws_forget
theorem yf_Plan_clear : Cond.code yX5_clear cX5_clear 1 (none) ∈ TBg ∧ Cond.initialized RX5 ∈ TBg ∧ Cond.instanceMethod yX5_clear ∈ TBg ∧ Cond.selects RX5 yX5_clear yX5_clear ∈ TBg := ⟨tw3 (i := 116) rfl rfl, tw1 (i := 7) rfl rfl, tw3 (i := 114) rfl rfl, tw3 (i := 115) rfl rfl⟩
theorem yd_Plan_clear : yX5_clear.cls ≠ "java/lang/invoke/MethodHandle" ∧ yX5_clear.cls ≠ "java/lang/invoke/VarHandle" ∧ (parseMethodDescriptor yX5_clear.desc).map (fun d => d.parameters.length + 1) = some 1 := ⟨by decide +kernel, by decide +kernel, by decide +kernel⟩
set_option maxRecDepth 20000 in
theorem ck_Plan_clear : chkM cX5_clear FL_Plan KI_Plan KL_Plan [77] C_Plan_clear.2.2.2.1 = true := by decide +kernel
set_option maxRecDepth 20000 in
theorem ct_Plan_clear (l : Launch) : Ct l yX5_clear cX5_clear 1 (none) ({ frames := 2, cells := 0, slots := 0, locals := 43 } : Room) (mD C_Plan_clear) := sound_of (C := C_Plan_clear) (FL := FL_Plan) (KI := KI_Plan) (KL := KL_Plan) (CL := [77]) cf_all (by decide +kernel) rfl FL_Plan_ok KI_Plan_ok KL_Plan_ok (co_cons (show CO l ({ frames := 2, cells := 0, slots := 0, locals := 43 } : Room) RX5 77 (0, 1, 1, mD C_Laws_forget) from ⟨yX1_forget, cX1_forget, 1, none, ({ frames := 1, cells := 0, slots := 0, locals := 23 } : Room), (RX1, TX1, 6), ct_Laws_forget l, ⟨rfl, rfl, by decide, by decide⟩, yf_Laws_forget.1, yf_Laws_forget.2.1, tw3 (i := 117) rfl rfl, yd_Laws_forget, yf_Laws_forget.2.2.1, rfl, yf_Laws_forget.2.2.2⟩) co_nil) rfl ck_Plan_clear
theorem yf_Tokens_isLetter : Cond.code yX8_isLetter cX8_isLetter 1 (some .boolean) ∈ TBg ∧ Cond.initialized RX8 ∈ TBg ∧ Cond.static yX8_isLetter ∈ TBg := ⟨tw3 (i := 137) rfl rfl, tw1 (i := 2) rfl rfl, tw3 (i := 136) rfl rfl⟩
theorem yd_Tokens_isLetter : yX8_isLetter.cls ≠ "java/lang/invoke/MethodHandle" ∧ yX8_isLetter.cls ≠ "java/lang/invoke/VarHandle" ∧ (parseMethodDescriptor yX8_isLetter.desc).map (fun d => d.parameters.length) = some 1 := ⟨by decide +kernel, by decide +kernel, by decide +kernel⟩
set_option maxRecDepth 20000 in
theorem ck_Tokens_isLetter : chkM cX8_isLetter FL_Tokens KI_Tokens KL_Tokens [] C_Tokens_isLetter.2.2.2.1 = true := by decide +kernel
set_option maxRecDepth 20000 in
theorem ct_Tokens_isLetter (l : Launch) : Ct l yX8_isLetter cX8_isLetter 1 (some .boolean) ({ frames := 0, cells := 0, slots := 0, locals := 0 } : Room) (mD C_Tokens_isLetter) := sound_of (C := C_Tokens_isLetter) (FL := FL_Tokens) (KI := KI_Tokens) (KL := KL_Tokens) (CL := []) cf_all (by decide +kernel) rfl FL_Tokens_ok KI_Tokens_ok KL_Tokens_ok co_nil rfl ck_Tokens_isLetter
theorem yf_GT_find : Cond.code yX9_find cX9_find 4 (some .int) ∈ TBg ∧ Cond.initialized RX9 ∈ TBg ∧ Cond.static yX9_find ∈ TBg := ⟨tw3 (i := 144) rfl rfl, tw1 (i := 1) rfl rfl, tw3 (i := 143) rfl rfl⟩
theorem yd_GT_find : yX9_find.cls ≠ "java/lang/invoke/MethodHandle" ∧ yX9_find.cls ≠ "java/lang/invoke/VarHandle" ∧ (parseMethodDescriptor yX9_find.desc).map (fun d => d.parameters.length) = some 3 := ⟨by decide +kernel, by decide +kernel, by decide +kernel⟩
set_option maxRecDepth 20000 in
theorem ck_GT_find : chkM cX9_find FL_GT KI_GT KL_GT [] C_GT_find.2.2.2.1 = true := by decide +kernel
set_option maxRecDepth 20000 in
theorem ct_GT_find (l : Launch) : Ct l yX9_find cX9_find 4 (some .int) ({ frames := 0, cells := 0, slots := 0, locals := 0 } : Room) (mD C_GT_find) := sound_of (C := C_GT_find) (FL := FL_GT) (KI := KI_GT) (KL := KL_GT) (CL := []) cf_all (by decide +kernel) rfl FL_GT_ok KI_GT_ok KL_GT_ok co_nil rfl ck_GT_find
theorem yf_Tokens_word : Cond.code yX8_word cX8_word 3 (none) ∈ TBg ∧ Cond.initialized RX8 ∈ TBg ∧ Cond.instanceMethod yX8_word ∈ TBg ∧ Cond.selects RX8 yX8_word yX8_word ∈ TBg := ⟨tw3 (i := 141) rfl rfl, tw1 (i := 2) rfl rfl, tw3 (i := 140) rfl rfl, tw0 (i := 1) rfl rfl⟩
theorem yd_Tokens_word : yX8_word.cls ≠ "java/lang/invoke/MethodHandle" ∧ yX8_word.cls ≠ "java/lang/invoke/VarHandle" ∧ (parseMethodDescriptor yX8_word.desc).map (fun d => d.parameters.length + 1) = some 1 := ⟨by decide +kernel, by decide +kernel, by decide +kernel⟩
set_option maxRecDepth 20000 in
theorem ck_Tokens_word : chkM cX8_word FL_Tokens KI_Tokens KL_Tokens [75, 95] C_Tokens_word.2.2.2.1 = true := by decide +kernel
set_option maxRecDepth 20000 in
theorem ct_Tokens_word (l : Launch) : Ct l yX8_word cX8_word 3 (none) ({ frames := 1, cells := 0, slots := 0, locals := 23 } : Room) (mD C_Tokens_word) := sound_of (C := C_Tokens_word) (FL := FL_Tokens) (KI := KI_Tokens) (KL := KL_Tokens) (CL := [75, 95]) cf_all (by decide +kernel) rfl FL_Tokens_ok KI_Tokens_ok KL_Tokens_ok (co_cons (show CO l ({ frames := 1, cells := 0, slots := 0, locals := 23 } : Room) RX8 75 (1, 0, 1, mD C_Tokens_isLetter) from ⟨yX8_isLetter, cX8_isLetter, 1, some .boolean, ({ frames := 0, cells := 0, slots := 0, locals := 0 } : Room), ct_Tokens_isLetter l, ⟨rfl, rfl, by decide, by decide⟩, yf_Tokens_isLetter.1, yf_Tokens_isLetter.2.1, Or.inl (tw3 (i := 135) rfl rfl), yd_Tokens_isLetter, yf_Tokens_isLetter.2.2⟩) (co_cons (show CO l ({ frames := 1, cells := 0, slots := 0, locals := 23 } : Room) RX8 95 (1, 0, 3, mD C_GT_find) from ⟨yX9_find, cX9_find, 4, some .int, ({ frames := 0, cells := 0, slots := 0, locals := 0 } : Room), ct_GT_find l, ⟨rfl, rfl, by decide, by decide⟩, yf_GT_find.1, yf_GT_find.2.1, Or.inr ⟨RX9, List.mem_of_getElem? (i := 0) rfl⟩, yd_GT_find, yf_GT_find.2.2⟩) co_nil)) rfl ck_Tokens_word
theorem yf_Tokens_isDigit : Cond.code yX8_isDigit cX8_isDigit 1 (some .boolean) ∈ TBg ∧ Cond.initialized RX8 ∈ TBg ∧ Cond.static yX8_isDigit ∈ TBg := ⟨tw3 (i := 147) rfl rfl, tw1 (i := 2) rfl rfl, tw3 (i := 146) rfl rfl⟩
theorem yd_Tokens_isDigit : yX8_isDigit.cls ≠ "java/lang/invoke/MethodHandle" ∧ yX8_isDigit.cls ≠ "java/lang/invoke/VarHandle" ∧ (parseMethodDescriptor yX8_isDigit.desc).map (fun d => d.parameters.length) = some 1 := ⟨by decide +kernel, by decide +kernel, by decide +kernel⟩
set_option maxRecDepth 20000 in
theorem ck_Tokens_isDigit : chkM cX8_isDigit FL_Tokens KI_Tokens KL_Tokens [] C_Tokens_isDigit.2.2.2.1 = true := by decide +kernel
set_option maxRecDepth 20000 in
theorem ct_Tokens_isDigit (l : Launch) : Ct l yX8_isDigit cX8_isDigit 1 (some .boolean) ({ frames := 0, cells := 0, slots := 0, locals := 0 } : Room) (mD C_Tokens_isDigit) := sound_of (C := C_Tokens_isDigit) (FL := FL_Tokens) (KI := KI_Tokens) (KL := KL_Tokens) (CL := []) cf_all (by decide +kernel) rfl FL_Tokens_ok KI_Tokens_ok KL_Tokens_ok co_nil rfl ck_Tokens_isDigit
theorem yf_Tokens_number : Cond.code yX8_number cX8_number 1 (none) ∈ TBg ∧ Cond.initialized RX8 ∈ TBg ∧ Cond.instanceMethod yX8_number ∈ TBg ∧ Cond.selects RX8 yX8_number yX8_number ∈ TBg := ⟨tw3 (i := 151) rfl rfl, tw1 (i := 2) rfl rfl, tw3 (i := 150) rfl rfl, tw0 (i := 2) rfl rfl⟩
theorem yd_Tokens_number : yX8_number.cls ≠ "java/lang/invoke/MethodHandle" ∧ yX8_number.cls ≠ "java/lang/invoke/VarHandle" ∧ (parseMethodDescriptor yX8_number.desc).map (fun d => d.parameters.length + 1) = some 1 := ⟨by decide +kernel, by decide +kernel, by decide +kernel⟩
set_option maxRecDepth 20000 in
theorem ck_Tokens_number : chkM cX8_number FL_Tokens KI_Tokens KL_Tokens [82, 62] C_Tokens_number.2.2.2.1 = true := by decide +kernel
set_option maxRecDepth 20000 in
theorem ct_Tokens_number (l : Launch) : Ct l yX8_number cX8_number 1 (none) ({ frames := 1, cells := 0, slots := 0, locals := 44 } : Room) (mD C_Tokens_number) := sound_of (C := C_Tokens_number) (FL := FL_Tokens) (KI := KI_Tokens) (KL := KL_Tokens) (CL := [82, 62]) cf_all (by decide +kernel) rfl FL_Tokens_ok KI_Tokens_ok KL_Tokens_ok (co_cons (show CO l ({ frames := 1, cells := 0, slots := 0, locals := 44 } : Room) RX8 82 (1, 0, 1, mD C_Tokens_isDigit) from ⟨yX8_isDigit, cX8_isDigit, 1, some .boolean, ({ frames := 0, cells := 0, slots := 0, locals := 0 } : Room), ct_Tokens_isDigit l, ⟨rfl, rfl, by decide, by decide⟩, yf_Tokens_isDigit.1, yf_Tokens_isDigit.2.1, Or.inl (tw3 (i := 145) rfl rfl), yd_Tokens_isDigit, yf_Tokens_isDigit.2.2⟩) (co_cons (show CO l ({ frames := 1, cells := 0, slots := 0, locals := 44 } : Room) RX8 62 (3, 0, 0, fun _ _ => none) from ⟨by decide, by decide, tw3 (i := 128) rfl rfl, tw3 (i := 129) rfl rfl, tw1 (i := 17) rfl rfl, tw3 (i := 130) rfl rfl⟩) co_nil)) rfl ck_Tokens_number
end
