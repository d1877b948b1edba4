section
-- ===== PART A: goes FIRST, ahead of the names: the tables' words, and 'selects' of the private methods out of them =====
/-- a private method of a class that the tables say can be made, by its rows of tables_1 -/
def lw_okq (q : MethodName × Nat) : Prop := (q.1.cls ≠ "java/lang/invoke/MethodHandle" ∧ q.1.cls ≠ "java/lang/invoke/VarHandle") ∧ Cond.instantiable q.1.cls q.2 ∈ tables_1 ∧ Cond.privateMethod q.1 ∈ tables_1 ∧ Cond.instanceMethod q.1 ∈ tables_1
theorem lw_p0 : lw_okq (⟨"BentYards$Reader", "nextToken", "()V"⟩, 9) := ⟨⟨by decide +kernel, by decide +kernel⟩, List.mem_of_getElem? (i := 110) (by decide +kernel), List.mem_of_getElem? (i := 281) (by decide +kernel), List.mem_of_getElem? (i := 282) (by decide +kernel)⟩
theorem lw_p1 : lw_okq (⟨"BentYards$Reader", "byteAt", "(I)I"⟩, 9) := ⟨⟨by decide +kernel, by decide +kernel⟩, List.mem_of_getElem? (i := 110) (by decide +kernel), List.mem_of_getElem? (i := 285) (by decide +kernel), List.mem_of_getElem? (i := 286) (by decide +kernel)⟩
theorem lw_p2 : lw_okq (⟨"BentYards$Reader", "isWord", "(Ljava/lang/String;)Z"⟩, 9) := ⟨⟨by decide +kernel, by decide +kernel⟩, List.mem_of_getElem? (i := 110) (by decide +kernel), List.mem_of_getElem? (i := 304) (by decide +kernel), List.mem_of_getElem? (i := 305) (by decide +kernel)⟩
theorem lw_p3 : lw_okq (⟨"BentYards$Reader", "readYard", "()Z"⟩, 9) := ⟨⟨by decide +kernel, by decide +kernel⟩, List.mem_of_getElem? (i := 110) (by decide +kernel), List.mem_of_getElem? (i := 356) (by decide +kernel), List.mem_of_getElem? (i := 357) (by decide +kernel)⟩
theorem lw_p4 : lw_okq (⟨"BentYards$Reader", "nextNumber", "(II)Z"⟩, 9) := ⟨⟨by decide +kernel, by decide +kernel⟩, List.mem_of_getElem? (i := 110) (by decide +kernel), List.mem_of_getElem? (i := 360) (by decide +kernel), List.mem_of_getElem? (i := 361) (by decide +kernel)⟩
theorem lw_p5 : lw_okq (⟨"BentYards$Reader", "takeNumber", "()Z"⟩, 9) := ⟨⟨by decide +kernel, by decide +kernel⟩, List.mem_of_getElem? (i := 110) (by decide +kernel), List.mem_of_getElem? (i := 364) (by decide +kernel), List.mem_of_getElem? (i := 365) (by decide +kernel)⟩
theorem lw_p6 : lw_okq (⟨"BentYards$Reader", "nextSemicolon", "()Z"⟩, 9) := ⟨⟨by decide +kernel, by decide +kernel⟩, List.mem_of_getElem? (i := 110) (by decide +kernel), List.mem_of_getElem? (i := 371) (by decide +kernel), List.mem_of_getElem? (i := 372) (by decide +kernel)⟩
theorem lw_p7 : lw_okq (⟨"BentYards$Reader", "readOnCell", "()Z"⟩, 9) := ⟨⟨by decide +kernel, by decide +kernel⟩, List.mem_of_getElem? (i := 110) (by decide +kernel), List.mem_of_getElem? (i := 375) (by decide +kernel), List.mem_of_getElem? (i := 376) (by decide +kernel)⟩
theorem lw_p8 : lw_okq (⟨"BentYards$Reader", "nextCell", "()I"⟩, 9) := ⟨⟨by decide +kernel, by decide +kernel⟩, List.mem_of_getElem? (i := 110) (by decide +kernel), List.mem_of_getElem? (i := 381) (by decide +kernel), List.mem_of_getElem? (i := 382) (by decide +kernel)⟩
theorem lw_p9 : lw_okq (⟨"BentYards$Reader", "endHouse", "(I)Z"⟩, 9) := ⟨⟨by decide +kernel, by decide +kernel⟩, List.mem_of_getElem? (i := 110) (by decide +kernel), List.mem_of_getElem? (i := 385) (by decide +kernel), List.mem_of_getElem? (i := 386) (by decide +kernel)⟩
theorem lw_p10 : lw_okq (⟨"BentYards$Reader", "endChain", "(I)Z"⟩, 9) := ⟨⟨by decide +kernel, by decide +kernel⟩, List.mem_of_getElem? (i := 110) (by decide +kernel), List.mem_of_getElem? (i := 389) (by decide +kernel), List.mem_of_getElem? (i := 390) (by decide +kernel)⟩
theorem lw_p11 : lw_okq (⟨"BentYards$Reader", "takeSteps", "()Z"⟩, 9) := ⟨⟨by decide +kernel, by decide +kernel⟩, List.mem_of_getElem? (i := 110) (by decide +kernel), List.mem_of_getElem? (i := 397) (by decide +kernel), List.mem_of_getElem? (i := 398) (by decide +kernel)⟩
theorem lw_p12 : lw_okq (⟨"BentYards$Walks", "lookAt", "(LBentYards$Site;)V"⟩, 9) := ⟨⟨by decide +kernel, by decide +kernel⟩, List.mem_of_getElem? (i := 153) (by decide +kernel), List.mem_of_getElem? (i := 511) (by decide +kernel), List.mem_of_getElem? (i := 512) (by decide +kernel)⟩
theorem lw_p13 : lw_okq (⟨"BentYards$Walks", "after", "(II)I"⟩, 9) := ⟨⟨by decide +kernel, by decide +kernel⟩, List.mem_of_getElem? (i := 153) (by decide +kernel), List.mem_of_getElem? (i := 523) (by decide +kernel), List.mem_of_getElem? (i := 524) (by decide +kernel)⟩
theorem lw_p14 : lw_okq (⟨"BentYards$Walks", "fillRow", "(II)V"⟩, 9) := ⟨⟨by decide +kernel, by decide +kernel⟩, List.mem_of_getElem? (i := 153) (by decide +kernel), List.mem_of_getElem? (i := 527) (by decide +kernel), List.mem_of_getElem? (i := 528) (by decide +kernel)⟩
theorem lw_p15 : lw_okq (⟨"BentYards$Walks", "goOneStep", "([J[J)V"⟩, 9) := ⟨⟨by decide +kernel, by decide +kernel⟩, List.mem_of_getElem? (i := 153) (by decide +kernel), List.mem_of_getElem? (i := 546) (by decide +kernel), List.mem_of_getElem? (i := 547) (by decide +kernel)⟩
def lw_privs_1 : List (MethodName × Nat) := [(⟨"BentYards$Reader", "nextToken", "()V"⟩, 9), (⟨"BentYards$Reader", "byteAt", "(I)I"⟩, 9), (⟨"BentYards$Reader", "isWord", "(Ljava/lang/String;)Z"⟩, 9), (⟨"BentYards$Reader", "readYard", "()Z"⟩, 9), (⟨"BentYards$Reader", "nextNumber", "(II)Z"⟩, 9), (⟨"BentYards$Reader", "takeNumber", "()Z"⟩, 9), (⟨"BentYards$Reader", "nextSemicolon", "()Z"⟩, 9), (⟨"BentYards$Reader", "readOnCell", "()Z"⟩, 9), (⟨"BentYards$Reader", "nextCell", "()I"⟩, 9), (⟨"BentYards$Reader", "endHouse", "(I)Z"⟩, 9), (⟨"BentYards$Reader", "endChain", "(I)Z"⟩, 9), (⟨"BentYards$Reader", "takeSteps", "()Z"⟩, 9), (⟨"BentYards$Walks", "lookAt", "(LBentYards$Site;)V"⟩, 9), (⟨"BentYards$Walks", "after", "(II)I"⟩, 9), (⟨"BentYards$Walks", "fillRow", "(II)V"⟩, 9), (⟨"BentYards$Walks", "goOneStep", "([J[J)V"⟩, 9)]
theorem lw_r1 : ∀ q ∈ lw_privs_1, lw_okq q := List.forall_mem_cons.mpr ⟨lw_p0, List.forall_mem_cons.mpr ⟨lw_p1, List.forall_mem_cons.mpr ⟨lw_p2, List.forall_mem_cons.mpr ⟨lw_p3, List.forall_mem_cons.mpr ⟨lw_p4, List.forall_mem_cons.mpr ⟨lw_p5, List.forall_mem_cons.mpr ⟨lw_p6, List.forall_mem_cons.mpr ⟨lw_p7, List.forall_mem_cons.mpr ⟨lw_p8, List.forall_mem_cons.mpr ⟨lw_p9, List.forall_mem_cons.mpr ⟨lw_p10, List.forall_mem_cons.mpr ⟨lw_p11, List.forall_mem_cons.mpr ⟨lw_p12, List.forall_mem_cons.mpr ⟨lw_p13, List.forall_mem_cons.mpr ⟨lw_p14, List.forall_mem_cons.mpr ⟨lw_p15, fun _ h => absurd h List.not_mem_nil⟩⟩⟩⟩⟩⟩⟩⟩⟩⟩⟩⟩⟩⟩⟩⟩
theorem lw_p16 : lw_okq (⟨"BentYards$Walks", "fewestFrom", "(LBentYards$Chain;II)I"⟩, 9) := ⟨⟨by decide +kernel, by decide +kernel⟩, List.mem_of_getElem? (i := 153) (by decide +kernel), List.mem_of_getElem? (i := 558) (by decide +kernel), List.mem_of_getElem? (i := 559) (by decide +kernel)⟩
theorem lw_p17 : lw_okq (⟨"BentYards$Walks", "differsBy", "(LBentYards$Chain;III)I"⟩, 9) := ⟨⟨by decide +kernel, by decide +kernel⟩, List.mem_of_getElem? (i := 153) (by decide +kernel), List.mem_of_getElem? (i := 562) (by decide +kernel), List.mem_of_getElem? (i := 563) (by decide +kernel)⟩
theorem lw_p18 : lw_okq (⟨"BentYards$Walks", "fillMended", "(LBentYards$Chain;I)V"⟩, 9) := ⟨⟨by decide +kernel, by decide +kernel⟩, List.mem_of_getElem? (i := 153) (by decide +kernel), List.mem_of_getElem? (i := 567) (by decide +kernel), List.mem_of_getElem? (i := 568) (by decide +kernel)⟩
theorem lw_p19 : lw_okq (⟨"BentYards$Wind", "lookAlong", "(III)V"⟩, 10) := ⟨⟨by decide +kernel, by decide +kernel⟩, List.mem_of_getElem? (i := 189) (by decide +kernel), List.mem_of_getElem? (i := 583) (by decide +kernel), List.mem_of_getElem? (i := 584) (by decide +kernel)⟩
theorem lw_p20 : lw_okq (⟨"BentYards$Wind", "findStretches", "()V"⟩, 10) := ⟨⟨by decide +kernel, by decide +kernel⟩, List.mem_of_getElem? (i := 189) (by decide +kernel), List.mem_of_getElem? (i := 608) (by decide +kernel), List.mem_of_getElem? (i := 609) (by decide +kernel)⟩
theorem lw_p21 : lw_okq (⟨"BentYards$Wind", "cellsOf", "(II)I"⟩, 10) := ⟨⟨by decide +kernel, by decide +kernel⟩, List.mem_of_getElem? (i := 189) (by decide +kernel), List.mem_of_getElem? (i := 612) (by decide +kernel), List.mem_of_getElem? (i := 613) (by decide +kernel)⟩
theorem lw_p22 : lw_okq (⟨"BentYards$Wind", "breakAll", "(I)Z"⟩, 10) := ⟨⟨by decide +kernel, by decide +kernel⟩, List.mem_of_getElem? (i := 189) (by decide +kernel), List.mem_of_getElem? (i := 619) (by decide +kernel), List.mem_of_getElem? (i := 620) (by decide +kernel)⟩
theorem lw_p23 : lw_okq (⟨"BentYards", "markAsChain", "(LBentYards$Chain;)I"⟩, 8) := ⟨⟨by decide +kernel, by decide +kernel⟩, List.mem_of_getElem? (i := 17) (by decide +kernel), List.mem_of_getElem? (i := 683) (by decide +kernel), List.mem_of_getElem? (i := 684) (by decide +kernel)⟩
theorem lw_p24 : lw_okq (⟨"BentYards", "markAsWall", "(LBentYards$Chain;)I"⟩, 8) := ⟨⟨by decide +kernel, by decide +kernel⟩, List.mem_of_getElem? (i := 17) (by decide +kernel), List.mem_of_getElem? (i := 687) (by decide +kernel), List.mem_of_getElem? (i := 688) (by decide +kernel)⟩
theorem lw_p25 : lw_okq (⟨"BentYards", "markAsWay", "(LBentYards$Chain;)I"⟩, 8) := ⟨⟨by decide +kernel, by decide +kernel⟩, List.mem_of_getElem? (i := 17) (by decide +kernel), List.mem_of_getElem? (i := 692) (by decide +kernel), List.mem_of_getElem? (i := 693) (by decide +kernel)⟩
theorem lw_p26 : lw_okq (⟨"BentYards", "markAsDoor", "(LBentYards$Chain;I)I"⟩, 8) := ⟨⟨by decide +kernel, by decide +kernel⟩, List.mem_of_getElem? (i := 17) (by decide +kernel), List.mem_of_getElem? (i := 697) (by decide +kernel), List.mem_of_getElem? (i := 698) (by decide +kernel)⟩
theorem lw_p27 : lw_okq (⟨"BentYards", "markAsGlance", "(LBentYards$Chain;)I"⟩, 8) := ⟨⟨by decide +kernel, by decide +kernel⟩, List.mem_of_getElem? (i := 17) (by decide +kernel), List.mem_of_getElem? (i := 702) (by decide +kernel), List.mem_of_getElem? (i := 703) (by decide +kernel)⟩
theorem lw_p28 : lw_okq (⟨"BentYards", "markAsRope", "(LBentYards$Chain;)I"⟩, 8) := ⟨⟨by decide +kernel, by decide +kernel⟩, List.mem_of_getElem? (i := 17) (by decide +kernel), List.mem_of_getElem? (i := 707) (by decide +kernel), List.mem_of_getElem? (i := 708) (by decide +kernel)⟩
theorem lw_p29 : lw_okq (⟨"BentYardsModel", "next", "()V"⟩, 25) := ⟨⟨by decide +kernel, by decide +kernel⟩, List.mem_of_getElem? (i := 728) (by decide +kernel), List.mem_of_getElem? (i := 826) (by decide +kernel), List.mem_of_getElem? (i := 827) (by decide +kernel)⟩
theorem lw_p30 : lw_okq (⟨"BentYardsModel", "here", "()I"⟩, 25) := ⟨⟨by decide +kernel, by decide +kernel⟩, List.mem_of_getElem? (i := 728) (by decide +kernel), List.mem_of_getElem? (i := 830) (by decide +kernel), List.mem_of_getElem? (i := 831) (by decide +kernel)⟩
theorem lw_p31 : lw_okq (⟨"BentYardsModel", "readItem", "(I)V"⟩, 25) := ⟨⟨by decide +kernel, by decide +kernel⟩, List.mem_of_getElem? (i := 728) (by decide +kernel), List.mem_of_getElem? (i := 837) (by decide +kernel), List.mem_of_getElem? (i := 838) (by decide +kernel)⟩
def lw_privs_2 : List (MethodName × Nat) := [(⟨"BentYards$Walks", "fewestFrom", "(LBentYards$Chain;II)I"⟩, 9), (⟨"BentYards$Walks", "differsBy", "(LBentYards$Chain;III)I"⟩, 9), (⟨"BentYards$Walks", "fillMended", "(LBentYards$Chain;I)V"⟩, 9), (⟨"BentYards$Wind", "lookAlong", "(III)V"⟩, 10), (⟨"BentYards$Wind", "findStretches", "()V"⟩, 10), (⟨"BentYards$Wind", "cellsOf", "(II)I"⟩, 10), (⟨"BentYards$Wind", "breakAll", "(I)Z"⟩, 10), (⟨"BentYards", "markAsChain", "(LBentYards$Chain;)I"⟩, 8), (⟨"BentYards", "markAsWall", "(LBentYards$Chain;)I"⟩, 8), (⟨"BentYards", "markAsWay", "(LBentYards$Chain;)I"⟩, 8), (⟨"BentYards", "markAsDoor", "(LBentYards$Chain;I)I"⟩, 8), (⟨"BentYards", "markAsGlance", "(LBentYards$Chain;)I"⟩, 8), (⟨"BentYards", "markAsRope", "(LBentYards$Chain;)I"⟩, 8), (⟨"BentYardsModel", "next", "()V"⟩, 25), (⟨"BentYardsModel", "here", "()I"⟩, 25), (⟨"BentYardsModel", "readItem", "(I)V"⟩, 25)]
theorem lw_r2 : ∀ q ∈ lw_privs_2, lw_okq q := List.forall_mem_cons.mpr ⟨lw_p16, List.forall_mem_cons.mpr ⟨lw_p17, List.forall_mem_cons.mpr ⟨lw_p18, List.forall_mem_cons.mpr ⟨lw_p19, List.forall_mem_cons.mpr ⟨lw_p20, List.forall_mem_cons.mpr ⟨lw_p21, List.forall_mem_cons.mpr ⟨lw_p22, List.forall_mem_cons.mpr ⟨lw_p23, List.forall_mem_cons.mpr ⟨lw_p24, List.forall_mem_cons.mpr ⟨lw_p25, List.forall_mem_cons.mpr ⟨lw_p26, List.forall_mem_cons.mpr ⟨lw_p27, List.forall_mem_cons.mpr ⟨lw_p28, List.forall_mem_cons.mpr ⟨lw_p29, List.forall_mem_cons.mpr ⟨lw_p30, List.forall_mem_cons.mpr ⟨lw_p31, fun _ h => absurd h List.not_mem_nil⟩⟩⟩⟩⟩⟩⟩⟩⟩⟩⟩⟩⟩⟩⟩⟩
theorem lw_p32 : lw_okq (⟨"BentYardsModel", "due", "(Z)I"⟩, 25) := ⟨⟨by decide +kernel, by decide +kernel⟩, List.mem_of_getElem? (i := 728) (by decide +kernel), List.mem_of_getElem? (i := 841) (by decide +kernel), List.mem_of_getElem? (i := 842) (by decide +kernel)⟩
theorem lw_p33 : lw_okq (⟨"BentYardsModel", "number", "(II)I"⟩, 25) := ⟨⟨by decide +kernel, by decide +kernel⟩, List.mem_of_getElem? (i := 728) (by decide +kernel), List.mem_of_getElem? (i := 845) (by decide +kernel), List.mem_of_getElem? (i := 846) (by decide +kernel)⟩
theorem lw_p34 : lw_okq (⟨"BentYardsModel", "readChain", "()V"⟩, 25) := ⟨⟨by decide +kernel, by decide +kernel⟩, List.mem_of_getElem? (i := 728) (by decide +kernel), List.mem_of_getElem? (i := 849) (by decide +kernel), List.mem_of_getElem? (i := 850) (by decide +kernel)⟩
theorem lw_p35 : lw_okq (⟨"BentYardsModel", "goesOn", "()Z"⟩, 25) := ⟨⟨by decide +kernel, by decide +kernel⟩, List.mem_of_getElem? (i := 728) (by decide +kernel), List.mem_of_getElem? (i := 853) (by decide +kernel), List.mem_of_getElem? (i := 854) (by decide +kernel)⟩
theorem lw_p36 : lw_okq (⟨"BentYardsModel", "off", "(III)I"⟩, 25) := ⟨⟨by decide +kernel, by decide +kernel⟩, List.mem_of_getElem? (i := 728) (by decide +kernel), List.mem_of_getElem? (i := 860) (by decide +kernel), List.mem_of_getElem? (i := 861) (by decide +kernel)⟩
theorem lw_p37 : lw_okq (⟨"BentYardsModel", "copy", "(II)V"⟩, 25) := ⟨⟨by decide +kernel, by decide +kernel⟩, List.mem_of_getElem? (i := 728) (by decide +kernel), List.mem_of_getElem? (i := 864) (by decide +kernel), List.mem_of_getElem? (i := 865) (by decide +kernel)⟩
theorem lw_p38 : lw_okq (⟨"BentYardsModel", "isCell", "(I)Z"⟩, 25) := ⟨⟨by decide +kernel, by decide +kernel⟩, List.mem_of_getElem? (i := 728) (by decide +kernel), List.mem_of_getElem? (i := 872) (by decide +kernel), List.mem_of_getElem? (i := 873) (by decide +kernel)⟩
theorem lw_p39 : lw_okq (⟨"BentYardsModel", "cells", "()I"⟩, 25) := ⟨⟨by decide +kernel, by decide +kernel⟩, List.mem_of_getElem? (i := 728) (by decide +kernel), List.mem_of_getElem? (i := 876) (by decide +kernel), List.mem_of_getElem? (i := 877) (by decide +kernel)⟩
theorem lw_p40 : lw_okq (⟨"BentYardsModel", "isHouse", "(I)Z"⟩, 25) := ⟨⟨by decide +kernel, by decide +kernel⟩, List.mem_of_getElem? (i := 728) (by decide +kernel), List.mem_of_getElem? (i := 880) (by decide +kernel), List.mem_of_getElem? (i := 881) (by decide +kernel)⟩
theorem lw_p41 : lw_okq (⟨"BentYardsModel", "onChains", "()I"⟩, 25) := ⟨⟨by decide +kernel, by decide +kernel⟩, List.mem_of_getElem? (i := 728) (by decide +kernel), List.mem_of_getElem? (i := 884) (by decide +kernel), List.mem_of_getElem? (i := 885) (by decide +kernel)⟩
theorem lw_p42 : lw_okq (⟨"BentYardsModel", "steps", "(I)I"⟩, 25) := ⟨⟨by decide +kernel, by decide +kernel⟩, List.mem_of_getElem? (i := 728) (by decide +kernel), List.mem_of_getElem? (i := 888) (by decide +kernel), List.mem_of_getElem? (i := 889) (by decide +kernel)⟩
theorem lw_p43 : lw_okq (⟨"BentYardsModel", "stepIn", "(II)I"⟩, 25) := ⟨⟨by decide +kernel, by decide +kernel⟩, List.mem_of_getElem? (i := 728) (by decide +kernel), List.mem_of_getElem? (i := 892) (by decide +kernel), List.mem_of_getElem? (i := 893) (by decide +kernel)⟩
theorem lw_p44 : lw_okq (⟨"BentYardsModel", "isChain", "(I)Z"⟩, 25) := ⟨⟨by decide +kernel, by decide +kernel⟩, List.mem_of_getElem? (i := 728) (by decide +kernel), List.mem_of_getElem? (i := 900) (by decide +kernel), List.mem_of_getElem? (i := 901) (by decide +kernel)⟩
theorem lw_p45 : lw_okq (⟨"BentYardsModel", "lastCell", "(I)I"⟩, 25) := ⟨⟨by decide +kernel, by decide +kernel⟩, List.mem_of_getElem? (i := 728) (by decide +kernel), List.mem_of_getElem? (i := 904) (by decide +kernel), List.mem_of_getElem? (i := 905) (by decide +kernel)⟩
theorem lw_p46 : lw_okq (⟨"BentYardsModel", "longest", "(I)I"⟩, 25) := ⟨⟨by decide +kernel, by decide +kernel⟩, List.mem_of_getElem? (i := 728) (by decide +kernel), List.mem_of_getElem? (i := 908) (by decide +kernel), List.mem_of_getElem? (i := 909) (by decide +kernel)⟩
theorem lw_p47 : lw_okq (⟨"BentYardsModel", "runAt", "(II)I"⟩, 25) := ⟨⟨by decide +kernel, by decide +kernel⟩, List.mem_of_getElem? (i := 728) (by decide +kernel), List.mem_of_getElem? (i := 912) (by decide +kernel), List.mem_of_getElem? (i := 913) (by decide +kernel)⟩
def lw_privs_3 : List (MethodName × Nat) := [(⟨"BentYardsModel", "due", "(Z)I"⟩, 25), (⟨"BentYardsModel", "number", "(II)I"⟩, 25), (⟨"BentYardsModel", "readChain", "()V"⟩, 25), (⟨"BentYardsModel", "goesOn", "()Z"⟩, 25), (⟨"BentYardsModel", "off", "(III)I"⟩, 25), (⟨"BentYardsModel", "copy", "(II)V"⟩, 25), (⟨"BentYardsModel", "isCell", "(I)Z"⟩, 25), (⟨"BentYardsModel", "cells", "()I"⟩, 25), (⟨"BentYardsModel", "isHouse", "(I)Z"⟩, 25), (⟨"BentYardsModel", "onChains", "()I"⟩, 25), (⟨"BentYardsModel", "steps", "(I)I"⟩, 25), (⟨"BentYardsModel", "stepIn", "(II)I"⟩, 25), (⟨"BentYardsModel", "isChain", "(I)Z"⟩, 25), (⟨"BentYardsModel", "lastCell", "(I)I"⟩, 25), (⟨"BentYardsModel", "longest", "(I)I"⟩, 25), (⟨"BentYardsModel", "runAt", "(II)I"⟩, 25)]
theorem lw_r3 : ∀ q ∈ lw_privs_3, lw_okq q := List.forall_mem_cons.mpr ⟨lw_p32, List.forall_mem_cons.mpr ⟨lw_p33, List.forall_mem_cons.mpr ⟨lw_p34, List.forall_mem_cons.mpr ⟨lw_p35, List.forall_mem_cons.mpr ⟨lw_p36, List.forall_mem_cons.mpr ⟨lw_p37, List.forall_mem_cons.mpr ⟨lw_p38, List.forall_mem_cons.mpr ⟨lw_p39, List.forall_mem_cons.mpr ⟨lw_p40, List.forall_mem_cons.mpr ⟨lw_p41, List.forall_mem_cons.mpr ⟨lw_p42, List.forall_mem_cons.mpr ⟨lw_p43, List.forall_mem_cons.mpr ⟨lw_p44, List.forall_mem_cons.mpr ⟨lw_p45, List.forall_mem_cons.mpr ⟨lw_p46, List.forall_mem_cons.mpr ⟨lw_p47, fun _ h => absurd h List.not_mem_nil⟩⟩⟩⟩⟩⟩⟩⟩⟩⟩⟩⟩⟩⟩⟩⟩
theorem lw_p48 : lw_okq (⟨"BentYardsModel", "straightOf", "(I)I"⟩, 25) := ⟨⟨by decide +kernel, by decide +kernel⟩, List.mem_of_getElem? (i := 728) (by decide +kernel), List.mem_of_getElem? (i := 924) (by decide +kernel), List.mem_of_getElem? (i := 925) (by decide +kernel)⟩
theorem lw_p49 : lw_okq (⟨"BentYardsModel", "isJoint", "(II)Z"⟩, 25) := ⟨⟨by decide +kernel, by decide +kernel⟩, List.mem_of_getElem? (i := 728) (by decide +kernel), List.mem_of_getElem? (i := 932) (by decide +kernel), List.mem_of_getElem? (i := 933) (by decide +kernel)⟩
theorem lw_p50 : lw_okq (⟨"BentYardsModel", "firstRun", "(I)I"⟩, 25) := ⟨⟨by decide +kernel, by decide +kernel⟩, List.mem_of_getElem? (i := 728) (by decide +kernel), List.mem_of_getElem? (i := 936) (by decide +kernel), List.mem_of_getElem? (i := 937) (by decide +kernel)⟩
theorem lw_p51 : lw_okq (⟨"BentYardsModel", "isFree", "(I)Z"⟩, 25) := ⟨⟨by decide +kernel, by decide +kernel⟩, List.mem_of_getElem? (i := 728) (by decide +kernel), List.mem_of_getElem? (i := 944) (by decide +kernel), List.mem_of_getElem? (i := 945) (by decide +kernel)⟩
theorem lw_p52 : lw_okq (⟨"BentYardsModel", "stepsOf", "(II)I"⟩, 25) := ⟨⟨by decide +kernel, by decide +kernel⟩, List.mem_of_getElem? (i := 728) (by decide +kernel), List.mem_of_getElem? (i := 948) (by decide +kernel), List.mem_of_getElem? (i := 949) (by decide +kernel)⟩
theorem lw_p53 : lw_okq (⟨"BentYardsModel", "findSteps", "(I)V"⟩, 25) := ⟨⟨by decide +kernel, by decide +kernel⟩, List.mem_of_getElem? (i := 728) (by decide +kernel), List.mem_of_getElem? (i := 952) (by decide +kernel), List.mem_of_getElem? (i := 953) (by decide +kernel)⟩
theorem lw_p54 : lw_okq (⟨"BentYardsModel", "after", "(II)I"⟩, 25) := ⟨⟨by decide +kernel, by decide +kernel⟩, List.mem_of_getElem? (i := 728) (by decide +kernel), List.mem_of_getElem? (i := 956) (by decide +kernel), List.mem_of_getElem? (i := 957) (by decide +kernel)⟩
theorem lw_p55 : lw_okq (⟨"BentYardsModel", "findMend", "(I)V"⟩, 25) := ⟨⟨by decide +kernel, by decide +kernel⟩, List.mem_of_getElem? (i := 728) (by decide +kernel), List.mem_of_getElem? (i := 969) (by decide +kernel), List.mem_of_getElem? (i := 970) (by decide +kernel)⟩
theorem lw_p56 : lw_okq (⟨"BentYardsModel", "openNow", "()I"⟩, 25) := ⟨⟨by decide +kernel, by decide +kernel⟩, List.mem_of_getElem? (i := 728) (by decide +kernel), List.mem_of_getElem? (i := 977) (by decide +kernel), List.mem_of_getElem? (i := 978) (by decide +kernel)⟩
theorem lw_p57 : lw_okq (⟨"BentYardsModel", "harmBy", "(I)I"⟩, 25) := ⟨⟨by decide +kernel, by decide +kernel⟩, List.mem_of_getElem? (i := 728) (by decide +kernel), List.mem_of_getElem? (i := 981) (by decide +kernel), List.mem_of_getElem? (i := 982) (by decide +kernel)⟩
theorem lw_p58 : lw_okq (⟨"BentYardsModel", "findLines", "(I)V"⟩, 25) := ⟨⟨by decide +kernel, by decide +kernel⟩, List.mem_of_getElem? (i := 728) (by decide +kernel), List.mem_of_getElem? (i := 985) (by decide +kernel), List.mem_of_getElem? (i := 986) (by decide +kernel)⟩
theorem lw_p59 : lw_okq (⟨"BentYardsModel", "findLine", "(III)V"⟩, 25) := ⟨⟨by decide +kernel, by decide +kernel⟩, List.mem_of_getElem? (i := 728) (by decide +kernel), List.mem_of_getElem? (i := 989) (by decide +kernel), List.mem_of_getElem? (i := 990) (by decide +kernel)⟩
theorem lw_p60 : lw_okq (⟨"BentYardsModel", "harmOf", "(I)I"⟩, 25) := ⟨⟨by decide +kernel, by decide +kernel⟩, List.mem_of_getElem? (i := 728) (by decide +kernel), List.mem_of_getElem? (i := 993) (by decide +kernel), List.mem_of_getElem? (i := 994) (by decide +kernel)⟩
theorem lw_p61 : lw_okq (⟨"BentYardsModel", "findHedges", "(I)Z"⟩, 25) := ⟨⟨by decide +kernel, by decide +kernel⟩, List.mem_of_getElem? (i := 728) (by decide +kernel), List.mem_of_getElem? (i := 1001) (by decide +kernel), List.mem_of_getElem? (i := 1002) (by decide +kernel)⟩
theorem lw_p62 : lw_okq (⟨"BentYardsModel", "houses", "()I"⟩, 25) := ⟨⟨by decide +kernel, by decide +kernel⟩, List.mem_of_getElem? (i := 728) (by decide +kernel), List.mem_of_getElem? (i := 1019) (by decide +kernel), List.mem_of_getElem? (i := 1020) (by decide +kernel)⟩
theorem lw_p63 : lw_okq (⟨"BentYardsModel", "isStreet", "(II)Z"⟩, 25) := ⟨⟨by decide +kernel, by decide +kernel⟩, List.mem_of_getElem? (i := 728) (by decide +kernel), List.mem_of_getElem? (i := 1031) (by decide +kernel), List.mem_of_getElem? (i := 1032) (by decide +kernel)⟩
def lw_privs_4 : List (MethodName × Nat) := [(⟨"BentYardsModel", "straightOf", "(I)I"⟩, 25), (⟨"BentYardsModel", "isJoint", "(II)Z"⟩, 25), (⟨"BentYardsModel", "firstRun", "(I)I"⟩, 25), (⟨"BentYardsModel", "isFree", "(I)Z"⟩, 25), (⟨"BentYardsModel", "stepsOf", "(II)I"⟩, 25), (⟨"BentYardsModel", "findSteps", "(I)V"⟩, 25), (⟨"BentYardsModel", "after", "(II)I"⟩, 25), (⟨"BentYardsModel", "findMend", "(I)V"⟩, 25), (⟨"BentYardsModel", "openNow", "()I"⟩, 25), (⟨"BentYardsModel", "harmBy", "(I)I"⟩, 25), (⟨"BentYardsModel", "findLines", "(I)V"⟩, 25), (⟨"BentYardsModel", "findLine", "(III)V"⟩, 25), (⟨"BentYardsModel", "harmOf", "(I)I"⟩, 25), (⟨"BentYardsModel", "findHedges", "(I)Z"⟩, 25), (⟨"BentYardsModel", "houses", "()I"⟩, 25), (⟨"BentYardsModel", "isStreet", "(II)Z"⟩, 25)]
theorem lw_r4 : ∀ q ∈ lw_privs_4, lw_okq q := List.forall_mem_cons.mpr ⟨lw_p48, List.forall_mem_cons.mpr ⟨lw_p49, List.forall_mem_cons.mpr ⟨lw_p50, List.forall_mem_cons.mpr ⟨lw_p51, List.forall_mem_cons.mpr ⟨lw_p52, List.forall_mem_cons.mpr ⟨lw_p53, List.forall_mem_cons.mpr ⟨lw_p54, List.forall_mem_cons.mpr ⟨lw_p55, List.forall_mem_cons.mpr ⟨lw_p56, List.forall_mem_cons.mpr ⟨lw_p57, List.forall_mem_cons.mpr ⟨lw_p58, List.forall_mem_cons.mpr ⟨lw_p59, List.forall_mem_cons.mpr ⟨lw_p60, List.forall_mem_cons.mpr ⟨lw_p61, List.forall_mem_cons.mpr ⟨lw_p62, List.forall_mem_cons.mpr ⟨lw_p63, fun _ h => absurd h List.not_mem_nil⟩⟩⟩⟩⟩⟩⟩⟩⟩⟩⟩⟩⟩⟩⟩⟩
theorem lw_p64 : lw_okq (⟨"BentYardsModel", "isBent", "(I)Z"⟩, 25) := ⟨⟨by decide +kernel, by decide +kernel⟩, List.mem_of_getElem? (i := 728) (by decide +kernel), List.mem_of_getElem? (i := 1035) (by decide +kernel), List.mem_of_getElem? (i := 1036) (by decide +kernel)⟩
theorem lw_p65 : lw_okq (⟨"BentYardsModel", "toldRun", "(II)I"⟩, 25) := ⟨⟨by decide +kernel, by decide +kernel⟩, List.mem_of_getElem? (i := 728) (by decide +kernel), List.mem_of_getElem? (i := 1039) (by decide +kernel), List.mem_of_getElem? (i := 1040) (by decide +kernel)⟩
def lw_privs_5 : List (MethodName × Nat) := [(⟨"BentYardsModel", "isBent", "(I)Z"⟩, 25), (⟨"BentYardsModel", "toldRun", "(II)I"⟩, 25)]
theorem lw_r5 : ∀ q ∈ lw_privs_5, lw_okq q := List.forall_mem_cons.mpr ⟨lw_p64, List.forall_mem_cons.mpr ⟨lw_p65, fun _ h => absurd h List.not_mem_nil⟩⟩
def lw_privs : List (MethodName × Nat) := lw_privs_1 ++ (lw_privs_2 ++ (lw_privs_3 ++ (lw_privs_4 ++ (lw_privs_5))))
def lw_tbl : List Cond := k2_sels lw_privs ++ tables_1
theorem lw_privs_ok : ∀ q ∈ lw_privs, lw_okq q := by
  show ∀ q ∈ lw_privs_1 ++ (lw_privs_2 ++ (lw_privs_3 ++ (lw_privs_4 ++ (lw_privs_5)))), lw_okq q
  exact List.forall_mem_append.mpr ⟨lw_r1, List.forall_mem_append.mpr ⟨lw_r2, List.forall_mem_append.mpr ⟨lw_r3, List.forall_mem_append.mpr ⟨lw_r4, lw_r5⟩⟩⟩⟩
end
section
/-! names, fields: out of the task's own names text -/
def RX0 : String := "BentYards$Chain"
def TX0 : u_T := fun k => match k with
  | 0 => ("BentYards$Chain", "first", "I", false)
  | 1 => ("BentYards$Chain", "last", "I", false)
  | 2 => ("BentYards$Chain", "length", "I", false)
  | 3 => ("BentYards$Chain", "cells", "I", false)
  | _ => ("BentYards$Chain", "steps", "[I", true)
def tyX0 : Nat → FieldType := fun k => match k with
  | 0 => .int
  | 1 => .int
  | 2 => .int
  | 3 => .int
  | _ => .array .int
abbrev wsX00 : List Cond := u_ws RX0 TX0 5
theorem nmX0 : ∀ a, a < 5 → ∀ b, b < 5 → a ≠ b → (TX0 a).2.1 ≠ (TX0 b).2.1 := by decide +kernel
theorem tyX0_ok : ∀ k, k < 5 → parseFieldDescriptor (TX0 k).2.2.1 = some (tyX0 k) := by decide +kernel
abbrev cX0_init : ByteArray := prog_2_method_1_code
def yX0_init : MethodName := ⟨RX0, "<init>", "()V"⟩
abbrev cX0_copyFrom : ByteArray := prog_2_method_2_code
def yX0_copyFrom : MethodName := ⟨RX0, "copyFrom", "(LBentYards$Chain;)V"⟩
abbrev cX0_addStep : ByteArray := prog_2_method_3_code
def yX0_addStep : MethodName := ⟨RX0, "addStep", "(I)Z"⟩
abbrev cX0_stepAt : ByteArray := prog_2_method_4_code
def yX0_stepAt : MethodName := ⟨RX0, "stepAt", "(I)I"⟩
abbrev cX0_takeFigures : ByteArray := prog_2_method_5_code
def yX0_takeFigures : MethodName := ⟨RX0, "takeFigures", "(I)Z"⟩
abbrev cX0_runUpTo : ByteArray := prog_2_method_6_code
def yX0_runUpTo : MethodName := ⟨RX0, "runUpTo", "(I)I"⟩
abbrev cX0_firstRun : ByteArray := prog_2_method_7_code
def yX0_firstRun : MethodName := ⟨RX0, "firstRun", "()I"⟩
abbrev cX0_longestRun : ByteArray := prog_2_method_8_code
def yX0_longestRun : MethodName := ⟨RX0, "longestRun", "()I"⟩
abbrev cX0_straightAt : ByteArray := prog_2_method_9_code
def yX0_straightAt : MethodName := ⟨RX0, "straightAt", "(I)I"⟩
abbrev cX0_joins : ByteArray := prog_2_method_10_code
def yX0_joins : MethodName := ⟨RX0, "joins", "(LBentYards$Chain;I)Z"⟩
def RX1 : String := "BentYards$Reader"
def TX1 : u_T := fun k => match k with
  | 0 => ("BentYards$Reader", "length", "I", false)
  | 1 => ("BentYards$Reader", "items", "I", false)
  | 2 => ("BentYards$Reader", "place", "I", false)
  | 3 => ("BentYards$Reader", "draft", "LBentYards$Site;", true)
  | 4 => ("BentYards$Reader", "text", "[B", true)
  | 5 => ("BentYards$Reader", "told", "LBentYards$Chain;", true)
  | 6 => ("BentYards$Reader", "token", "I", false)
  | 7 => ("BentYards$Reader", "behind", "I", false)
  | _ => ("BentYards$Reader", "number", "I", false)
def tyX1 : Nat → FieldType := fun k => match k with
  | 0 => .int
  | 1 => .int
  | 2 => .int
  | 3 => .object "BentYards$Site"
  | 4 => .array .byte
  | 5 => .object "BentYards$Chain"
  | 6 => .int
  | 7 => .int
  | _ => .int
abbrev wsX10 : List Cond := u_ws RX1 TX1 9
theorem nmX1 : ∀ a, a < 9 → ∀ b, b < 9 → a ≠ b → (TX1 a).2.1 ≠ (TX1 b).2.1 := by decide +kernel
theorem tyX1_ok : ∀ k, k < 9 → parseFieldDescriptor (TX1 k).2.2.1 = some (tyX1 k) := by decide +kernel
abbrev cX1_init : ByteArray := prog_3_method_1_code
def yX1_init : MethodName := ⟨RX1, "<init>", "()V"⟩
abbrev cX1_append : ByteArray := prog_3_method_2_code
def yX1_append : MethodName := ⟨RX1, "append", "(B)V"⟩
abbrev cX1_begin : ByteArray := prog_3_method_3_code
def yX1_begin : MethodName := ⟨RX1, "begin", "()V"⟩
abbrev cX1_isAtEnd : ByteArray := prog_3_method_4_code
def yX1_isAtEnd : MethodName := ⟨RX1, "isAtEnd", "()Z"⟩
abbrev cX1_readItem : ByteArray := prog_3_method_5_code
def yX1_readItem : MethodName := ⟨RX1, "readItem", "()Z"⟩
abbrev cX1_readYard : ByteArray := prog_3_method_6_code
def yX1_readYard : MethodName := ⟨RX1, "readYard", "()Z"⟩
abbrev cX1_readOnCell : ByteArray := prog_3_method_7_code
def yX1_readOnCell : MethodName := ⟨RX1, "readOnCell", "()Z"⟩
abbrev cX1_endHouse : ByteArray := prog_3_method_8_code
def yX1_endHouse : MethodName := ⟨RX1, "endHouse", "(I)Z"⟩
abbrev cX1_endChain : ByteArray := prog_3_method_9_code
def yX1_endChain : MethodName := ⟨RX1, "endChain", "(I)Z"⟩
abbrev cX1_takeSteps : ByteArray := prog_3_method_10_code
def yX1_takeSteps : MethodName := ⟨RX1, "takeSteps", "()Z"⟩
abbrev cX1_directionOf : ByteArray := prog_3_method_11_code
def yX1_directionOf : MethodName := ⟨RX1, "directionOf", "(I)I"⟩
abbrev cX1_nextCell : ByteArray := prog_3_method_12_code
def yX1_nextCell : MethodName := ⟨RX1, "nextCell", "()I"⟩
abbrev cX1_nextNumber : ByteArray := prog_3_method_13_code
def yX1_nextNumber : MethodName := ⟨RX1, "nextNumber", "(II)Z"⟩
abbrev cX1_nextSemicolon : ByteArray := prog_3_method_14_code
def yX1_nextSemicolon : MethodName := ⟨RX1, "nextSemicolon", "()Z"⟩
abbrev cX1_isWord : ByteArray := prog_3_method_15_code
def yX1_isWord : MethodName := ⟨RX1, "isWord", "(Ljava/lang/String;)Z"⟩
abbrev cX1_nextToken : ByteArray := prog_3_method_16_code
def yX1_nextToken : MethodName := ⟨RX1, "nextToken", "()V"⟩
abbrev cX1_takeNumber : ByteArray := prog_3_method_17_code
def yX1_takeNumber : MethodName := ⟨RX1, "takeNumber", "()Z"⟩
abbrev cX1_byteAt : ByteArray := prog_3_method_18_code
def yX1_byteAt : MethodName := ⟨RX1, "byteAt", "(I)I"⟩
abbrev cX1_isLetter : ByteArray := prog_3_method_19_code
def yX1_isLetter : MethodName := ⟨RX1, "isLetter", "(I)Z"⟩
abbrev cX1_isFigure : ByteArray := prog_3_method_20_code
def yX1_isFigure : MethodName := ⟨RX1, "isFigure", "(I)Z"⟩
def RX2 : String := "BentYards$Site"
def TX2 : u_T := fun k => match k with
  | 0 => ("BentYards$Site", "wide", "I", false)
  | 1 => ("BentYards$Site", "high", "I", false)
  | 2 => ("BentYards$Site", "limit", "I", false)
  | 3 => ("BentYards$Site", "houses", "I", false)
  | 4 => ("BentYards$Site", "chainCount", "I", false)
  | 5 => ("BentYards$Site", "lot", "I", false)
  | _ => ("BentYards$Site", "chains", "[LBentYards$Chain;", true)
def tyX2 : Nat → FieldType := fun k => match k with
  | 0 => .int
  | 1 => .int
  | 2 => .int
  | 3 => .int
  | 4 => .int
  | 5 => .int
  | _ => .array (.object "BentYards$Chain")
abbrev wsX20 : List Cond := u_ws RX2 TX2 7
theorem nmX2 : ∀ a, a < 7 → ∀ b, b < 7 → a ≠ b → (TX2 a).2.1 ≠ (TX2 b).2.1 := by decide +kernel
theorem tyX2_ok : ∀ k, k < 7 → parseFieldDescriptor (TX2 k).2.2.1 = some (tyX2 k) := by decide +kernel
abbrev cX2_init : ByteArray := prog_4_method_1_code
def yX2_init : MethodName := ⟨RX2, "<init>", "()V"⟩
abbrev cX2_beginAnew : ByteArray := prog_4_method_2_code
def yX2_beginAnew : MethodName := ⟨RX2, "beginAnew", "()V"⟩
abbrev cX2_copyFrom : ByteArray := prog_4_method_3_code
def yX2_copyFrom : MethodName := ⟨RX2, "copyFrom", "(LBentYards$Site;)V"⟩
abbrev cX2_has : ByteArray := prog_4_method_4_code
def yX2_has : MethodName := ⟨RX2, "has", "(I)Z"⟩
abbrev cX2_isHouse : ByteArray := prog_4_method_5_code
def yX2_isHouse : MethodName := ⟨RX2, "isHouse", "(I)Z"⟩
abbrev cX2_isFree : ByteArray := prog_4_method_6_code
def yX2_isFree : MethodName := ⟨RX2, "isFree", "(I)Z"⟩
abbrev cX2_isTrodden : ByteArray := prog_4_method_7_code
def yX2_isTrodden : MethodName := ⟨RX2, "isTrodden", "(I)Z"⟩
abbrev cX2_isOpen : ByteArray := prog_4_method_8_code
def yX2_isOpen : MethodName := ⟨RX2, "isOpen", "(I)Z"⟩
abbrev cX2_trodden : ByteArray := prog_4_method_9_code
def yX2_trodden : MethodName := ⟨RX2, "trodden", "()I"⟩
abbrev cX2_openCells : ByteArray := prog_4_method_10_code
def yX2_openCells : MethodName := ⟨RX2, "openCells", "()I"⟩
abbrev cX2_houseCount : ByteArray := prog_4_method_11_code
def yX2_houseCount : MethodName := ⟨RX2, "houseCount", "()I"⟩
abbrev cX2_chainAt : ByteArray := prog_4_method_12_code
def yX2_chainAt : MethodName := ⟨RX2, "chainAt", "(I)LBentYards$Chain;"⟩
abbrev cX2_beside : ByteArray := prog_4_method_13_code
def yX2_beside : MethodName := ⟨RX2, "beside", "(II)I"⟩
abbrev cX2_walkOver : ByteArray := prog_4_method_14_code
def yX2_walkOver : MethodName := ⟨RX2, "walkOver", "(LBentYards$Chain;)Z"⟩
abbrev cX2_joinsAny : ByteArray := prog_4_method_15_code
def yX2_joinsAny : MethodName := ⟨RX2, "joinsAny", "(LBentYards$Chain;)Z"⟩
abbrev cX2_addChain : ByteArray := prog_4_method_16_code
def yX2_addChain : MethodName := ⟨RX2, "addChain", "(LBentYards$Chain;)Z"⟩
def RX3 : String := "BentYards$Walks"
def TX3 : u_T := fun k => match k with
  | 0 => ("BentYards$Walks", "row", "[I", true)
  | 1 => ("BentYards$Walks", "limit", "I", false)
  | 2 => ("BentYards$Walks", "states", "I", false)
  | 3 => ("BentYards$Walks", "neighbours", "[I", true)
  | 4 => ("BentYards$Walks", "cameFrom", "[I", true)
  | 5 => ("BentYards$Walks", "queue", "[I", true)
  | 6 => ("BentYards$Walks", "counts", "[J", true)
  | 7 => ("BentYards$Walks", "nextCounts", "[J", true)
  | _ => ("BentYards$Walks", "differs", "[I", true)
def tyX3 : Nat → FieldType := fun k => match k with
  | 0 => .array .int
  | 1 => .int
  | 2 => .int
  | 3 => .array .int
  | 4 => .array .int
  | 5 => .array .int
  | 6 => .array .long
  | 7 => .array .long
  | _ => .array .int
abbrev wsX30 : List Cond := u_ws RX3 TX3 9
theorem nmX3 : ∀ a, a < 9 → ∀ b, b < 9 → a ≠ b → (TX3 a).2.1 ≠ (TX3 b).2.1 := by decide +kernel
theorem tyX3_ok : ∀ k, k < 9 → parseFieldDescriptor (TX3 k).2.2.1 = some (tyX3 k) := by decide +kernel
abbrev cX3_init : ByteArray := prog_5_method_1_code
def yX3_init : MethodName := ⟨RX3, "<init>", "()V"⟩
abbrev cX3_shortest : ByteArray := prog_5_method_2_code
def yX3_shortest : MethodName := ⟨RX3, "shortest", "(LBentYards$Site;II)I"⟩
abbrev cX3_fillRow : ByteArray := prog_5_method_3_code
def yX3_fillRow : MethodName := ⟨RX3, "fillRow", "(II)V"⟩
abbrev cX3_howMany : ByteArray := prog_5_method_4_code
def yX3_howMany : MethodName := ⟨RX3, "howMany", "(LBentYards$Site;III)J"⟩
abbrev cX3_goOneStep : ByteArray := prog_5_method_5_code
def yX3_goOneStep : MethodName := ⟨RX3, "goOneStep", "([J[J)V"⟩
abbrev cX3_mended : ByteArray := prog_5_method_6_code
def yX3_mended : MethodName := ⟨RX3, "mended", "(LBentYards$Site;LBentYards$Chain;)I"⟩
abbrev cX3_fewestFrom : ByteArray := prog_5_method_7_code
def yX3_fewestFrom : MethodName := ⟨RX3, "fewestFrom", "(LBentYards$Chain;II)I"⟩
abbrev cX3_fillMended : ByteArray := prog_5_method_8_code
def yX3_fillMended : MethodName := ⟨RX3, "fillMended", "(LBentYards$Chain;I)V"⟩
abbrev cX3_differsBy : ByteArray := prog_5_method_9_code
def yX3_differsBy : MethodName := ⟨RX3, "differsBy", "(LBentYards$Chain;III)I"⟩
abbrev cX3_lookAt : ByteArray := prog_5_method_10_code
def yX3_lookAt : MethodName := ⟨RX3, "lookAt", "(LBentYards$Site;)V"⟩
abbrev cX3_startOn : ByteArray := prog_5_method_11_code
def yX3_startOn : MethodName := ⟨RX3, "startOn", "(I)I"⟩
abbrev cX3_after : ByteArray := prog_5_method_12_code
def yX3_after : MethodName := ⟨RX3, "after", "(II)I"⟩
def RX4 : String := "BentYards$Wind"
def TX4 : u_T := fun k => match k with
  | 0 => ("BentYards$Wind", "lengths", "[I", true)
  | 1 => ("BentYards$Wind", "firsts", "[I", true)
  | 2 => ("BentYards$Wind", "hedge", "[I", true)
  | 3 => ("BentYards$Wind", "count", "I", false)
  | 4 => ("BentYards$Wind", "inRows", "I", false)
  | 5 => ("BentYards$Wind", "limit", "I", false)
  | 6 => ("BentYards$Wind", "wide", "I", false)
  | 7 => ("BentYards$Wind", "open", "I", false)
  | 8 => ("BentYards$Wind", "stretches", "[I", true)
  | _ => ("BentYards$Wind", "stretchCount", "I", false)
def tyX4 : Nat → FieldType := fun k => match k with
  | 0 => .array .int
  | 1 => .array .int
  | 2 => .array .int
  | 3 => .int
  | 4 => .int
  | 5 => .int
  | 6 => .int
  | 7 => .int
  | 8 => .array .int
  | _ => .int
abbrev wsX40 : List Cond := u_ws RX4 TX4 10
theorem nmX4 : ∀ a, a < 10 → ∀ b, b < 10 → a ≠ b → (TX4 a).2.1 ≠ (TX4 b).2.1 := by decide +kernel
theorem tyX4_ok : ∀ k, k < 10 → parseFieldDescriptor (TX4 k).2.2.1 = some (tyX4 k) := by decide +kernel
abbrev cX4_init : ByteArray := prog_6_method_1_code
def yX4_init : MethodName := ⟨RX4, "<init>", "()V"⟩
abbrev cX4_look : ByteArray := prog_6_method_2_code
def yX4_look : MethodName := ⟨RX4, "look", "(LBentYards$Site;)V"⟩
abbrev cX4_lookAlong : ByteArray := prog_6_method_3_code
def yX4_lookAlong : MethodName := ⟨RX4, "lookAlong", "(III)V"⟩
abbrev cX4_harmOf : ByteArray := prog_6_method_4_code
def yX4_harmOf : MethodName := ⟨RX4, "harmOf", "(I)I"⟩
abbrev cX4_harmOfAll : ByteArray := prog_6_method_5_code
def yX4_harmOfAll : MethodName := ⟨RX4, "harmOfAll", "()I"⟩
abbrev cX4_longest : ByteArray := prog_6_method_6_code
def yX4_longest : MethodName := ⟨RX4, "longest", "()I"⟩
abbrev cX4_fewestHedges : ByteArray := prog_6_method_7_code
def yX4_fewestHedges : MethodName := ⟨RX4, "fewestHedges", "()I"⟩
abbrev cX4_findStretches : ByteArray := prog_6_method_8_code
def yX4_findStretches : MethodName := ⟨RX4, "findStretches", "()V"⟩
abbrev cX4_cellsOf : ByteArray := prog_6_method_9_code
def yX4_cellsOf : MethodName := ⟨RX4, "cellsOf", "(II)I"⟩
abbrev cX4_breakAll : ByteArray := prog_6_method_10_code
def yX4_breakAll : MethodName := ⟨RX4, "breakAll", "(I)Z"⟩
abbrev cX4_placeHedges : ByteArray := prog_6_method_11_code
def yX4_placeHedges : MethodName := ⟨RX4, "placeHedges", "(LBentYards$Wind;III)Z"⟩
def RX5 : String := "BentYards"
def TX5 : u_T := fun k => match k with
  | 0 => ("BentYards", "site", "LBentYards$Site;", true)
  | 1 => ("BentYards", "reader", "LBentYards$Reader;", true)
  | 2 => ("BentYards", "walks", "LBentYards$Walks;", true)
  | 3 => ("BentYards", "wind", "LBentYards$Wind;", true)
  | 4 => ("BentYards", "trial", "LBentYards$Chain;", true)
  | 5 => ("BentYards", "images", "[LBentYards$Site;", true)
  | 6 => ("BentYards", "kept", "[Z", true)
  | _ => ("BentYards", "marked", "J", false)
def tyX5 : Nat → FieldType := fun k => match k with
  | 0 => .object "BentYards$Site"
  | 1 => .object "BentYards$Reader"
  | 2 => .object "BentYards$Walks"
  | 3 => .object "BentYards$Wind"
  | 4 => .object "BentYards$Chain"
  | 5 => .array (.object "BentYards$Site")
  | 6 => .array .boolean
  | _ => .long
abbrev wsX50 : List Cond := u_ws RX5 TX5 8
theorem nmX5 : ∀ a, a < 8 → ∀ b, b < 8 → a ≠ b → (TX5 a).2.1 ≠ (TX5 b).2.1 := by decide +kernel
theorem tyX5_ok : ∀ k, k < 8 → parseFieldDescriptor (TX5 k).2.2.1 = some (tyX5 k) := by decide +kernel
abbrev cX5_init : ByteArray := prog_1_method_1_code
def yX5_init : MethodName := ⟨RX5, "<init>", "()V"⟩
abbrev cX5_type : ByteArray := prog_1_method_2_code
def yX5_type : MethodName := ⟨RX5, "type", "(JI)I"⟩
abbrev cX5_clear : ByteArray := prog_1_method_3_code
def yX5_clear : MethodName := ⟨RX5, "clear", "()I"⟩
abbrev cX5_yard : ByteArray := prog_1_method_4_code
def yX5_yard : MethodName := ⟨RX5, "yard", "()I"⟩
abbrev cX5_cell : ByteArray := prog_1_method_5_code
def yX5_cell : MethodName := ⟨RX5, "cell", "(I)I"⟩
abbrev cX5_chain : ByteArray := prog_1_method_6_code
def yX5_chain : MethodName := ⟨RX5, "chain", "(II)I"⟩
abbrev cX5_step : ByteArray := prog_1_method_7_code
def yX5_step : MethodName := ⟨RX5, "step", "(II)I"⟩
abbrev cX5_straight : ByteArray := prog_1_method_8_code
def yX5_straight : MethodName := ⟨RX5, "straight", "(I)I"⟩
abbrev cX5_joint : ByteArray := prog_1_method_9_code
def yX5_joint : MethodName := ⟨RX5, "joint", "(II)I"⟩
abbrev cX5_way : ByteArray := prog_1_method_10_code
def yX5_way : MethodName := ⟨RX5, "way", "(III)I"⟩
abbrev cX5_ways : ByteArray := prog_1_method_11_code
def yX5_ways : MethodName := ⟨RX5, "ways", "(III)J"⟩
abbrev cX5_mend : ByteArray := prog_1_method_12_code
def yX5_mend : MethodName := ⟨RX5, "mend", "(II)I"⟩
abbrev cX5_lines : ByteArray := prog_1_method_13_code
def yX5_lines : MethodName := ⟨RX5, "lines", "(I)I"⟩
abbrev cX5_hedges : ByteArray := prog_1_method_14_code
def yX5_hedges : MethodName := ⟨RX5, "hedges", "(I)I"⟩
abbrev cX5_gusts : ByteArray := prog_1_method_15_code
def yX5_gusts : MethodName := ⟨RX5, "gusts", "(I)I"⟩
abbrev cX5_lot : ByteArray := prog_1_method_16_code
def yX5_lot : MethodName := ⟨RX5, "lot", "(I)I"⟩
abbrev cX5_build : ByteArray := prog_1_method_17_code
def yX5_build : MethodName := ⟨RX5, "build", "(I)I"⟩
abbrev cX5_raze : ByteArray := prog_1_method_18_code
def yX5_raze : MethodName := ⟨RX5, "raze", "(I)I"⟩
abbrev cX5_street : ByteArray := prog_1_method_19_code
def yX5_street : MethodName := ⟨RX5, "street", "(II)I"⟩
abbrev cX5_close : ByteArray := prog_1_method_20_code
def yX5_close : MethodName := ⟨RX5, "close", "()I"⟩
abbrev cX5_mark : ByteArray := prog_1_method_21_code
def yX5_mark : MethodName := ⟨RX5, "mark", "(II)I"⟩
abbrev cX5_keep : ByteArray := prog_1_method_22_code
def yX5_keep : MethodName := ⟨RX5, "keep", "(I)I"⟩
abbrev cX5_back : ByteArray := prog_1_method_23_code
def yX5_back : MethodName := ⟨RX5, "back", "(I)I"⟩
abbrev cX5_count : ByteArray := prog_1_method_24_code
def yX5_count : MethodName := ⟨RX5, "count", "(I)I"⟩
abbrev cX5_trace : ByteArray := prog_1_method_25_code
def yX5_trace : MethodName := ⟨RX5, "trace", "()J"⟩
abbrev cX5_markAsChain : ByteArray := prog_1_method_26_code
def yX5_markAsChain : MethodName := ⟨RX5, "markAsChain", "(LBentYards$Chain;)I"⟩
abbrev cX5_markAsWall : ByteArray := prog_1_method_27_code
def yX5_markAsWall : MethodName := ⟨RX5, "markAsWall", "(LBentYards$Chain;)I"⟩
abbrev cX5_markAsWay : ByteArray := prog_1_method_28_code
def yX5_markAsWay : MethodName := ⟨RX5, "markAsWay", "(LBentYards$Chain;)I"⟩
abbrev cX5_markAsDoor : ByteArray := prog_1_method_29_code
def yX5_markAsDoor : MethodName := ⟨RX5, "markAsDoor", "(LBentYards$Chain;I)I"⟩
abbrev cX5_markAsGlance : ByteArray := prog_1_method_30_code
def yX5_markAsGlance : MethodName := ⟨RX5, "markAsGlance", "(LBentYards$Chain;)I"⟩
abbrev cX5_markAsRope : ByteArray := prog_1_method_31_code
def yX5_markAsRope : MethodName := ⟨RX5, "markAsRope", "(LBentYards$Chain;)I"⟩
abbrev cX5_ofRow : ByteArray := prog_1_method_32_code
def yX5_ofRow : MethodName := ⟨RX5, "ofRow", "(II[II)I"⟩
def RX6 : String := "BentYardsModel"
def TX6 : u_T := fun k => match k with
  | 0 => ("BentYardsModel", "trace", "J", false)
  | 1 => ("BentYardsModel", "text", "[B", true)
  | 2 => ("BentYardsModel", "typed", "I", false)
  | 3 => ("BentYardsModel", "wide", "[I", true)
  | 4 => ("BentYardsModel", "high", "[I", true)
  | 5 => ("BentYardsModel", "limit", "[I", true)
  | 6 => ("BentYardsModel", "now", "[I", true)
  | 7 => ("BentYardsModel", "isKept", "[Z", true)
  | 8 => ("BentYardsModel", "at", "I", false)
  | 9 => ("BentYardsModel", "start", "I", false)
  | 10 => ("BentYardsModel", "sort", "I", false)
  | 11 => ("BentYardsModel", "value", "I", false)
  | 12 => ("BentYardsModel", "fault", "I", false)
  | 13 => ("BentYardsModel", "from", "I", false)
  | 14 => ("BentYardsModel", "left", "[I", true)
  | 15 => ("BentYardsModel", "many", "[J", true)
  | 16 => ("BentYardsModel", "manyThen", "[J", true)
  | 17 => ("BentYardsModel", "differ", "[I", true)
  | 18 => ("BentYardsModel", "lineAt", "[I", true)
  | 19 => ("BentYardsModel", "lineLong", "[I", true)
  | 20 => ("BentYardsModel", "lineDown", "[I", true)
  | 21 => ("BentYardsModel", "linesMany", "I", false)
  | 22 => ("BentYardsModel", "hedge", "[I", true)
  | 23 => ("BentYardsModel", "told", "[I", true)
  | _ => ("BentYardsModel", "toldMany", "I", false)
def tyX6 : Nat → FieldType := fun k => match k with
  | 0 => .long
  | 1 => .array .byte
  | 2 => .int
  | 3 => .array .int
  | 4 => .array .int
  | 5 => .array .int
  | 6 => .array .int
  | 7 => .array .boolean
  | 8 => .int
  | 9 => .int
  | 10 => .int
  | 11 => .int
  | 12 => .int
  | 13 => .int
  | 14 => .array .int
  | 15 => .array .long
  | 16 => .array .long
  | 17 => .array .int
  | 18 => .array .int
  | 19 => .array .int
  | 20 => .array .int
  | 21 => .int
  | 22 => .array .int
  | 23 => .array .int
  | _ => .int
abbrev wsX60 : List Cond := u_ws RX6 TX6 25
theorem nmX6 : ∀ a, a < 25 → ∀ b, b < 25 → a ≠ b → (TX6 a).2.1 ≠ (TX6 b).2.1 := by decide +kernel
theorem tyX6_ok : ∀ k, k < 25 → parseFieldDescriptor (TX6 k).2.2.1 = some (tyX6 k) := by decide +kernel
abbrev cX6_init : ByteArray := prog_8_method_1_code
def yX6_init : MethodName := ⟨RX6, "<init>", "()V"⟩
abbrev cX6_in : ByteArray := prog_8_method_3_code
def yX6_in : MethodName := ⟨RX6, "in", "(III)Z"⟩
abbrev cX6_type : ByteArray := prog_8_method_4_code
def yX6_type : MethodName := ⟨RX6, "type", "(JI)I"⟩
abbrev cX6_clear : ByteArray := prog_8_method_5_code
def yX6_clear : MethodName := ⟨RX6, "clear", "()I"⟩
abbrev cX6_here : ByteArray := prog_8_method_6_code
def yX6_here : MethodName := ⟨RX6, "here", "()I"⟩
abbrev cX6_next : ByteArray := prog_8_method_7_code
def yX6_next : MethodName := ⟨RX6, "next", "()V"⟩
abbrev cX6_due : ByteArray := prog_8_method_8_code
def yX6_due : MethodName := ⟨RX6, "due", "(Z)I"⟩
abbrev cX6_number : ByteArray := prog_8_method_9_code
def yX6_number : MethodName := ⟨RX6, "number", "(II)I"⟩
abbrev cX6_off : ByteArray := prog_8_method_10_code
def yX6_off : MethodName := ⟨RX6, "off", "(III)I"⟩
abbrev cX6_stepOf : ByteArray := prog_8_method_11_code
def yX6_stepOf : MethodName := ⟨RX6, "stepOf", "(I)I"⟩
abbrev cX6_goesOn : ByteArray := prog_8_method_12_code
def yX6_goesOn : MethodName := ⟨RX6, "goesOn", "()Z"⟩
abbrev cX6_readChain : ByteArray := prog_8_method_13_code
def yX6_readChain : MethodName := ⟨RX6, "readChain", "()V"⟩
abbrev cX6_readItem : ByteArray := prog_8_method_14_code
def yX6_readItem : MethodName := ⟨RX6, "readItem", "(I)V"⟩
abbrev cX6_yard : ByteArray := prog_8_method_15_code
def yX6_yard : MethodName := ⟨RX6, "yard", "()I"⟩
abbrev cX6_copy : ByteArray := prog_8_method_16_code
def yX6_copy : MethodName := ⟨RX6, "copy", "(II)V"⟩
abbrev cX6_cells : ByteArray := prog_8_method_17_code
def yX6_cells : MethodName := ⟨RX6, "cells", "()I"⟩
abbrev cX6_isCell : ByteArray := prog_8_method_18_code
def yX6_isCell : MethodName := ⟨RX6, "isCell", "(I)Z"⟩
abbrev cX6_isHouse : ByteArray := prog_8_method_19_code
def yX6_isHouse : MethodName := ⟨RX6, "isHouse", "(I)Z"⟩
abbrev cX6_isFree : ByteArray := prog_8_method_20_code
def yX6_isFree : MethodName := ⟨RX6, "isFree", "(I)Z"⟩
abbrev cX6_isChain : ByteArray := prog_8_method_21_code
def yX6_isChain : MethodName := ⟨RX6, "isChain", "(I)Z"⟩
abbrev cX6_stepIn : ByteArray := prog_8_method_22_code
def yX6_stepIn : MethodName := ⟨RX6, "stepIn", "(II)I"⟩
abbrev cX6_steps : ByteArray := prog_8_method_23_code
def yX6_steps : MethodName := ⟨RX6, "steps", "(I)I"⟩
abbrev cX6_lastCell : ByteArray := prog_8_method_24_code
def yX6_lastCell : MethodName := ⟨RX6, "lastCell", "(I)I"⟩
abbrev cX6_onChains : ByteArray := prog_8_method_25_code
def yX6_onChains : MethodName := ⟨RX6, "onChains", "()I"⟩
abbrev cX6_cell : ByteArray := prog_8_method_26_code
def yX6_cell : MethodName := ⟨RX6, "cell", "(I)I"⟩
abbrev cX6_runAt : ByteArray := prog_8_method_27_code
def yX6_runAt : MethodName := ⟨RX6, "runAt", "(II)I"⟩
abbrev cX6_longest : ByteArray := prog_8_method_28_code
def yX6_longest : MethodName := ⟨RX6, "longest", "(I)I"⟩
abbrev cX6_chain : ByteArray := prog_8_method_29_code
def yX6_chain : MethodName := ⟨RX6, "chain", "(II)I"⟩
abbrev cX6_step : ByteArray := prog_8_method_30_code
def yX6_step : MethodName := ⟨RX6, "step", "(II)I"⟩
abbrev cX6_straightOf : ByteArray := prog_8_method_31_code
def yX6_straightOf : MethodName := ⟨RX6, "straightOf", "(I)I"⟩
abbrev cX6_straight : ByteArray := prog_8_method_32_code
def yX6_straight : MethodName := ⟨RX6, "straight", "(I)I"⟩
abbrev cX6_firstRun : ByteArray := prog_8_method_33_code
def yX6_firstRun : MethodName := ⟨RX6, "firstRun", "(I)I"⟩
abbrev cX6_isJoint : ByteArray := prog_8_method_34_code
def yX6_isJoint : MethodName := ⟨RX6, "isJoint", "(II)Z"⟩
abbrev cX6_joint : ByteArray := prog_8_method_35_code
def yX6_joint : MethodName := ⟨RX6, "joint", "(II)I"⟩
abbrev cX6_after : ByteArray := prog_8_method_36_code
def yX6_after : MethodName := ⟨RX6, "after", "(II)I"⟩
abbrev cX6_findSteps : ByteArray := prog_8_method_37_code
def yX6_findSteps : MethodName := ⟨RX6, "findSteps", "(I)V"⟩
abbrev cX6_stepsOf : ByteArray := prog_8_method_38_code
def yX6_stepsOf : MethodName := ⟨RX6, "stepsOf", "(II)I"⟩
abbrev cX6_way : ByteArray := prog_8_method_39_code
def yX6_way : MethodName := ⟨RX6, "way", "(III)I"⟩
abbrev cX6_ways : ByteArray := prog_8_method_40_code
def yX6_ways : MethodName := ⟨RX6, "ways", "(III)J"⟩
abbrev cX6_findMend : ByteArray := prog_8_method_41_code
def yX6_findMend : MethodName := ⟨RX6, "findMend", "(I)V"⟩
abbrev cX6_mend : ByteArray := prog_8_method_42_code
def yX6_mend : MethodName := ⟨RX6, "mend", "(II)I"⟩
abbrev cX6_openNow : ByteArray := prog_8_method_43_code
def yX6_openNow : MethodName := ⟨RX6, "openNow", "()I"⟩
abbrev cX6_findLine : ByteArray := prog_8_method_44_code
def yX6_findLine : MethodName := ⟨RX6, "findLine", "(III)V"⟩
abbrev cX6_findLines : ByteArray := prog_8_method_45_code
def yX6_findLines : MethodName := ⟨RX6, "findLines", "(I)V"⟩
abbrev cX6_harmOf : ByteArray := prog_8_method_46_code
def yX6_harmOf : MethodName := ⟨RX6, "harmOf", "(I)I"⟩
abbrev cX6_harmBy : ByteArray := prog_8_method_47_code
def yX6_harmBy : MethodName := ⟨RX6, "harmBy", "(I)I"⟩
abbrev cX6_lines : ByteArray := prog_8_method_48_code
def yX6_lines : MethodName := ⟨RX6, "lines", "(I)I"⟩
abbrev cX6_findHedges : ByteArray := prog_8_method_49_code
def yX6_findHedges : MethodName := ⟨RX6, "findHedges", "(I)Z"⟩
abbrev cX6_hedges : ByteArray := prog_8_method_50_code
def yX6_hedges : MethodName := ⟨RX6, "hedges", "(I)I"⟩
abbrev cX6_gusts : ByteArray := prog_8_method_51_code
def yX6_gusts : MethodName := ⟨RX6, "gusts", "(I)I"⟩
abbrev cX6_lot : ByteArray := prog_8_method_52_code
def yX6_lot : MethodName := ⟨RX6, "lot", "(I)I"⟩
abbrev cX6_houses : ByteArray := prog_8_method_53_code
def yX6_houses : MethodName := ⟨RX6, "houses", "()I"⟩
abbrev cX6_build : ByteArray := prog_8_method_54_code
def yX6_build : MethodName := ⟨RX6, "build", "(I)I"⟩
abbrev cX6_raze : ByteArray := prog_8_method_55_code
def yX6_raze : MethodName := ⟨RX6, "raze", "(I)I"⟩
abbrev cX6_isStreet : ByteArray := prog_8_method_56_code
def yX6_isStreet : MethodName := ⟨RX6, "isStreet", "(II)Z"⟩
abbrev cX6_toldRun : ByteArray := prog_8_method_57_code
def yX6_toldRun : MethodName := ⟨RX6, "toldRun", "(II)I"⟩
abbrev cX6_isBent : ByteArray := prog_8_method_58_code
def yX6_isBent : MethodName := ⟨RX6, "isBent", "(I)Z"⟩
abbrev cX6_street : ByteArray := prog_8_method_59_code
def yX6_street : MethodName := ⟨RX6, "street", "(II)I"⟩
abbrev cX6_close : ByteArray := prog_8_method_60_code
def yX6_close : MethodName := ⟨RX6, "close", "()I"⟩
abbrev cX6_mark : ByteArray := prog_8_method_61_code
def yX6_mark : MethodName := ⟨RX6, "mark", "(II)I"⟩
abbrev cX6_keep : ByteArray := prog_8_method_62_code
def yX6_keep : MethodName := ⟨RX6, "keep", "(I)I"⟩
abbrev cX6_back : ByteArray := prog_8_method_63_code
def yX6_back : MethodName := ⟨RX6, "back", "(I)I"⟩
abbrev cX6_count : ByteArray := prog_8_method_64_code
def yX6_count : MethodName := ⟨RX6, "count", "(I)I"⟩
abbrev cX6_trace : ByteArray := prog_8_method_65_code
def yX6_trace : MethodName := ⟨RX6, "trace", "()J"⟩
def RJ6 : String := "java/lang/Integer"
abbrev cJ6_bitCount_0f7a4 : ByteArray := prog_9_method_49_code
def yJ6_bitCount_0f7a4 : MethodName := ⟨RJ6, "bitCount", "(I)I"⟩
def RJ9 : String := "java/lang/Math"
def RJ0 : String := "java/lang/String"
abbrev cJ0_length_8abf5 : ByteArray := prog_11_method_54_code
def yJ0_length_8abf5 : MethodName := ⟨RJ0, "length", "()I"⟩
abbrev cJ0_charAt_5068e : ByteArray := prog_11_method_56_code
def yJ0_charAt_5068e : MethodName := ⟨RJ0, "charAt", "(I)C"⟩
abbrev cJ0_coder_7d493 : ByteArray := prog_11_method_152_code
def yJ0_coder_7d493 : MethodName := ⟨RJ0, "coder", "()B"⟩
abbrev cJ0_isLatin1_aae02 : ByteArray := prog_11_method_154_code
def yJ0_isLatin1_aae02 : MethodName := ⟨RJ0, "isLatin1", "()Z"⟩
abbrev cJ0_checkIndex_df160 : ByteArray := prog_11_method_155_code
def yJ0_checkIndex_df160 : MethodName := ⟨RJ0, "checkIndex", "(II)V"⟩
def RJ1 : String := "java/lang/StringLatin1"
abbrev cJ1_charAt_3b067 : ByteArray := prog_12_method_2_code
def yJ1_charAt_3b067 : MethodName := ⟨RJ1, "charAt", "([BI)C"⟩
def RJ7 : String := "java/util/Arrays"
abbrev cJ7_fill_d0a16 : ByteArray := prog_15_method_101_code
def yJ7_fill_d0a16 : MethodName := ⟨RJ7, "fill", "([JJ)V"⟩
abbrev cJ7_fill_53178 : ByteArray := prog_15_method_103_code
def yJ7_fill_53178 : MethodName := ⟨RJ7, "fill", "([II)V"⟩
def RJ3 : String := "jdk/internal/util/Preconditions"
abbrev cJ3_checkIndex_8e157 : ByteArray := prog_16_method_11_code
def yJ3_checkIndex_8e157 : MethodName := ⟨RJ3, "checkIndex", "(IILjava/util/function/BiFunction;)I"⟩
def RL : String := "BentYardsLaw"
abbrev cL_law : ByteArray := code
def yL_law : MethodName := ⟨RL, "law", "([I)Z"⟩
abbrev vwCl : List vw_C := [(RX0, TX0, 5), (RX1, TX1, 9), (RX2, TX2, 7), (RX3, TX3, 9), (RX4, TX4, 10), (RX5, TX5, 8), (RX6, TX6, 25)]
end
section
/-! the code of every method, its links resolved to numbers: (pc, next pc, instruction) -/
def zc_X0_init : List (Nat × Nat × Instr) := [(0, 1, .aload 0), (1, 4, .monitorenter), (4, 5, .aload 0), (5, 7, .iconst 12), (7, 9, .newarray .int), (9, 12, .putfield 4), (12, 13, .return_)]
def zc_X0_copyFrom : List (Nat × Nat × Instr) := [(0, 1, .aload 0), (1, 2, .aload 1), (2, 5, .getfield 0), (5, 8, .putfield 0), (8, 9, .aload 0), (9, 10, .aload 1), (10, 13, .getfield 1), (13, 16, .putfield 1), (16, 17, .aload 0), (17, 18, .aload 1), (18, 21, .getfield 2), (21, 24, .putfield 2), (24, 25, .aload 0), (25, 26, .aload 1), (26, 29, .getfield 3), (29, 32, .putfield 3), (32, 33, .aload 1), (33, 36, .getfield 4), (36, 37, .iconst 0), (37, 38, .aload 0), (38, 41, .getfield 4), (41, 42, .iconst 0), (42, 44, .iconst 12), (44, 47, .athrow), (47, 48, .return_)]
def zc_X0_addStep : List (Nat × Nat × Instr) := [(0, 1, .iload 1), (1, 4, .multianewarray 2 25), (4, 5, .iload 1), (5, 6, .iconst 4), (6, 9, .invokeinterface 3 25), (9, 10, .aload 0), (10, 13, .getfield 2), (13, 16, .multianewarray 2 25), (16, 17, .aload 0), (17, 20, .getfield 2), (20, 22, .iconst 12), (22, 25, .invokeinterface 2 27), (25, 26, .iconst 0), (26, 27, .ireturn), (27, 28, .aload 0), (28, 31, .getfield 4), (31, 32, .aload 0), (32, 35, .getfield 2), (35, 36, .iload 1), (36, 37, .iastore), (37, 38, .aload 0), (38, 39, .dup), (39, 42, .getfield 2), (42, 43, .iconst 1), (43, 44, .iadd), (44, 47, .putfield 2), (47, 48, .iconst 1), (48, 49, .ireturn)]
def zc_X0_stepAt : List (Nat × Nat × Instr) := [(0, 1, .iload 1), (1, 4, .multianewarray 2 27), (4, 5, .iload 1), (5, 6, .aload 0), (6, 9, .getfield 2), (9, 12, .invokeinterface 3 27), (12, 13, .iload 1), (13, 15, .iconst 12), (15, 18, .invokeinterface 3 27), (18, 19, .aload 0), (19, 22, .getfield 4), (22, 23, .iload 1), (23, 24, .iaload), (24, 27, .ret 28), (27, 28, .iconst (-1)), (28, 29, .ireturn)]
def zc_X0_takeFigures : List (Nat × Nat × Instr) := [(0, 1, .aload 0), (1, 2, .iconst 0), (2, 5, .putfield 2), (5, 6, .iload 1), (6, 7, .iconst 1), (7, 10, .invokeinterface 2 16), (10, 11, .iload 1), (11, 13, .iconst 999999999), (13, 16, .invokeinterface 5 18), (16, 17, .iconst 0), (17, 18, .ireturn), (18, 19, .iload 1), (19, 20, .istore 2), (20, 22, .iconst 100000000), (22, 23, .istore 3), (23, 24, .iload 3), (24, 27, .multianewarray 5 58), (27, 28, .iload 1), (28, 29, .iload 3), (29, 32, .invokeinterface 2 46), (32, 33, .aload 0), (33, 34, .iload 2), (34, 35, .iload 3), (35, 36, .idiv), (36, 37, .iconst 1), (37, 38, .isub), (38, 41, .invokevirtual 2), (41, 44, .multianewarray 1 46), (44, 45, .iconst 0), (45, 46, .ireturn), (46, 47, .iload 2), (47, 48, .iload 3), (48, 49, .irem), (49, 50, .istore 2), (50, 51, .iload 3), (51, 53, .iconst 10), (53, 54, .idiv), (54, 55, .istore 3), (55, 58, .ret 23), (58, 59, .iconst 1), (59, 60, .ireturn)]
def zc_X0_runUpTo : List (Nat × Nat × Instr) := [(0, 1, .iconst 1), (1, 2, .istore 2), (2, 3, .iload 1), (3, 4, .istore 3), (4, 5, .iload 3), (5, 8, .multianewarray 5 32), (8, 9, .aload 0), (9, 10, .iload 3), (10, 11, .iconst 1), (11, 12, .isub), (12, 15, .invokevirtual 3), (15, 16, .aload 0), (16, 17, .iload 1), (17, 20, .invokevirtual 3), (20, 23, .invokeinterface 1 32), (23, 26, .iinc 2 1), (26, 29, .iinc 3 (-1)), (29, 32, .ret 4), (32, 33, .iload 2), (33, 34, .ireturn)]
def zc_X0_firstRun : List (Nat × Nat × Instr) := [(0, 1, .iconst 1), (1, 2, .istore 1), (2, 3, .iload 1), (3, 4, .aload 0), (4, 7, .getfield 2), (7, 10, .invokeinterface 3 29), (10, 11, .aload 0), (11, 12, .iload 1), (12, 15, .invokevirtual 3), (15, 16, .aload 0), (16, 17, .iconst 0), (17, 20, .invokevirtual 3), (20, 23, .invokeinterface 1 29), (23, 26, .iinc 1 1), (26, 29, .ret 2), (29, 30, .iload 1), (30, 31, .ireturn)]
def zc_X0_longestRun : List (Nat × Nat × Instr) := [(0, 1, .iconst 0), (1, 2, .istore 1), (2, 3, .iconst 0), (3, 4, .istore 2), (4, 5, .iload 2), (5, 6, .aload 0), (6, 9, .getfield 2), (9, 12, .invokeinterface 3 28), (12, 13, .iload 1), (13, 14, .aload 0), (14, 15, .iload 2), (15, 18, .invokevirtual 5), (18, 21, .dadd), (21, 22, .istore 1), (22, 25, .iinc 2 1), (25, 28, .ret 4), (28, 29, .iload 1), (29, 30, .ireturn)]
def zc_X0_straightAt : List (Nat × Nat × Instr) := [(0, 1, .iconst 0), (1, 2, .istore 2), (2, 3, .iload 2), (3, 4, .aload 0), (4, 7, .getfield 2), (7, 10, .invokeinterface 3 27), (10, 11, .aload 0), (11, 12, .iload 2), (12, 15, .invokevirtual 5), (15, 16, .iload 1), (16, 19, .invokeinterface 5 21), (19, 20, .iload 2), (20, 21, .ireturn), (21, 24, .iinc 2 1), (24, 27, .ret 2), (27, 29, .iconst (-9)), (29, 30, .ireturn)]
def zc_X0_joins : List (Nat × Nat × Instr) := [(0, 1, .aload 0), (1, 4, .getfield 1), (4, 5, .aload 1), (5, 8, .getfield 0), (8, 11, .invokeinterface 1 52), (11, 12, .aload 0), (12, 13, .aload 0), (13, 16, .getfield 2), (16, 17, .iconst 1), (17, 18, .isub), (18, 21, .invokevirtual 3), (21, 22, .aload 1), (22, 23, .iconst 0), (23, 26, .invokevirtual 3), (26, 29, .invokeinterface 1 52), (29, 30, .aload 0), (30, 31, .aload 0), (31, 34, .getfield 2), (34, 35, .iconst 1), (35, 36, .isub), (36, 39, .invokevirtual 5), (39, 40, .aload 1), (40, 43, .invokevirtual 6), (43, 44, .iadd), (44, 45, .iload 2), (45, 48, .invokeinterface 5 52), (48, 49, .iconst 1), (49, 52, .ret 53), (52, 53, .iconst 0), (53, 54, .ireturn)]
def zc_X1_init : List (Nat × Nat × Instr) := [(0, 1, .aload 0), (1, 4, .monitorenter), (4, 5, .aload 0), (5, 8, .iconst 200), (8, 10, .newarray .byte), (10, 13, .putfield 36), (13, 14, .aload 0), (14, 17, .new 2), (17, 18, .dup), (18, 21, .invokespecial 30), (21, 24, .putfield 35), (24, 25, .aload 0), (25, 28, .new 0), (28, 29, .dup), (29, 32, .invokespecial 0), (32, 35, .putfield 37), (35, 36, .return_)]
def zc_X1_append : List (Nat × Nat × Instr) := [(0, 1, .aload 0), (1, 4, .getfield 32), (4, 7, .multianewarray 2 37), (7, 8, .aload 0), (8, 11, .getfield 32), (11, 14, .iconst 200), (14, 17, .invokeinterface 3 37), (17, 18, .aload 0), (18, 21, .getfield 36), (21, 22, .aload 0), (22, 25, .getfield 32), (25, 26, .iload 1), (26, 27, .bastore), (27, 28, .aload 0), (28, 29, .dup), (29, 32, .getfield 32), (32, 33, .iconst 1), (33, 34, .iadd), (34, 37, .putfield 32), (37, 38, .return_)]
def zc_X1_begin : List (Nat × Nat × Instr) := [(0, 1, .aload 0), (1, 4, .getfield 35), (4, 7, .invokevirtual 31), (7, 8, .aload 0), (8, 9, .iconst 0), (9, 12, .putfield 33), (12, 13, .aload 0), (13, 14, .iconst 0), (14, 17, .putfield 39), (17, 18, .aload 0), (18, 21, .invokevirtual 25), (21, 22, .return_)]
def zc_X1_isAtEnd : List (Nat × Nat × Instr) := [(0, 1, .aload 0), (1, 4, .getfield 38), (4, 7, .multianewarray 1 11), (7, 8, .iconst 1), (8, 11, .ret 12), (11, 12, .iconst 0), (12, 13, .ireturn)]
def zc_X1_readItem : List (Nat × Nat × Instr) := [(0, 1, .aload 0), (1, 3, .ldc 0), (3, 6, .invokevirtual 24), (6, 9, .multianewarray 0 31), (9, 10, .aload 0), (10, 13, .getfield 33), (13, 16, .multianewarray 1 27), (16, 17, .aload 0), (17, 20, .invokevirtual 15), (20, 23, .multianewarray 0 27), (23, 24, .iconst 1), (24, 27, .ret 35), (27, 28, .iconst 0), (28, 31, .ret 35), (31, 32, .aload 0), (32, 35, .invokevirtual 16), (35, 36, .istore 1), (36, 37, .iload 1), (37, 40, .multianewarray 0 54), (40, 41, .aload 0), (41, 42, .dup), (42, 45, .getfield 33), (45, 46, .iconst 1), (46, 47, .iadd), (47, 50, .putfield 33), (50, 51, .aload 0), (51, 54, .invokevirtual 25), (54, 55, .iload 1), (55, 56, .ireturn)]
def zc_X1_readYard : List (Nat × Nat × Instr) := [(0, 1, .aload 0), (1, 2, .iconst 1), (2, 3, .iconst 5), (3, 6, .invokevirtual 22), (6, 9, .multianewarray 1 11), (9, 10, .iconst 0), (10, 11, .ireturn), (11, 12, .aload 0), (12, 15, .getfield 35), (15, 16, .aload 0), (16, 19, .getfield 40), (19, 22, .putfield 64), (22, 23, .aload 0), (23, 24, .iconst 1), (24, 25, .iconst 5), (25, 28, .invokevirtual 22), (28, 31, .multianewarray 1 33), (31, 32, .iconst 0), (32, 33, .ireturn), (33, 34, .aload 0), (34, 37, .getfield 35), (37, 38, .aload 0), (38, 41, .getfield 40), (41, 44, .putfield 65), (44, 45, .aload 0), (45, 46, .iconst 1), (46, 47, .iconst 3), (47, 50, .invokevirtual 22), (50, 53, .multianewarray 1 55), (53, 54, .iconst 0), (54, 55, .ireturn), (55, 56, .aload 0), (56, 59, .getfield 35), (59, 60, .aload 0), (60, 63, .getfield 40), (63, 66, .putfield 66), (66, 67, .aload 0), (67, 70, .invokevirtual 23), (70, 71, .ireturn)]
def zc_X1_readOnCell : List (Nat × Nat × Instr) := [(0, 1, .aload 0), (1, 3, .ldc 1), (3, 6, .invokevirtual 24), (6, 9, .multianewarray 0 23), (9, 10, .aload 0), (10, 13, .getfield 35), (13, 16, .getfield 68), (16, 19, .multianewarray 1 23), (19, 20, .iconst 1), (20, 23, .ret 24), (23, 24, .iconst 0), (24, 25, .istore 1), (25, 26, .aload 0), (26, 28, .ldc 2), (28, 31, .invokevirtual 24), (31, 34, .multianewarray 0 49), (34, 35, .aload 0), (35, 38, .getfield 35), (38, 41, .getfield 68), (41, 42, .iconst 4), (42, 45, .invokeinterface 3 49), (45, 46, .iconst 1), (46, 49, .ret 50), (49, 50, .iconst 0), (50, 51, .istore 2), (51, 52, .iload 1), (52, 55, .multianewarray 1 61), (55, 56, .iload 2), (56, 59, .multianewarray 1 61), (59, 60, .iconst 0), (60, 61, .ireturn), (61, 62, .aload 0), (62, 65, .invokevirtual 21), (65, 66, .istore 3), (66, 67, .iload 3), (67, 68, .iconst (-1)), (68, 71, .invokeinterface 1 73), (71, 72, .iconst 0), (72, 73, .ireturn), (73, 74, .iload 1), (74, 77, .multianewarray 0 85), (77, 78, .aload 0), (78, 79, .iload 3), (79, 82, .invokevirtual 17), (82, 85, .ret 90), (85, 86, .aload 0), (86, 87, .iload 3), (87, 90, .invokevirtual 18), (90, 91, .ireturn)]
def zc_X1_endHouse : List (Nat × Nat × Instr) := [(0, 1, .aload 0), (1, 4, .getfield 35), (4, 5, .dup), (5, 8, .getfield 67), (8, 9, .iconst 1), (9, 10, .iload 1), (10, 11, .ishl), (11, 12, .ior), (12, 15, .putfield 67), (15, 16, .aload 0), (16, 19, .invokevirtual 23), (19, 20, .ireturn)]
def zc_X1_endChain : List (Nat × Nat × Instr) := [(0, 1, .aload 0), (1, 4, .getfield 35), (4, 5, .iload 1), (5, 8, .invokevirtual 35), (8, 11, .multianewarray 1 13), (11, 12, .iconst 0), (12, 13, .ireturn), (13, 14, .aload 0), (14, 17, .getfield 37), (17, 18, .iload 1), (18, 21, .putfield 0), (21, 22, .aload 0), (22, 25, .invokevirtual 25), (25, 26, .aload 0), (26, 29, .getfield 38), (29, 30, .iconst 1), (30, 33, .invokeinterface 1 79), (33, 34, .aload 0), (34, 37, .invokevirtual 19), (37, 40, .multianewarray 0 79), (40, 41, .aload 0), (41, 44, .getfield 35), (44, 45, .aload 0), (45, 48, .getfield 37), (48, 51, .invokevirtual 43), (51, 54, .multianewarray 0 79), (54, 55, .aload 0), (55, 58, .invokevirtual 23), (58, 61, .multianewarray 0 79), (61, 62, .aload 0), (62, 65, .getfield 35), (65, 66, .aload 0), (66, 69, .getfield 37), (69, 72, .invokevirtual 45), (72, 75, .multianewarray 0 79), (75, 76, .iconst 1), (76, 79, .ret 80), (79, 80, .iconst 0), (80, 81, .ireturn)]
def zc_X1_takeSteps : List (Nat × Nat × Instr) := [(0, 1, .aload 0), (1, 4, .getfield 37), (4, 5, .iconst 0), (5, 8, .putfield 2), (8, 9, .aload 0), (9, 12, .getfield 34), (12, 13, .istore 1), (13, 14, .iload 1), (14, 15, .aload 0), (15, 18, .getfield 39), (18, 21, .invokeinterface 3 47), (21, 22, .aload 0), (22, 25, .getfield 37), (25, 26, .aload 0), (26, 27, .iload 1), (27, 30, .invokevirtual 27), (30, 33, .invokestatic 20), (33, 36, .invokevirtual 2), (36, 39, .multianewarray 1 41), (39, 40, .iconst 0), (40, 41, .ireturn), (41, 44, .iinc 1 1), (44, 47, .ret 13), (47, 48, .iconst 1), (48, 49, .ireturn)]
def zc_X1_directionOf : List (Nat × Nat × Instr) := [(0, 1, .iload 0), (1, 44, .lookupswitch 52 #[(101, 46), (110, 44), (115, 48), (119, 50)]), (44, 45, .iconst 0), (45, 46, .ireturn), (46, 47, .iconst 1), (47, 48, .ireturn), (48, 49, .iconst 2), (49, 50, .ireturn), (50, 51, .iconst 3), (51, 52, .ireturn), (52, 53, .iconst (-1)), (53, 54, .ireturn)]
def zc_X1_nextCell : List (Nat × Nat × Instr) := [(0, 1, .aload 0), (1, 2, .iconst 0), (2, 3, .aload 0), (3, 6, .getfield 35), (6, 9, .getfield 64), (9, 10, .iconst 1), (10, 11, .isub), (11, 14, .invokevirtual 22), (14, 17, .multianewarray 1 19), (17, 18, .iconst (-1)), (18, 19, .ireturn), (19, 20, .aload 0), (20, 23, .getfield 40), (23, 24, .istore 1), (24, 25, .aload 0), (25, 26, .iconst 0), (26, 27, .aload 0), (27, 30, .getfield 35), (30, 33, .getfield 65), (33, 34, .iconst 1), (34, 35, .isub), (35, 38, .invokevirtual 22), (38, 41, .multianewarray 0 58), (41, 42, .aload 0), (42, 45, .getfield 35), (45, 48, .getfield 64), (48, 49, .aload 0), (49, 52, .getfield 40), (52, 53, .imul), (53, 54, .iload 1), (54, 55, .iadd), (55, 58, .ret 59), (58, 59, .iconst (-1)), (59, 60, .ireturn)]
def zc_X1_nextNumber : List (Nat × Nat × Instr) := [(0, 1, .aload 0), (1, 4, .invokevirtual 25), (4, 5, .aload 0), (5, 8, .getfield 38), (8, 9, .iconst 2), (9, 12, .invokeinterface 1 39), (12, 13, .aload 0), (13, 16, .invokevirtual 26), (16, 19, .multianewarray 0 39), (19, 20, .aload 0), (20, 23, .getfield 40), (23, 24, .iload 1), (24, 27, .invokeinterface 2 39), (27, 28, .aload 0), (28, 31, .getfield 40), (31, 32, .iload 2), (32, 35, .invokeinterface 4 39), (35, 36, .iconst 1), (36, 39, .ret 40), (39, 40, .iconst 0), (40, 41, .ireturn)]
def zc_X1_nextSemicolon : List (Nat × Nat × Instr) := [(0, 1, .aload 0), (1, 4, .invokevirtual 25), (4, 5, .aload 0), (5, 8, .getfield 38), (8, 9, .iconst 3), (9, 12, .invokeinterface 1 16), (12, 13, .iconst 1), (13, 16, .ret 17), (16, 17, .iconst 0), (17, 18, .ireturn)]
def zc_X1_isWord : List (Nat × Nat × Instr) := [(0, 1, .aload 0), (1, 4, .getfield 38), (4, 5, .iconst 1), (5, 8, .invokeinterface 1 24), (8, 9, .aload 0), (9, 12, .getfield 39), (12, 13, .aload 0), (13, 16, .getfield 34), (16, 17, .isub), (17, 18, .aload 1), (18, 21, .saload), (21, 24, .invokeinterface 0 26), (24, 25, .iconst 0), (25, 26, .ireturn), (26, 27, .iconst 0), (27, 28, .istore 2), (28, 29, .iload 2), (29, 30, .aload 1), (30, 33, .saload), (33, 36, .invokeinterface 3 62), (36, 37, .aload 0), (37, 38, .aload 0), (38, 41, .getfield 34), (41, 42, .iload 2), (42, 43, .iadd), (43, 46, .invokevirtual 27), (46, 47, .aload 1), (47, 48, .iload 2), (48, 51, .sastore), (51, 54, .invokeinterface 0 56), (54, 55, .iconst 0), (55, 56, .ireturn), (56, 59, .iinc 2 1), (59, 62, .ret 28), (62, 63, .iconst 1), (63, 64, .ireturn)]
def zc_X1_nextToken : List (Nat × Nat × Instr) := [(0, 1, .aload 0), (1, 2, .aload 0), (2, 5, .getfield 39), (5, 8, .putfield 34), (8, 9, .aload 0), (9, 12, .getfield 34), (12, 13, .aload 0), (13, 16, .getfield 32), (16, 19, .invokeinterface 3 45), (19, 20, .aload 0), (20, 21, .aload 0), (21, 24, .getfield 34), (24, 27, .invokevirtual 27), (27, 29, .iconst 32), (29, 32, .invokeinterface 1 45), (32, 33, .aload 0), (33, 34, .dup), (34, 37, .getfield 34), (37, 38, .iconst 1), (38, 39, .iadd), (39, 42, .putfield 34), (42, 45, .ret 8), (45, 46, .aload 0), (46, 47, .aload 0), (47, 50, .getfield 34), (50, 51, .iconst 1), (51, 52, .iadd), (52, 55, .putfield 39), (55, 56, .aload 0), (56, 57, .aload 0), (57, 60, .getfield 34), (60, 63, .invokevirtual 27), (63, 64, .istore 1), (64, 65, .aload 0), (65, 68, .getfield 34), (68, 69, .aload 0), (69, 72, .getfield 32), (72, 75, .invokeinterface 2 91), (75, 76, .aload 0), (76, 77, .iconst 0), (77, 80, .putfield 38), (80, 81, .aload 0), (81, 82, .aload 0), (82, 85, .getfield 34), (85, 88, .putfield 39), (88, 91, .ret 210), (91, 92, .iload 1), (92, 94, .iconst 59), (94, 97, .invokeinterface 1 105), (97, 98, .aload 0), (98, 99, .iconst 3), (99, 102, .putfield 38), (102, 105, .ret 210), (105, 106, .iload 1), (106, 109, .invokestatic 28), (109, 112, .multianewarray 0 155), (112, 113, .aload 0), (113, 114, .iconst 1), (114, 117, .putfield 38), (117, 118, .aload 0), (118, 121, .getfield 39), (121, 122, .aload 0), (122, 125, .getfield 32), (125, 128, .invokeinterface 3 210), (128, 129, .aload 0), (129, 130, .aload 0), (130, 133, .getfield 39), (133, 136, .invokevirtual 27), (136, 139, .invokestatic 28), (139, 142, .multianewarray 0 210), (142, 143, .aload 0), (143, 144, .dup), (144, 147, .getfield 39), (147, 148, .iconst 1), (148, 149, .iadd), (149, 152, .putfield 39), (152, 155, .ret 117), (155, 156, .iload 1), (156, 159, .invokestatic 29), (159, 162, .multianewarray 0 205), (162, 163, .aload 0), (163, 164, .iconst 2), (164, 167, .putfield 38), (167, 168, .aload 0), (168, 171, .getfield 39), (171, 172, .aload 0), (172, 175, .getfield 32), (175, 178, .invokeinterface 3 210), (178, 179, .aload 0), (179, 180, .aload 0), (180, 183, .getfield 39), (183, 186, .invokevirtual 27), (186, 189, .invokestatic 29), (189, 192, .multianewarray 0 210), (192, 193, .aload 0), (193, 194, .dup), (194, 197, .getfield 39), (197, 198, .iconst 1), (198, 199, .iadd), (199, 202, .putfield 39), (202, 205, .ret 167), (205, 206, .aload 0), (206, 207, .iconst 4), (207, 210, .putfield 38), (210, 211, .return_)]
def zc_X1_takeNumber : List (Nat × Nat × Instr) := [(0, 1, .aload 0), (1, 2, .iconst 0), (2, 5, .putfield 40), (5, 6, .aload 0), (6, 9, .getfield 34), (9, 10, .istore 1), (10, 11, .iload 1), (11, 12, .aload 0), (12, 15, .getfield 39), (15, 18, .invokeinterface 3 49), (18, 19, .aload 0), (19, 20, .aload 0), (20, 23, .getfield 40), (23, 25, .iconst 10), (25, 26, .imul), (26, 27, .aload 0), (27, 28, .iload 1), (28, 31, .invokevirtual 27), (31, 32, .iadd), (32, 34, .iconst 48), (34, 35, .isub), (35, 37, .iconst 100), (37, 40, .dsub), (40, 43, .putfield 40), (43, 46, .iinc 1 1), (46, 49, .ret 10), (49, 50, .aload 0), (50, 51, .aload 0), (51, 54, .getfield 34), (54, 57, .invokevirtual 27), (57, 59, .iconst 48), (59, 62, .invokeinterface 1 79), (62, 63, .aload 0), (63, 66, .getfield 39), (66, 67, .aload 0), (67, 70, .getfield 34), (70, 71, .iconst 1), (71, 72, .iadd), (72, 75, .invokeinterface 5 79), (75, 76, .iconst 1), (76, 79, .ret 80), (79, 80, .iconst 0), (80, 81, .istore 1), (81, 82, .iload 1), (82, 85, .multianewarray 1 98), (85, 86, .aload 0), (86, 89, .getfield 40), (89, 91, .iconst 99), (91, 94, .invokeinterface 4 98), (94, 95, .iconst 1), (95, 98, .ret 99), (98, 99, .iconst 0), (99, 100, .ireturn)]
def zc_X1_byteAt : List (Nat × Nat × Instr) := [(0, 1, .iload 1), (1, 4, .multianewarray 2 32), (4, 5, .iload 1), (5, 6, .aload 0), (6, 9, .getfield 32), (9, 12, .invokeinterface 3 32), (12, 13, .iload 1), (13, 16, .iconst 200), (16, 19, .invokeinterface 3 32), (19, 20, .aload 0), (20, 23, .getfield 36), (23, 24, .iload 1), (24, 25, .baload), (25, 28, .iconst 255), (28, 29, .iand), (29, 32, .ret 33), (32, 33, .iconst (-1)), (33, 34, .ireturn)]
def zc_X1_isLetter : List (Nat × Nat × Instr) := [(0, 1, .iload 0), (1, 3, .iconst 97), (3, 6, .invokeinterface 2 16), (6, 7, .iload 0), (7, 9, .iconst 122), (9, 12, .invokeinterface 4 16), (12, 13, .iconst 1), (13, 16, .ret 17), (16, 17, .iconst 0), (17, 18, .ireturn)]
def zc_X1_isFigure : List (Nat × Nat × Instr) := [(0, 1, .iload 0), (1, 3, .iconst 48), (3, 6, .invokeinterface 2 16), (6, 7, .iload 0), (7, 9, .iconst 57), (9, 12, .invokeinterface 4 16), (12, 13, .iconst 1), (13, 16, .ret 17), (16, 17, .iconst 0), (17, 18, .ireturn)]
def zc_X2_init : List (Nat × Nat × Instr) := [(0, 1, .aload 0), (1, 4, .monitorenter), (4, 5, .aload 0), (5, 6, .iconst 4), (6, 9, .anewarray 4), (9, 12, .putfield 70), (12, 13, .iconst 0), (13, 14, .istore 1), (14, 15, .iload 1), (15, 16, .iconst 4), (16, 19, .invokeinterface 3 38), (19, 20, .aload 0), (20, 23, .getfield 70), (23, 24, .iload 1), (24, 27, .new 0), (27, 28, .dup), (28, 31, .invokespecial 0), (31, 32, .aastore), (32, 35, .iinc 1 1), (35, 38, .ret 14), (38, 39, .aload 0), (39, 40, .iconst 1), (40, 43, .putfield 69), (43, 44, .aload 0), (44, 47, .invokevirtual 31), (47, 48, .return_)]
def zc_X2_beginAnew : List (Nat × Nat × Instr) := [(0, 1, .aload 0), (1, 2, .iconst 5), (2, 5, .putfield 64), (5, 6, .aload 0), (6, 7, .iconst 5), (7, 10, .putfield 65), (10, 11, .aload 0), (11, 12, .iconst 1), (12, 15, .putfield 66), (15, 16, .aload 0), (16, 17, .iconst 0), (17, 20, .putfield 67), (20, 21, .aload 0), (21, 22, .iconst 0), (22, 25, .putfield 68), (25, 26, .return_)]
def zc_X2_copyFrom : List (Nat × Nat × Instr) := [(0, 1, .aload 0), (1, 2, .aload 1), (2, 5, .getfield 64), (5, 8, .putfield 64), (8, 9, .aload 0), (9, 10, .aload 1), (10, 13, .getfield 65), (13, 16, .putfield 65), (16, 17, .aload 0), (17, 18, .aload 1), (18, 21, .getfield 66), (21, 24, .putfield 66), (24, 25, .aload 0), (25, 26, .aload 1), (26, 29, .getfield 67), (29, 32, .putfield 67), (32, 33, .aload 0), (33, 34, .aload 1), (34, 37, .getfield 68), (37, 40, .putfield 68), (40, 41, .aload 0), (41, 42, .aload 1), (42, 45, .getfield 69), (45, 48, .putfield 69), (48, 49, .iconst 0), (49, 50, .istore 2), (50, 51, .iload 2), (51, 52, .iconst 4), (52, 55, .invokeinterface 3 76), (55, 56, .aload 0), (56, 59, .getfield 70), (59, 60, .iload 2), (60, 61, .aaload), (61, 62, .aload 1), (62, 65, .getfield 70), (65, 66, .iload 2), (66, 67, .aaload), (67, 70, .invokevirtual 1), (70, 73, .iinc 2 1), (73, 76, .ret 50), (76, 77, .return_)]
def zc_X2_has : List (Nat × Nat × Instr) := [(0, 1, .iload 1), (1, 4, .multianewarray 2 21), (4, 5, .iload 1), (5, 6, .aload 0), (6, 9, .getfield 64), (9, 10, .aload 0), (10, 13, .getfield 65), (13, 14, .imul), (14, 17, .invokeinterface 3 21), (17, 18, .iconst 1), (18, 21, .ret 22), (21, 22, .iconst 0), (22, 23, .ireturn)]
def zc_X2_isHouse : List (Nat × Nat × Instr) := [(0, 1, .aload 0), (1, 2, .iload 1), (2, 5, .invokevirtual 33), (5, 8, .multianewarray 0 24), (8, 9, .aload 0), (9, 12, .getfield 67), (12, 13, .iload 1), (13, 14, .ishr), (14, 15, .iconst 1), (15, 16, .iand), (16, 17, .iconst 1), (17, 20, .invokeinterface 1 24), (20, 21, .iconst 1), (21, 24, .ret 25), (24, 25, .iconst 0), (25, 26, .ireturn)]
def zc_X2_isFree : List (Nat × Nat × Instr) := [(0, 1, .iload 1), (1, 4, .multianewarray 2 32), (4, 5, .iload 1), (5, 6, .aload 0), (6, 9, .getfield 64), (9, 10, .aload 0), (10, 13, .getfield 65), (13, 14, .imul), (14, 17, .invokeinterface 3 32), (17, 18, .aload 0), (18, 21, .getfield 67), (21, 22, .iload 1), (22, 23, .ishr), (23, 24, .iconst 1), (24, 25, .iand), (25, 28, .multianewarray 1 32), (28, 29, .iconst 1), (29, 32, .ret 33), (32, 33, .iconst 0), (33, 34, .ireturn)]
def zc_X2_isTrodden : List (Nat × Nat × Instr) := [(0, 1, .aload 0), (1, 2, .iload 1), (2, 5, .invokevirtual 33), (5, 8, .multianewarray 0 24), (8, 9, .aload 0), (9, 12, .invokevirtual 38), (12, 13, .iload 1), (13, 14, .ishr), (14, 15, .iconst 1), (15, 16, .iand), (16, 17, .iconst 1), (17, 20, .invokeinterface 1 24), (20, 21, .iconst 1), (21, 24, .ret 25), (24, 25, .iconst 0), (25, 26, .ireturn)]
def zc_X2_isOpen : List (Nat × Nat × Instr) := [(0, 1, .aload 0), (1, 2, .iload 1), (2, 5, .invokevirtual 35), (5, 8, .multianewarray 0 20), (8, 9, .aload 0), (9, 10, .iload 1), (10, 13, .invokevirtual 36), (13, 16, .multianewarray 1 20), (16, 17, .iconst 1), (17, 20, .ret 21), (20, 21, .iconst 0), (21, 22, .ireturn)]
def zc_X2_trodden : List (Nat × Nat × Instr) := [(0, 1, .iconst 0), (1, 2, .istore 1), (2, 3, .iconst 0), (3, 4, .istore 2), (4, 5, .iload 2), (5, 6, .aload 0), (6, 9, .getfield 68), (9, 12, .invokeinterface 3 35), (12, 13, .iload 2), (13, 14, .iconst 4), (14, 17, .invokeinterface 3 35), (17, 18, .iload 1), (18, 19, .aload 0), (19, 22, .getfield 70), (22, 23, .iload 2), (23, 24, .aaload), (24, 27, .getfield 3), (27, 28, .ior), (28, 29, .istore 1), (29, 32, .iinc 2 1), (32, 35, .ret 4), (35, 36, .iload 1), (36, 37, .ireturn)]
def zc_X2_openCells : List (Nat × Nat × Instr) := [(0, 1, .iconst 1), (1, 2, .aload 0), (2, 5, .getfield 64), (5, 6, .aload 0), (6, 9, .getfield 65), (9, 10, .imul), (10, 11, .ishl), (11, 12, .iconst 1), (12, 13, .isub), (13, 14, .aload 0), (14, 17, .getfield 67), (17, 18, .iconst (-1)), (18, 19, .ixor), (19, 20, .iand), (20, 21, .aload 0), (21, 24, .invokevirtual 38), (24, 25, .iconst (-1)), (25, 26, .ixor), (26, 27, .iand), (27, 28, .ireturn)]
def zc_X2_houseCount : List (Nat × Nat × Instr) := [(0, 1, .aload 0), (1, 4, .getfield 67), (4, 7, .invokestatic 165), (7, 8, .ireturn)]
def zc_X2_chainAt : List (Nat × Nat × Instr) := [(0, 1, .iload 1), (1, 4, .multianewarray 2 26), (4, 5, .iload 1), (5, 6, .aload 0), (6, 9, .getfield 68), (9, 12, .invokeinterface 3 26), (12, 13, .iload 1), (13, 14, .iconst 4), (14, 17, .invokeinterface 3 26), (17, 18, .aload 0), (18, 21, .getfield 70), (21, 22, .iload 1), (22, 23, .aaload), (23, 26, .ret 27), (26, 27, .aconst_null), (27, 28, .areturn)]
def zc_X2_beside : List (Nat × Nat × Instr) := [(0, 1, .aload 0), (1, 2, .iload 1), (2, 5, .invokevirtual 33), (5, 8, .multianewarray 0 16), (8, 9, .aload 0), (9, 12, .getfield 64), (12, 13, .iconst 1), (13, 16, .invokeinterface 3 18), (16, 17, .iconst (-1)), (17, 18, .ireturn), (18, 19, .iload 1), (19, 20, .aload 0), (20, 23, .getfield 64), (23, 24, .irem), (24, 25, .istore 3), (25, 26, .iconst (-1)), (26, 28, .istore 4), (28, 29, .iload 2), (29, 60, .tableswitch 120 0 3 #[60, 71, 93, 104]), (60, 61, .iload 1), (61, 62, .aload 0), (62, 65, .getfield 64), (65, 66, .isub), (66, 68, .istore 4), (68, 71, .ret 120), (71, 72, .iload 3), (72, 73, .iconst 1), (73, 74, .iadd), (74, 75, .aload 0), (75, 78, .getfield 64), (78, 81, .invokeinterface 3 87), (81, 82, .iload 1), (82, 83, .iconst 1), (83, 84, .iadd), (84, 87, .ret 88), (87, 88, .iconst (-1)), (88, 90, .istore 4), (90, 93, .ret 120), (93, 94, .iload 1), (94, 95, .aload 0), (95, 98, .getfield 64), (98, 99, .iadd), (99, 101, .istore 4), (101, 104, .ret 120), (104, 105, .iload 3), (105, 108, .multianewarray 5 114), (108, 109, .iload 1), (109, 110, .iconst 1), (110, 111, .isub), (111, 114, .ret 115), (114, 115, .iconst (-1)), (115, 117, .istore 4), (117, 120, .ret 120), (120, 121, .aload 0), (121, 123, .iload 4), (123, 126, .invokevirtual 35), (126, 129, .multianewarray 0 134), (129, 131, .iload 4), (131, 134, .ret 135), (134, 135, .iconst (-1)), (135, 136, .ireturn)]
def zc_X2_walkOver : List (Nat × Nat × Instr) := [(0, 1, .aload 0), (1, 2, .aload 1), (2, 5, .getfield 0), (5, 8, .invokevirtual 35), (8, 11, .multianewarray 1 13), (11, 12, .iconst 0), (12, 13, .ireturn), (13, 14, .aload 1), (14, 17, .getfield 0), (17, 18, .istore 2), (18, 19, .iconst 1), (19, 20, .iload 2), (20, 21, .ishl), (21, 22, .istore 3), (22, 23, .iconst 0), (23, 25, .istore 4), (25, 27, .iload 4), (27, 28, .aload 1), (28, 31, .getfield 2), (31, 34, .invokeinterface 3 65), (34, 35, .aload 0), (35, 36, .iload 2), (36, 37, .aload 1), (37, 39, .iload 4), (39, 42, .invokevirtual 3), (42, 45, .invokevirtual 42), (45, 46, .istore 2), (46, 47, .iload 2), (47, 48, .iconst (-1)), (48, 51, .invokeinterface 1 53), (51, 52, .iconst 0), (52, 53, .ireturn), (53, 54, .iload 3), (54, 55, .iconst 1), (55, 56, .iload 2), (56, 57, .ishl), (57, 58, .ior), (58, 59, .istore 3), (59, 62, .iinc 4 1), (62, 65, .ret 25), (65, 66, .aload 1), (66, 67, .iload 2), (67, 70, .putfield 1), (70, 71, .aload 1), (71, 72, .iload 3), (72, 75, .putfield 3), (75, 76, .iconst 1), (76, 77, .ireturn)]
def zc_X2_joinsAny : List (Nat × Nat × Instr) := [(0, 1, .iconst 0), (1, 2, .istore 2), (2, 3, .iload 2), (3, 4, .aload 0), (4, 7, .getfield 68), (7, 10, .invokeinterface 3 57), (10, 11, .iload 2), (11, 12, .iconst 4), (12, 15, .invokeinterface 3 57), (15, 16, .aload 0), (16, 19, .getfield 70), (19, 20, .iload 2), (20, 21, .aaload), (21, 22, .aload 1), (22, 23, .aload 0), (23, 26, .getfield 66), (26, 29, .invokevirtual 9), (29, 32, .multianewarray 1 49), (32, 33, .aload 1), (33, 34, .aload 0), (34, 37, .getfield 70), (37, 38, .iload 2), (38, 39, .aaload), (39, 40, .aload 0), (40, 43, .getfield 66), (43, 46, .invokevirtual 9), (46, 49, .multianewarray 0 51), (49, 50, .iconst 1), (50, 51, .ireturn), (51, 54, .iinc 2 1), (54, 57, .ret 2), (57, 58, .iconst 0), (58, 59, .ireturn)]
def zc_X2_addChain : List (Nat × Nat × Instr) := [(0, 1, .aload 0), (1, 4, .getfield 68), (4, 7, .multianewarray 2 15), (7, 8, .aload 0), (8, 11, .getfield 68), (11, 12, .iconst 4), (12, 15, .invokeinterface 2 17), (15, 16, .iconst 0), (16, 17, .ireturn), (17, 18, .aload 0), (18, 21, .getfield 70), (21, 22, .aload 0), (22, 25, .getfield 68), (25, 26, .aaload), (26, 27, .aload 1), (27, 30, .invokevirtual 1), (30, 31, .aload 0), (31, 32, .dup), (32, 35, .getfield 68), (35, 36, .iconst 1), (36, 37, .iadd), (37, 40, .putfield 68), (40, 41, .iconst 1), (41, 42, .ireturn)]
def zc_X3_init : List (Nat × Nat × Instr) := [(0, 1, .aload 0), (1, 4, .monitorenter), (4, 5, .aload 0), (5, 7, .iconst 60), (7, 9, .newarray .int), (9, 12, .putfield 96), (12, 13, .aload 0), (13, 15, .iconst 100), (15, 17, .newarray .int), (17, 20, .putfield 99), (20, 21, .aload 0), (21, 24, .iconst 325), (24, 26, .newarray .int), (26, 29, .putfield 100), (29, 30, .aload 0), (30, 33, .iconst 325), (33, 35, .newarray .int), (35, 38, .putfield 101), (38, 39, .aload 0), (39, 42, .iconst 325), (42, 44, .newarray .long), (44, 47, .putfield 102), (47, 48, .aload 0), (48, 51, .iconst 325), (51, 53, .newarray .long), (53, 56, .putfield 103), (56, 57, .aload 0), (57, 60, .iconst 4225), (60, 62, .newarray .int), (62, 65, .putfield 104), (65, 66, .return_)]
def zc_X3_shortest : List (Nat × Nat × Instr) := [(0, 1, .iload 2), (1, 2, .iload 3), (2, 5, .invokeinterface 1 7), (5, 6, .iconst 0), (6, 7, .ireturn), (7, 8, .aload 0), (8, 9, .aload 1), (9, 12, .invokevirtual 55), (12, 13, .aload 0), (13, 16, .getfield 100), (16, 17, .iconst (-1)), (17, 20, .invokestatic 167), (20, 21, .iload 2), (21, 24, .invokestatic 56), (24, 26, .istore 4), (26, 27, .aload 0), (27, 30, .getfield 100), (30, 32, .iload 4), (32, 34, .iload 4), (34, 35, .iastore), (35, 36, .aload 0), (36, 39, .getfield 101), (39, 40, .iconst 0), (40, 42, .iload 4), (42, 43, .iastore), (43, 44, .iconst 0), (44, 46, .istore 5), (46, 47, .iconst 1), (47, 49, .istore 6), (49, 50, .iconst 1), (50, 52, .istore 7), (52, 54, .iload 7), (54, 56, .iconst 60), (56, 59, .invokeinterface 4 185), (59, 61, .iload 6), (61, 63, .istore 8), (63, 65, .iload 5), (65, 67, .iload 8), (67, 70, .invokeinterface 3 179), (70, 71, .iconst 0), (71, 73, .istore 9), (73, 75, .iload 9), (75, 76, .iconst 4), (76, 79, .invokeinterface 3 173), (79, 80, .aload 0), (80, 81, .aload 0), (81, 84, .getfield 101), (84, 86, .iload 5), (86, 87, .iaload), (87, 89, .iload 9), (89, 92, .invokevirtual 57), (92, 94, .istore 10), (94, 96, .iload 10), (96, 99, .multianewarray 2 167), (99, 100, .aload 0), (100, 103, .getfield 100), (103, 105, .iload 10), (105, 106, .iaload), (106, 107, .iconst (-1)), (107, 110, .invokeinterface 1 167), (110, 112, .iload 6), (112, 115, .iconst 325), (115, 118, .invokeinterface 2 121), (118, 121, .ret 167), (121, 122, .aload 0), (122, 125, .getfield 100), (125, 127, .iload 10), (127, 128, .aload 0), (128, 131, .getfield 101), (131, 133, .iload 5), (133, 134, .iaload), (134, 135, .iastore), (135, 137, .iload 10), (137, 139, .iconst 13), (139, 140, .idiv), (140, 141, .iload 3), (141, 144, .invokeinterface 1 155), (144, 145, .aload 0), (145, 147, .iload 10), (147, 149, .iload 7), (149, 152, .invokevirtual 48), (152, 154, .iload 7), (154, 155, .ireturn), (155, 156, .aload 0), (156, 159, .getfield 101), (159, 161, .iload 6), (161, 163, .iload 10), (163, 164, .iastore), (164, 167, .iinc 6 1), (167, 170, .iinc 9 1), (170, 173, .ret 73), (173, 176, .iinc 5 1), (176, 179, .ret 63), (179, 182, .iinc 7 1), (182, 185, .ret 52), (185, 187, .iconst (-9)), (187, 188, .ireturn)]
def zc_X3_fillRow : List (Nat × Nat × Instr) := [(0, 1, .iload 1), (1, 2, .istore 3), (2, 3, .iload 2), (3, 4, .iconst 1), (4, 5, .isub), (5, 7, .istore 4), (7, 9, .iload 4), (9, 12, .multianewarray 2 58), (12, 14, .iload 4), (14, 16, .iconst 60), (16, 19, .invokeinterface 3 52), (19, 20, .iload 3), (20, 23, .multianewarray 2 52), (23, 24, .iload 3), (24, 27, .iconst 325), (27, 30, .invokeinterface 3 52), (30, 31, .aload 0), (31, 34, .getfield 96), (34, 36, .iload 4), (36, 37, .iload 3), (37, 39, .iconst 13), (39, 40, .irem), (40, 41, .iconst 1), (41, 42, .isub), (42, 43, .iconst 3), (43, 44, .idiv), (44, 45, .iastore), (45, 46, .aload 0), (46, 49, .getfield 100), (49, 50, .iload 3), (50, 51, .iaload), (51, 52, .istore 3), (52, 55, .iinc 4 (-1)), (55, 58, .ret 7), (58, 59, .return_)]
def zc_X3_howMany : List (Nat × Nat × Instr) := [(0, 1, .aload 0), (1, 2, .aload 1), (2, 5, .invokevirtual 55), (5, 6, .aload 0), (6, 9, .getfield 102), (9, 11, .astore 5), (11, 12, .aload 0), (12, 15, .getfield 103), (15, 17, .astore 6), (17, 19, .aload 5), (19, 20, .goto_w 0), (20, 23, .invokestatic 166), (23, 25, .aload 5), (25, 26, .iload 2), (26, 29, .invokestatic 56), (29, 30, .goto_w 1), (30, 31, .lastore), (31, 32, .iconst 0), (32, 34, .istore 7), (34, 36, .iload 7), (36, 38, .iload 4), (38, 41, .invokeinterface 3 73), (41, 43, .aload 6), (43, 44, .goto_w 0), (44, 47, .invokestatic 166), (47, 48, .aload 0), (48, 50, .aload 5), (50, 52, .aload 6), (52, 55, .invokevirtual 50), (55, 57, .aload 5), (57, 59, .astore 8), (59, 61, .aload 6), (61, 63, .astore 5), (63, 65, .aload 8), (65, 67, .astore 6), (67, 70, .iinc 7 1), (70, 73, .ret 34), (73, 74, .goto_w 0), (74, 76, .lstore 7), (76, 77, .iconst 0), (77, 79, .istore 9), (79, 81, .iload 9), (81, 83, .iconst 13), (83, 86, .invokeinterface 3 107), (86, 88, .lload 7), (88, 90, .aload 5), (90, 91, .iload 3), (91, 94, .invokestatic 56), (94, 96, .iload 9), (96, 97, .iadd), (97, 98, .laload), (98, 99, .ladd), (99, 101, .lstore 7), (101, 104, .iinc 9 1), (104, 107, .ret 79), (107, 109, .lload 7), (109, 110, .lreturn)]
def zc_X3_goOneStep : List (Nat × Nat × Instr) := [(0, 1, .iconst 0), (1, 2, .istore 3), (2, 3, .iload 3), (3, 4, .aload 0), (4, 7, .getfield 98), (7, 10, .invokeinterface 3 66), (10, 11, .aload 1), (11, 12, .iload 3), (12, 13, .laload), (13, 14, .goto_w 0), (14, 15, .lcmp), (15, 18, .multianewarray 1 21), (18, 21, .ret 60), (21, 22, .iconst 0), (22, 24, .istore 4), (24, 26, .iload 4), (26, 27, .iconst 4), (27, 30, .invokeinterface 3 60), (30, 31, .aload 0), (31, 32, .iload 3), (32, 34, .iload 4), (34, 37, .invokevirtual 57), (37, 39, .istore 5), (39, 41, .iload 5), (41, 44, .multianewarray 2 54), (44, 45, .aload 2), (45, 47, .iload 5), (47, 48, .dup2), (48, 49, .laload), (49, 50, .aload 1), (50, 51, .iload 3), (51, 52, .laload), (52, 53, .ladd), (53, 54, .lastore), (54, 57, .iinc 4 1), (57, 60, .ret 24), (60, 63, .iinc 3 1), (63, 66, .ret 2), (66, 67, .return_)]
def zc_X3_mended : List (Nat × Nat × Instr) := [(0, 1, .aload 0), (1, 2, .aload 1), (2, 5, .invokevirtual 55), (5, 6, .aload 2), (6, 9, .getfield 2), (9, 11, .iconst 12), (11, 14, .dsub), (14, 15, .istore 3), (15, 16, .iconst 0), (16, 18, .istore 4), (18, 20, .iload 4), (20, 21, .aload 0), (21, 24, .getfield 98), (24, 27, .invokeinterface 3 65), (27, 28, .aload 0), (28, 31, .getfield 104), (31, 32, .iload 3), (32, 35, .iconst 325), (35, 36, .imul), (36, 38, .iload 4), (38, 39, .iadd), (39, 41, .iload 4), (41, 43, .iconst 13), (43, 44, .idiv), (44, 45, .aload 2), (45, 48, .getfield 1), (48, 51, .invokeinterface 1 55), (51, 52, .iconst 0), (52, 55, .ret 58), (55, 58, .iconst 1000), (58, 59, .iastore), (59, 62, .iinc 4 1), (62, 65, .ret 18), (65, 66, .iload 3), (66, 67, .iconst 1), (67, 68, .isub), (68, 70, .istore 4), (70, 72, .iload 4), (72, 75, .multianewarray 2 122), (75, 76, .iconst 0), (76, 78, .istore 5), (78, 80, .iload 5), (80, 81, .aload 0), (81, 84, .getfield 98), (84, 87, .invokeinterface 3 116), (87, 88, .aload 0), (88, 91, .getfield 104), (91, 93, .iload 4), (93, 96, .iconst 325), (96, 97, .imul), (97, 99, .iload 5), (99, 100, .iadd), (100, 101, .aload 0), (101, 102, .aload 2), (102, 104, .iload 4), (104, 106, .iload 5), (106, 109, .invokevirtual 52), (109, 110, .iastore), (110, 113, .iinc 5 1), (113, 116, .ret 78), (116, 119, .iinc 4 (-1)), (119, 122, .ret 70), (122, 123, .aload 0), (123, 126, .getfield 104), (126, 127, .aload 2), (127, 130, .getfield 0), (130, 133, .invokestatic 56), (133, 134, .iaload), (134, 136, .istore 4), (136, 138, .iload 4), (138, 141, .iconst 1000), (141, 144, .invokeinterface 2 147), (144, 146, .iconst (-9)), (146, 147, .ireturn), (147, 148, .aload 0), (148, 149, .aload 2), (149, 150, .iload 3), (150, 153, .invokevirtual 53), (153, 155, .iload 4), (155, 156, .ireturn)]
def zc_X3_fewestFrom : List (Nat × Nat × Instr) := [(0, 3, .iconst 1000), (3, 5, .istore 4), (5, 6, .iconst 0), (6, 8, .istore 5), (8, 10, .iload 5), (10, 11, .iconst 4), (11, 14, .invokeinterface 3 36), (14, 16, .iload 4), (16, 17, .aload 0), (17, 18, .aload 1), (18, 19, .iload 2), (19, 20, .iload 3), (20, 22, .iload 5), (22, 25, .invokevirtual 54), (25, 28, .dsub), (28, 30, .istore 4), (30, 33, .iinc 5 1), (33, 36, .ret 8), (36, 38, .iload 4), (38, 39, .ireturn)]
def zc_X3_fillMended : List (Nat × Nat × Instr) := [(0, 1, .aload 1), (1, 4, .getfield 0), (4, 7, .invokestatic 56), (7, 8, .istore 3), (8, 9, .iconst 0), (9, 11, .istore 4), (11, 13, .iload 4), (13, 14, .iload 2), (14, 17, .invokeinterface 3 83), (17, 19, .iload 4), (19, 21, .iconst 12), (21, 24, .invokeinterface 3 83), (24, 25, .iconst 0), (25, 27, .istore 5), (27, 29, .iload 5), (29, 30, .iconst 3), (30, 33, .invokeinterface 3 60), (33, 34, .aload 0), (34, 35, .aload 1), (35, 37, .iload 4), (37, 38, .iload 3), (38, 40, .iload 5), (40, 43, .invokevirtual 54), (43, 44, .aload 0), (44, 45, .aload 1), (45, 47, .iload 4), (47, 48, .iload 3), (48, 51, .invokevirtual 52), (51, 54, .invokeinterface 5 60), (54, 57, .iinc 5 1), (57, 60, .ret 27), (60, 61, .aload 0), (61, 64, .getfield 96), (64, 66, .iload 4), (66, 68, .iload 5), (68, 69, .iastore), (69, 70, .aload 0), (70, 71, .iload 3), (71, 73, .iload 5), (73, 76, .invokevirtual 57), (76, 77, .istore 3), (77, 80, .iinc 4 1), (80, 83, .ret 11), (83, 84, .return_)]
def zc_X3_differsBy : List (Nat × Nat × Instr) := [(0, 1, .aload 0), (1, 2, .iload 3), (2, 4, .iload 4), (4, 7, .invokevirtual 57), (7, 9, .istore 5), (9, 11, .iload 5), (11, 14, .multianewarray 2 24), (14, 15, .iload 2), (15, 18, .multianewarray 2 24), (18, 19, .iload 2), (19, 21, .iconst 12), (21, 24, .invokeinterface 2 28), (24, 27, .iconst 1000), (27, 28, .ireturn), (28, 29, .aload 0), (29, 32, .getfield 104), (32, 33, .iload 2), (33, 34, .iconst 1), (34, 35, .iadd), (35, 38, .iconst 325), (38, 39, .imul), (39, 41, .iload 5), (41, 42, .iadd), (42, 43, .iaload), (43, 45, .iload 4), (45, 46, .aload 1), (46, 47, .iload 2), (47, 50, .invokevirtual 3), (50, 53, .invokeinterface 1 57), (53, 54, .iconst 0), (54, 57, .ret 58), (57, 58, .iconst 1), (58, 59, .iadd), (59, 60, .ireturn)]
def zc_X3_lookAt : List (Nat × Nat × Instr) := [(0, 1, .aload 0), (1, 2, .aload 1), (2, 5, .getfield 66), (5, 8, .putfield 97), (8, 9, .aload 1), (9, 12, .getfield 64), (12, 13, .aload 1), (13, 16, .getfield 65), (16, 17, .imul), (17, 19, .iconst 25), (19, 22, .dsub), (22, 23, .istore 2), (23, 24, .aload 0), (24, 25, .iload 2), (25, 27, .iconst 13), (27, 28, .imul), (28, 31, .putfield 98), (31, 32, .iconst 0), (32, 33, .istore 3), (33, 34, .iload 3), (34, 35, .iload 2), (35, 38, .invokeinterface 3 77), (38, 39, .iconst 0), (39, 41, .istore 4), (41, 43, .iload 4), (43, 44, .iconst 4), (44, 47, .invokeinterface 3 71), (47, 48, .aload 0), (48, 51, .getfield 99), (51, 52, .iload 3), (52, 53, .iconst 4), (53, 54, .imul), (54, 56, .iload 4), (56, 57, .iadd), (57, 58, .aload 1), (58, 59, .iload 3), (59, 61, .iload 4), (61, 64, .invokevirtual 42), (64, 65, .iastore), (65, 68, .iinc 4 1), (68, 71, .ret 41), (71, 74, .iinc 3 1), (74, 77, .ret 33), (77, 78, .return_)]
def zc_X3_startOn : List (Nat × Nat × Instr) := [(0, 1, .iload 0), (1, 4, .multianewarray 2 17), (4, 5, .iload 0), (5, 7, .iconst 25), (7, 10, .invokeinterface 3 17), (10, 11, .iload 0), (11, 13, .iconst 13), (13, 14, .imul), (14, 17, .ret 18), (17, 18, .iconst 0), (18, 19, .ireturn)]
def zc_X3_after : List (Nat × Nat × Instr) := [(0, 1, .iload 1), (1, 4, .multianewarray 2 21), (4, 5, .iload 1), (5, 6, .aload 0), (6, 9, .getfield 98), (9, 12, .invokeinterface 3 21), (12, 13, .iload 2), (13, 16, .multianewarray 2 21), (16, 17, .iload 2), (17, 18, .iconst 4), (18, 21, .invokeinterface 2 23), (21, 22, .iconst (-1)), (22, 23, .ireturn), (23, 24, .aload 0), (24, 27, .getfield 99), (27, 28, .iload 1), (28, 30, .iconst 13), (30, 31, .idiv), (31, 32, .iconst 4), (32, 33, .imul), (33, 34, .iload 2), (34, 35, .iadd), (35, 36, .iaload), (36, 37, .istore 3), (37, 38, .iload 3), (38, 39, .iconst (-1)), (39, 42, .invokeinterface 1 44), (42, 43, .iconst (-1)), (43, 44, .ireturn), (44, 45, .iload 1), (45, 47, .iconst 13), (47, 48, .irem), (48, 50, .istore 4), (50, 51, .iconst 1), (51, 52, .iload 2), (52, 53, .iconst 3), (53, 54, .imul), (54, 55, .iadd), (55, 57, .istore 5), (57, 59, .iload 4), (59, 61, .iload 5), (61, 64, .invokeinterface 2 73), (64, 66, .iload 4), (66, 68, .iload 5), (68, 69, .iconst 3), (69, 70, .iadd), (70, 73, .invokeinterface 2 81), (73, 74, .iload 3), (74, 77, .invokestatic 56), (77, 79, .iload 5), (79, 80, .iadd), (80, 81, .ireturn), (81, 83, .iload 4), (83, 85, .iload 5), (85, 86, .isub), (86, 87, .iconst 1), (87, 88, .iadd), (88, 90, .istore 6), (90, 92, .iload 6), (92, 93, .aload 0), (93, 96, .getfield 97), (96, 99, .invokeinterface 3 111), (99, 100, .iload 3), (100, 103, .invokestatic 56), (103, 105, .iload 4), (105, 106, .iadd), (106, 107, .iconst 1), (107, 108, .iadd), (108, 111, .ret 112), (111, 112, .iconst (-1)), (112, 113, .ireturn)]
def zc_X4_init : List (Nat × Nat × Instr) := [(0, 1, .aload 0), (1, 4, .monitorenter), (4, 5, .aload 0), (5, 7, .iconst 30), (7, 9, .newarray .int), (9, 12, .putfield 128), (12, 13, .aload 0), (13, 15, .iconst 30), (15, 17, .newarray .int), (17, 20, .putfield 129), (20, 21, .aload 0), (21, 22, .iconst 3), (22, 24, .newarray .int), (24, 27, .putfield 130), (27, 28, .aload 0), (28, 30, .iconst 40), (30, 32, .newarray .int), (32, 35, .putfield 136), (35, 36, .return_)]
def zc_X4_look : List (Nat × Nat × Instr) := [(0, 1, .aload 0), (1, 2, .aload 1), (2, 5, .getfield 66), (5, 8, .putfield 133), (8, 9, .aload 0), (9, 10, .aload 1), (10, 13, .getfield 64), (13, 16, .putfield 134), (16, 17, .aload 0), (17, 18, .aload 1), (18, 21, .invokevirtual 39), (21, 24, .putfield 135), (24, 25, .aload 0), (25, 26, .iconst 0), (26, 29, .putfield 131), (29, 30, .iconst 0), (30, 31, .istore 2), (31, 32, .iload 2), (32, 33, .aload 1), (33, 36, .getfield 65), (36, 39, .invokeinterface 3 60), (39, 40, .aload 0), (40, 41, .iload 2), (41, 42, .aload 0), (42, 45, .getfield 134), (45, 46, .imul), (46, 47, .iconst 1), (47, 48, .aload 0), (48, 51, .getfield 134), (51, 54, .invokevirtual 60), (54, 57, .iinc 2 1), (57, 60, .ret 31), (60, 61, .aload 0), (61, 62, .aload 0), (62, 65, .getfield 131), (65, 68, .putfield 132), (68, 69, .iconst 0), (69, 70, .istore 2), (70, 71, .iload 2), (71, 72, .aload 0), (72, 75, .getfield 134), (75, 78, .invokeinterface 3 97), (78, 79, .aload 0), (79, 80, .iload 2), (80, 81, .aload 0), (81, 84, .getfield 134), (84, 85, .aload 1), (85, 88, .getfield 65), (88, 91, .invokevirtual 60), (91, 94, .iinc 2 1), (94, 97, .ret 70), (97, 98, .return_)]
def zc_X4_lookAlong : List (Nat × Nat × Instr) := [(0, 1, .iconst 0), (1, 3, .istore 4), (3, 4, .iconst 0), (4, 6, .istore 5), (6, 8, .iload 5), (8, 9, .iload 3), (9, 12, .invokeinterface 3 127), (12, 13, .iload 1), (13, 15, .iload 5), (15, 16, .iload 2), (16, 17, .imul), (17, 18, .iadd), (18, 20, .istore 6), (20, 21, .aload 0), (21, 24, .getfield 135), (24, 26, .iload 6), (26, 27, .ishr), (27, 28, .iconst 1), (28, 29, .iand), (29, 30, .iconst 1), (30, 33, .invokeinterface 1 37), (33, 34, .iconst 1), (34, 37, .ret 38), (37, 38, .iconst 0), (38, 40, .istore 7), (40, 42, .iload 7), (42, 45, .multianewarray 0 90), (45, 47, .iload 4), (47, 50, .multianewarray 1 90), (50, 51, .aload 0), (51, 54, .getfield 131), (54, 56, .iconst 30), (56, 59, .invokeinterface 3 90), (59, 60, .aload 0), (60, 63, .getfield 129), (63, 64, .aload 0), (64, 67, .getfield 131), (67, 69, .iload 6), (69, 70, .iastore), (70, 71, .aload 0), (71, 74, .getfield 128), (74, 75, .aload 0), (75, 78, .getfield 131), (78, 79, .iconst 0), (79, 80, .iastore), (80, 81, .aload 0), (81, 82, .dup), (82, 85, .getfield 131), (85, 86, .iconst 1), (86, 87, .iadd), (87, 90, .putfield 131), (90, 92, .iload 7), (92, 95, .multianewarray 0 117), (95, 96, .aload 0), (96, 99, .getfield 131), (99, 102, .multianewarray 5 117), (102, 103, .aload 0), (103, 106, .getfield 128), (106, 107, .aload 0), (107, 110, .getfield 131), (110, 111, .iconst 1), (111, 112, .isub), (112, 113, .dup2), (113, 114, .iaload), (114, 115, .iconst 1), (115, 116, .iadd), (116, 117, .iastore), (117, 119, .iload 7), (119, 121, .istore 4), (121, 124, .iinc 5 1), (124, 127, .ret 6), (127, 128, .return_)]
def zc_X4_harmOf : List (Nat × Nat × Instr) := [(0, 1, .iload 1), (1, 4, .multianewarray 2 30), (4, 5, .iload 1), (5, 6, .aload 0), (6, 9, .getfield 131), (9, 12, .invokeinterface 3 30), (12, 13, .aload 0), (13, 16, .getfield 128), (16, 17, .iload 1), (17, 18, .iaload), (18, 19, .aload 0), (19, 22, .getfield 133), (22, 23, .isub), (23, 24, .iconst 0), (24, 27, .dadd), (27, 30, .ret 31), (30, 31, .iconst 0), (31, 32, .ireturn)]
def zc_X4_harmOfAll : List (Nat × Nat × Instr) := [(0, 1, .iconst 0), (1, 2, .istore 1), (2, 3, .iconst 0), (3, 4, .istore 2), (4, 5, .iload 2), (5, 6, .aload 0), (6, 9, .getfield 131), (9, 12, .invokeinterface 3 26), (12, 13, .iload 1), (13, 14, .aload 0), (14, 15, .iload 2), (15, 18, .invokevirtual 61), (18, 19, .iadd), (19, 20, .istore 1), (20, 23, .iinc 2 1), (23, 26, .ret 4), (26, 27, .iload 1), (27, 28, .ireturn)]
def zc_X4_longest : List (Nat × Nat × Instr) := [(0, 1, .aload 0), (1, 4, .getfield 131), (4, 7, .multianewarray 5 11), (7, 8, .iconst 0), (8, 11, .ret 12), (11, 12, .iconst (-1)), (12, 13, .istore 1), (13, 14, .iconst 1), (14, 15, .istore 2), (15, 16, .iload 2), (16, 17, .aload 0), (17, 20, .getfield 131), (20, 23, .invokeinterface 3 46), (23, 24, .aload 0), (24, 27, .getfield 128), (27, 28, .iload 2), (28, 29, .iaload), (29, 30, .aload 0), (30, 33, .getfield 128), (33, 34, .iload 1), (34, 35, .iaload), (35, 38, .invokeinterface 5 40), (38, 39, .iload 2), (39, 40, .istore 1), (40, 43, .iinc 2 1), (43, 46, .ret 15), (46, 47, .iload 1), (47, 48, .ireturn)]
def zc_X4_fewestHedges : List (Nat × Nat × Instr) := [(0, 1, .aload 0), (1, 4, .invokevirtual 65), (4, 5, .iconst 0), (5, 6, .istore 1), (6, 7, .iload 1), (7, 8, .iconst 3), (8, 11, .invokeinterface 4 29), (11, 12, .aload 0), (12, 13, .iconst 0), (13, 14, .iload 1), (14, 15, .iconst 0), (15, 18, .invokestatic 68), (18, 21, .multianewarray 0 23), (21, 22, .iload 1), (22, 23, .ireturn), (23, 26, .iinc 1 1), (26, 29, .ret 6), (29, 31, .iconst (-9)), (31, 32, .ireturn)]
def zc_X4_findStretches : List (Nat × Nat × Instr) := [(0, 1, .aload 0), (1, 2, .iconst 0), (2, 5, .putfield 137), (5, 6, .iconst 0), (6, 7, .istore 1), (7, 8, .iload 1), (8, 9, .aload 0), (9, 12, .getfield 131), (12, 15, .invokeinterface 3 98), (15, 16, .iload 1), (16, 17, .aload 0), (17, 20, .getfield 132), (20, 23, .invokeinterface 3 27), (23, 24, .iconst 1), (24, 27, .ret 31), (27, 28, .aload 0), (28, 31, .getfield 134), (31, 32, .istore 2), (32, 33, .iconst 0), (33, 34, .istore 3), (34, 35, .iload 3), (35, 36, .aload 0), (36, 37, .iload 1), (37, 40, .invokevirtual 61), (40, 43, .invokeinterface 3 92), (43, 44, .aload 0), (44, 47, .getfield 137), (47, 49, .iconst 40), (49, 52, .invokeinterface 3 92), (52, 53, .aload 0), (53, 56, .getfield 136), (56, 57, .aload 0), (57, 60, .getfield 137), (60, 61, .aload 0), (61, 62, .aload 0), (62, 65, .getfield 129), (65, 66, .iload 1), (66, 67, .iaload), (67, 68, .iload 3), (68, 69, .iload 2), (69, 70, .imul), (70, 71, .iadd), (71, 72, .iload 2), (72, 75, .invokevirtual 66), (75, 76, .iastore), (76, 77, .aload 0), (77, 78, .dup), (78, 81, .getfield 137), (81, 82, .iconst 1), (82, 83, .iadd), (83, 86, .putfield 137), (86, 89, .iinc 3 1), (89, 92, .ret 34), (92, 95, .iinc 1 1), (95, 98, .ret 7), (98, 99, .return_)]
def zc_X4_cellsOf : List (Nat × Nat × Instr) := [(0, 1, .iconst 0), (1, 2, .istore 3), (2, 3, .iconst 0), (3, 5, .istore 4), (5, 7, .iload 4), (7, 8, .aload 0), (8, 11, .getfield 133), (11, 14, .invokeinterface 4 31), (14, 15, .iload 3), (15, 16, .iconst 1), (16, 17, .iload 1), (17, 19, .iload 4), (19, 20, .iload 2), (20, 21, .imul), (21, 22, .iadd), (22, 23, .ishl), (23, 24, .ior), (24, 25, .istore 3), (25, 28, .iinc 4 1), (28, 31, .ret 5), (31, 32, .iload 3), (32, 33, .ireturn)]
def zc_X4_breakAll : List (Nat × Nat × Instr) := [(0, 1, .iconst 0), (1, 2, .istore 2), (2, 3, .iload 2), (3, 4, .aload 0), (4, 7, .getfield 137), (7, 10, .invokeinterface 3 29), (10, 11, .aload 0), (11, 14, .getfield 136), (14, 15, .iload 2), (15, 16, .iaload), (16, 17, .iload 1), (17, 18, .iand), (18, 21, .multianewarray 1 23), (21, 22, .iconst 0), (22, 23, .ireturn), (23, 26, .iinc 2 1), (26, 29, .ret 2), (29, 30, .iconst 1), (30, 31, .ireturn)]
def zc_X4_placeHedges : List (Nat × Nat × Instr) := [(0, 1, .iload 1), (1, 2, .iload 2), (2, 5, .invokeinterface 3 10), (5, 6, .iload 1), (6, 7, .iconst 3), (7, 10, .invokeinterface 2 16), (10, 11, .aload 0), (11, 12, .iload 3), (12, 15, .invokevirtual 67), (15, 16, .ireturn), (16, 17, .iload 1), (17, 20, .multianewarray 5 33), (20, 21, .aload 0), (21, 24, .getfield 130), (24, 25, .iload 1), (25, 26, .iconst 1), (26, 27, .isub), (27, 28, .iaload), (28, 29, .iconst 1), (29, 30, .iadd), (30, 33, .ret 34), (33, 34, .iconst 0), (34, 36, .istore 4), (36, 38, .iload 4), (38, 40, .istore 5), (40, 42, .iload 5), (42, 44, .iconst 25), (44, 47, .invokeinterface 3 93), (47, 48, .aload 0), (48, 51, .getfield 135), (51, 53, .iload 5), (53, 54, .ishr), (54, 55, .iconst 1), (55, 56, .iand), (56, 57, .iconst 1), (57, 60, .invokeinterface 1 87), (60, 61, .aload 0), (61, 64, .getfield 130), (64, 65, .iload 1), (65, 67, .iload 5), (67, 68, .iastore), (68, 69, .aload 0), (69, 70, .iload 1), (70, 71, .iconst 1), (71, 72, .iadd), (72, 73, .iload 2), (73, 74, .iload 3), (74, 75, .iconst 1), (75, 77, .iload 5), (77, 78, .ishl), (78, 79, .ior), (79, 82, .invokestatic 68), (82, 85, .multianewarray 0 87), (85, 86, .iconst 1), (86, 87, .ireturn), (87, 90, .iinc 5 1), (90, 93, .ret 40), (93, 94, .iconst 0), (94, 95, .ireturn)]
def zc_X5_init : List (Nat × Nat × Instr) := [(0, 1, .aload 0), (1, 4, .monitorenter), (4, 5, .aload 0), (5, 8, .new 2), (8, 9, .dup), (9, 12, .invokespecial 30), (12, 15, .putfield 160), (15, 16, .aload 0), (16, 19, .new 1), (19, 20, .dup), (20, 23, .invokespecial 10), (23, 26, .putfield 161), (26, 27, .aload 0), (27, 30, .new 3), (30, 31, .dup), (31, 34, .invokespecial 46), (34, 37, .putfield 162), (37, 38, .aload 0), (38, 41, .new 4), (41, 42, .dup), (42, 45, .invokespecial 58), (45, 48, .putfield 163), (48, 49, .aload 0), (49, 52, .new 0), (52, 53, .dup), (53, 56, .invokespecial 0), (56, 59, .putfield 164), (59, 60, .aload 0), (60, 61, .iconst 2), (61, 64, .anewarray 5), (64, 67, .putfield 165), (67, 68, .iconst 0), (68, 69, .istore 1), (69, 70, .iload 1), (70, 71, .iconst 2), (71, 74, .invokeinterface 3 93), (74, 75, .aload 0), (75, 78, .getfield 165), (78, 79, .iload 1), (79, 82, .new 2), (82, 83, .dup), (83, 86, .invokespecial 30), (86, 87, .aastore), (87, 90, .iinc 1 1), (90, 93, .ret 69), (93, 94, .aload 0), (94, 95, .iconst 2), (95, 97, .newarray .boolean), (97, 100, .putfield 166), (100, 101, .aload 0), (101, 102, .goto_w 0), (102, 105, .putfield 167), (105, 106, .return_)]
def zc_X5_type : List (Nat × Nat × Instr) := [(0, 1, .iload 3), (1, 2, .iconst 1), (2, 5, .invokeinterface 2 11), (5, 6, .iload 3), (6, 8, .iconst 8), (8, 11, .invokeinterface 5 13), (11, 12, .iconst (-1)), (12, 13, .ireturn), (13, 14, .aload 0), (14, 17, .getfield 161), (17, 20, .getfield 32), (20, 21, .iload 3), (21, 22, .iadd), (22, 25, .iconst 200), (25, 28, .invokeinterface 5 31), (28, 30, .iconst (-3)), (30, 31, .ireturn), (31, 32, .iload 3), (32, 33, .iconst 1), (33, 34, .isub), (34, 36, .istore 4), (36, 38, .iload 4), (38, 41, .multianewarray 2 63), (41, 42, .aload 0), (42, 45, .getfield 161), (45, 46, .lload 1), (46, 48, .iconst 8), (48, 50, .iload 4), (50, 51, .imul), (51, 52, .lushr), (52, 53, .l2i), (53, 54, .i2b), (54, 57, .invokevirtual 11), (57, 60, .iinc 4 (-1)), (60, 63, .ret 36), (63, 64, .aload 0), (64, 67, .getfield 161), (67, 70, .getfield 32), (70, 71, .ireturn)]
def zc_X5_clear : List (Nat × Nat × Instr) := [(0, 1, .aload 0), (1, 4, .getfield 161), (4, 7, .getfield 32), (7, 8, .istore 1), (8, 9, .aload 0), (9, 12, .getfield 161), (12, 13, .iconst 0), (13, 16, .putfield 32), (16, 17, .iload 1), (17, 18, .ireturn)]
def zc_X5_yard : List (Nat × Nat × Instr) := [(0, 1, .aload 0), (1, 4, .getfield 161), (4, 7, .invokevirtual 12), (7, 8, .iconst 0), (8, 9, .istore 1), (9, 10, .iload 1), (10, 13, .iconst 200), (13, 16, .invokeinterface 3 53), (16, 17, .aload 0), (17, 20, .getfield 161), (20, 23, .invokevirtual 13), (23, 26, .multianewarray 1 53), (26, 27, .aload 0), (27, 30, .getfield 161), (30, 33, .invokevirtual 14), (33, 36, .multianewarray 1 47), (36, 38, .iconst (-10)), (38, 39, .aload 0), (39, 42, .getfield 161), (42, 45, .getfield 34), (45, 46, .isub), (46, 47, .ireturn), (47, 50, .iinc 1 1), (50, 53, .ret 9), (53, 54, .aload 0), (54, 57, .getfield 160), (57, 60, .getfield 69), (60, 61, .istore 1), (61, 62, .aload 0), (62, 65, .getfield 160), (65, 66, .aload 0), (66, 69, .getfield 161), (69, 72, .getfield 35), (72, 75, .invokevirtual 32), (75, 76, .aload 0), (76, 79, .getfield 160), (79, 80, .iload 1), (80, 83, .putfield 69), (83, 84, .iconst 0), (84, 85, .istore 2), (85, 86, .iload 2), (86, 87, .iconst 2), (87, 90, .invokeinterface 3 103), (90, 91, .aload 0), (91, 94, .getfield 166), (94, 95, .iload 2), (95, 96, .iconst 0), (96, 97, .bastore), (97, 100, .iinc 2 1), (100, 103, .ret 85), (103, 104, .aload 0), (104, 107, .getfield 161), (107, 108, .iconst 0), (108, 111, .putfield 32), (111, 112, .aload 0), (112, 115, .getfield 161), (115, 118, .getfield 33), (118, 119, .ireturn)]
def zc_X5_cell : List (Nat × Nat × Instr) := [(0, 1, .aload 0), (1, 4, .getfield 160), (4, 5, .iload 1), (5, 8, .invokevirtual 33), (8, 11, .multianewarray 1 13), (11, 12, .iconst (-1)), (12, 13, .ireturn), (13, 14, .aload 0), (14, 17, .getfield 160), (17, 18, .iload 1), (18, 21, .invokevirtual 34), (21, 24, .multianewarray 0 26), (24, 25, .iconst 1), (25, 26, .ireturn), (26, 27, .aload 0), (27, 30, .getfield 160), (30, 31, .iload 1), (31, 34, .invokevirtual 36), (34, 37, .multianewarray 0 41), (37, 38, .iconst 2), (38, 41, .ret 42), (41, 42, .iconst 0), (42, 43, .ireturn)]
def zc_X5_chain : List (Nat × Nat × Instr) := [(0, 1, .aload 0), (1, 4, .getfield 160), (4, 5, .iload 1), (5, 8, .invokevirtual 41), (8, 9, .astore 3), (9, 10, .aload 3), (10, 13, .dstore 15), (13, 14, .iconst (-1)), (14, 15, .ireturn), (15, 16, .iload 2), (16, 48, .tableswitch 68 0 3 #[48, 53, 58, 63]), (48, 49, .aload 3), (49, 52, .getfield 0), (52, 53, .ireturn), (53, 54, .aload 3), (54, 57, .getfield 1), (57, 58, .ireturn), (58, 59, .aload 3), (59, 62, .getfield 2), (62, 63, .ireturn), (63, 64, .aload 3), (64, 67, .invokevirtual 7), (67, 68, .ireturn), (68, 69, .iconst (-1)), (69, 70, .ireturn)]
def zc_X5_step : List (Nat × Nat × Instr) := [(0, 1, .aload 0), (1, 4, .getfield 160), (4, 5, .iload 1), (5, 8, .invokevirtual 41), (8, 9, .astore 3), (9, 10, .aload 3), (10, 13, .dload 17), (13, 14, .iload 2), (14, 17, .multianewarray 3 19), (17, 18, .iconst (-1)), (18, 19, .ireturn), (19, 20, .iload 2), (20, 21, .aload 3), (21, 24, .getfield 2), (24, 27, .invokeinterface 3 35), (27, 28, .aload 3), (28, 29, .iload 2), (29, 32, .invokevirtual 3), (32, 35, .ret 37), (35, 37, .iconst (-5)), (37, 38, .ireturn)]
def zc_X5_straight : List (Nat × Nat × Instr) := [(0, 1, .aload 0), (1, 4, .getfield 160), (4, 5, .iload 1), (5, 8, .invokevirtual 41), (8, 9, .astore 2), (9, 10, .aload 2), (10, 13, .dstore 17), (13, 14, .iconst (-1)), (14, 17, .ret 28), (17, 18, .aload 2), (18, 19, .aload 0), (19, 22, .getfield 160), (22, 25, .getfield 66), (25, 28, .invokevirtual 8), (28, 29, .ireturn)]
def zc_X5_joint : List (Nat × Nat × Instr) := [(0, 1, .aload 0), (1, 4, .getfield 160), (4, 5, .iload 1), (5, 8, .invokevirtual 41), (8, 9, .astore 3), (9, 10, .aload 0), (10, 13, .getfield 160), (13, 14, .iload 2), (14, 17, .invokevirtual 41), (17, 19, .astore 4), (19, 20, .aload 3), (20, 23, .dload 28), (23, 25, .aload 4), (25, 28, .dstore 30), (28, 29, .iconst (-1)), (29, 30, .ireturn), (30, 31, .aload 3), (31, 33, .aload 4), (33, 34, .aload 0), (34, 37, .getfield 160), (37, 40, .getfield 66), (40, 43, .invokevirtual 9), (43, 46, .multianewarray 0 50), (46, 47, .iconst 1), (47, 50, .ret 51), (50, 51, .iconst 0), (51, 52, .ireturn)]
def zc_X5_way : List (Nat × Nat × Instr) := [(0, 1, .aload 0), (1, 4, .getfield 160), (4, 5, .iload 1), (5, 8, .invokevirtual 35), (8, 11, .multianewarray 0 27), (11, 12, .aload 0), (12, 15, .getfield 160), (15, 16, .iload 2), (16, 19, .invokevirtual 35), (19, 22, .multianewarray 0 27), (22, 23, .iload 3), (23, 24, .iconst (-1)), (24, 27, .invokeinterface 3 29), (27, 28, .iconst (-1)), (28, 29, .ireturn), (29, 30, .aload 0), (30, 33, .getfield 162), (33, 34, .aload 0), (34, 37, .getfield 160), (37, 38, .iload 1), (38, 39, .iload 2), (39, 42, .invokevirtual 47), (42, 44, .istore 4), (44, 46, .iload 4), (46, 47, .iload 3), (47, 48, .aload 0), (48, 51, .getfield 162), (51, 54, .getfield 96), (54, 56, .iload 4), (56, 59, .invokestatic 100), (59, 60, .ireturn)]
def zc_X5_ways : List (Nat × Nat × Instr) := [(0, 1, .aload 0), (1, 4, .getfield 160), (4, 5, .iload 1), (5, 8, .invokevirtual 35), (8, 11, .multianewarray 0 32), (11, 12, .aload 0), (12, 15, .getfield 160), (15, 16, .iload 2), (16, 19, .invokevirtual 35), (19, 22, .multianewarray 0 32), (22, 23, .iload 3), (23, 26, .multianewarray 2 32), (26, 27, .iload 3), (27, 29, .iconst 20), (29, 32, .invokeinterface 5 36), (32, 35, .goto_w (-1)), (35, 36, .lreturn), (36, 37, .aload 0), (37, 40, .getfield 162), (40, 41, .aload 0), (41, 44, .getfield 160), (44, 45, .iload 1), (45, 46, .iload 2), (46, 47, .iload 3), (47, 50, .invokevirtual 49), (50, 51, .lreturn)]
def zc_X5_mend : List (Nat × Nat × Instr) := [(0, 1, .aload 0), (1, 4, .getfield 160), (4, 5, .iload 1), (5, 8, .invokevirtual 41), (8, 9, .astore 3), (9, 10, .aload 3), (10, 13, .dload 18), (13, 14, .iload 2), (14, 15, .iconst (-1)), (15, 18, .invokeinterface 3 20), (18, 19, .iconst (-1)), (19, 20, .ireturn), (20, 21, .aload 0), (21, 24, .getfield 162), (24, 25, .aload 0), (25, 28, .getfield 160), (28, 29, .aload 3), (29, 32, .invokevirtual 51), (32, 33, .iload 2), (33, 34, .aload 0), (34, 37, .getfield 162), (37, 40, .getfield 96), (40, 41, .aload 3), (41, 44, .getfield 2), (44, 47, .invokestatic 100), (47, 48, .ireturn)]
def zc_X5_lines : List (Nat × Nat × Instr) := [(0, 1, .iload 1), (1, 4, .multianewarray 2 9), (4, 5, .iload 1), (5, 6, .iconst 4), (6, 9, .invokeinterface 5 11), (9, 10, .iconst (-1)), (10, 11, .ireturn), (11, 12, .aload 0), (12, 15, .getfield 163), (15, 16, .aload 0), (16, 19, .getfield 160), (19, 22, .invokevirtual 59), (22, 23, .iload 1), (23, 26, .multianewarray 1 34), (26, 27, .aload 0), (27, 30, .getfield 163), (30, 33, .getfield 131), (33, 34, .ireturn), (34, 35, .iload 1), (35, 36, .iconst 1), (36, 39, .invokeinterface 1 47), (39, 40, .aload 0), (40, 43, .getfield 163), (43, 46, .invokevirtual 62), (46, 47, .ireturn), (47, 48, .aload 0), (48, 51, .getfield 163), (51, 54, .invokevirtual 63), (54, 55, .istore 2), (55, 56, .iload 2), (56, 59, .multianewarray 3 62), (59, 61, .iconst (-9)), (61, 62, .ireturn), (62, 63, .iload 1), (63, 64, .iconst 2), (64, 67, .invokeinterface 1 77), (67, 68, .aload 0), (68, 71, .getfield 163), (71, 74, .getfield 128), (74, 75, .iload 2), (75, 76, .iaload), (76, 77, .ireturn), (77, 78, .iload 1), (78, 79, .iconst 3), (79, 82, .invokeinterface 1 92), (82, 83, .aload 0), (83, 86, .getfield 163), (86, 89, .getfield 129), (89, 90, .iload 2), (90, 91, .iaload), (91, 92, .ireturn), (92, 93, .iload 2), (93, 94, .aload 0), (94, 97, .getfield 163), (97, 100, .getfield 132), (100, 103, .invokeinterface 3 107), (103, 104, .iconst 0), (104, 107, .ret 108), (107, 108, .iconst 1), (108, 109, .ireturn)]
def zc_X5_hedges : List (Nat × Nat × Instr) := [(0, 1, .iload 1), (1, 2, .iconst (-1)), (2, 5, .invokeinterface 2 10), (5, 6, .iload 1), (6, 7, .iconst 3), (7, 10, .invokeinterface 2 12), (10, 11, .iconst (-1)), (11, 12, .ireturn), (12, 13, .aload 0), (13, 16, .getfield 163), (16, 17, .aload 0), (17, 20, .getfield 160), (20, 23, .invokevirtual 59), (23, 24, .aload 0), (24, 27, .getfield 163), (27, 30, .invokevirtual 64), (30, 31, .istore 2), (31, 32, .iload 2), (32, 33, .iload 1), (33, 34, .aload 0), (34, 37, .getfield 163), (37, 40, .getfield 130), (40, 41, .iload 2), (41, 44, .invokestatic 100), (44, 45, .ireturn)]
def zc_X5_gusts : List (Nat × Nat × Instr) := [(0, 1, .iload 1), (1, 2, .iconst 1), (2, 5, .invokeinterface 2 11), (5, 6, .iload 1), (6, 8, .iconst 99), (8, 11, .invokeinterface 5 13), (11, 12, .iconst (-1)), (12, 13, .ireturn), (13, 14, .aload 0), (14, 17, .getfield 163), (17, 18, .aload 0), (18, 21, .getfield 160), (21, 24, .invokevirtual 59), (24, 25, .aload 0), (25, 28, .getfield 163), (28, 31, .getfield 131), (31, 32, .iconst 1), (32, 35, .invokeinterface 3 37), (35, 36, .iconst 0), (36, 37, .ireturn), (37, 38, .iconst 0), (38, 39, .istore 2), (39, 40, .iconst 0), (40, 41, .istore 3), (41, 42, .iload 3), (42, 43, .iload 1), (43, 46, .invokeinterface 3 101), (46, 47, .aload 0), (47, 50, .getfield 160), (50, 51, .aload 0), (51, 54, .getfield 160), (54, 57, .getfield 69), (57, 59, .iconst 1103515245), (59, 60, .imul), (60, 63, .iconst 12345), (63, 64, .iadd), (64, 67, .putfield 69), (67, 68, .iload 2), (68, 69, .aload 0), (69, 72, .getfield 163), (72, 73, .aload 0), (73, 76, .getfield 160), (76, 79, .getfield 69), (79, 81, .iconst 16), (81, 82, .iushr), (82, 83, .aload 0), (83, 86, .getfield 163), (86, 89, .getfield 131), (89, 90, .irem), (90, 93, .invokevirtual 61), (93, 94, .iadd), (94, 95, .istore 2), (95, 98, .iinc 3 1), (98, 101, .ret 41), (101, 102, .iload 2), (102, 103, .ireturn)]
def zc_X5_lot : List (Nat × Nat × Instr) := [(0, 1, .aload 0), (1, 4, .getfield 160), (4, 7, .getfield 69), (7, 8, .istore 2), (8, 9, .aload 0), (9, 12, .getfield 160), (12, 13, .iload 1), (13, 16, .putfield 69), (16, 17, .iload 2), (17, 18, .ireturn)]
def zc_X5_build : List (Nat × Nat × Instr) := [(0, 1, .aload 0), (1, 4, .getfield 160), (4, 5, .iload 1), (5, 8, .invokevirtual 33), (8, 11, .multianewarray 1 13), (11, 12, .iconst (-1)), (12, 13, .ireturn), (13, 14, .aload 0), (14, 17, .getfield 160), (17, 18, .iload 1), (18, 21, .invokevirtual 37), (21, 24, .multianewarray 1 27), (24, 26, .iconst (-2)), (26, 27, .ireturn), (27, 28, .aload 0), (28, 31, .getfield 160), (31, 32, .dup), (32, 35, .getfield 67), (35, 36, .iconst 1), (36, 37, .iload 1), (37, 38, .ishl), (38, 39, .ior), (39, 42, .putfield 67), (42, 43, .aload 0), (43, 46, .getfield 160), (46, 49, .invokevirtual 40), (49, 50, .ireturn)]
def zc_X5_raze : List (Nat × Nat × Instr) := [(0, 1, .aload 0), (1, 4, .getfield 160), (4, 5, .iload 1), (5, 8, .invokevirtual 33), (8, 11, .multianewarray 1 13), (11, 12, .iconst (-1)), (12, 13, .ireturn), (13, 14, .aload 0), (14, 17, .getfield 160), (17, 18, .iload 1), (18, 21, .invokevirtual 34), (21, 24, .multianewarray 1 27), (24, 26, .iconst (-2)), (26, 27, .ireturn), (27, 28, .aload 0), (28, 31, .getfield 160), (31, 32, .dup), (32, 35, .getfield 67), (35, 36, .iconst 1), (36, 37, .iload 1), (37, 38, .ishl), (38, 39, .iconst (-1)), (39, 40, .ixor), (40, 41, .iand), (41, 44, .putfield 67), (44, 45, .aload 0), (45, 48, .getfield 160), (48, 51, .invokevirtual 40), (51, 52, .ireturn)]
def zc_X5_street : List (Nat × Nat × Instr) := [(0, 1, .aload 0), (1, 4, .getfield 160), (4, 5, .iload 1), (5, 8, .invokevirtual 35), (8, 11, .multianewarray 0 22), (11, 12, .aload 0), (12, 15, .getfield 164), (15, 16, .iload 2), (16, 19, .invokevirtual 4), (19, 22, .multianewarray 1 24), (22, 23, .iconst (-1)), (23, 24, .ireturn), (24, 25, .aload 0), (25, 28, .getfield 164), (28, 29, .iload 1), (29, 32, .putfield 0), (32, 33, .aload 0), (33, 36, .getfield 160), (36, 37, .aload 0), (37, 40, .getfield 164), (40, 43, .invokevirtual 43), (43, 46, .multianewarray 1 48), (46, 47, .iconst (-1)), (47, 48, .ireturn), (48, 49, .aload 0), (49, 52, .getfield 164), (52, 53, .aload 0), (53, 56, .getfield 160), (56, 59, .getfield 66), (59, 62, .invokevirtual 8), (62, 64, .iconst (-9)), (64, 67, .invokeinterface 1 81), (67, 68, .aload 0), (68, 71, .getfield 160), (71, 72, .aload 0), (72, 75, .getfield 164), (75, 78, .invokevirtual 44), (78, 81, .multianewarray 0 84), (81, 83, .iconst (-2)), (83, 84, .ireturn), (84, 85, .aload 0), (85, 88, .getfield 160), (88, 89, .aload 0), (89, 92, .getfield 164), (92, 95, .invokevirtual 45), (95, 98, .multianewarray 0 108), (98, 99, .aload 0), (99, 102, .getfield 160), (102, 105, .getfield 68), (105, 108, .ret 110), (108, 110, .iconst (-3)), (110, 111, .ireturn)]
def zc_X5_close : List (Nat × Nat × Instr) := [(0, 1, .aload 0), (1, 4, .getfield 160), (4, 7, .getfield 68), (7, 8, .iconst 1), (8, 11, .invokeinterface 3 14), (11, 13, .iconst (-2)), (13, 14, .ireturn), (14, 15, .aload 0), (15, 18, .getfield 160), (18, 19, .dup), (19, 22, .getfield 68), (22, 23, .iconst 1), (23, 24, .isub), (24, 27, .putfield 68), (27, 28, .aload 0), (28, 31, .getfield 160), (31, 34, .getfield 68), (34, 35, .ireturn)]
def zc_X5_mark : List (Nat × Nat × Instr) := [(0, 1, .aload 0), (1, 4, .getfield 160), (4, 5, .iload 2), (5, 8, .invokevirtual 41), (8, 9, .astore 3), (9, 10, .aload 3), (10, 13, .dstore 16), (13, 15, .iconst (-1000000)), (15, 16, .ireturn), (16, 17, .iload 1), (17, 56, .tableswitch 93 0 5 #[56, 62, 68, 74, 81, 87]), (56, 57, .aload 0), (57, 58, .aload 3), (58, 61, .invokevirtual 94), (61, 62, .ireturn), (62, 63, .aload 0), (63, 64, .aload 3), (64, 67, .invokevirtual 95), (67, 68, .ireturn), (68, 69, .aload 0), (69, 70, .aload 3), (70, 73, .invokevirtual 96), (73, 74, .ireturn), (74, 75, .aload 0), (75, 76, .aload 3), (76, 77, .iload 2), (77, 80, .invokevirtual 97), (80, 81, .ireturn), (81, 82, .aload 0), (82, 83, .aload 3), (83, 86, .invokevirtual 98), (86, 87, .ireturn), (87, 88, .aload 0), (88, 89, .aload 3), (89, 92, .invokevirtual 99), (92, 93, .ireturn), (93, 95, .iconst (-1000000)), (95, 96, .ireturn)]
def zc_X5_keep : List (Nat × Nat × Instr) := [(0, 1, .iload 1), (1, 4, .multianewarray 2 9), (4, 5, .iload 1), (5, 6, .iconst 2), (6, 9, .invokeinterface 2 11), (9, 10, .iconst (-1)), (10, 11, .ireturn), (11, 12, .aload 0), (12, 15, .getfield 165), (15, 16, .iload 1), (16, 17, .aaload), (17, 18, .aload 0), (18, 21, .getfield 160), (21, 24, .invokevirtual 32), (24, 25, .aload 0), (25, 28, .getfield 166), (28, 29, .iload 1), (29, 30, .iconst 1), (30, 31, .bastore), (31, 32, .aload 0), (32, 35, .getfield 160), (35, 38, .getfield 68), (38, 39, .ireturn)]
def zc_X5_back : List (Nat × Nat × Instr) := [(0, 1, .iload 1), (1, 4, .multianewarray 2 9), (4, 5, .iload 1), (5, 6, .iconst 2), (6, 9, .invokeinterface 2 11), (9, 10, .iconst (-1)), (10, 11, .ireturn), (11, 12, .aload 0), (12, 15, .getfield 166), (15, 16, .iload 1), (16, 17, .baload), (17, 20, .multianewarray 1 23), (20, 22, .iconst (-2)), (22, 23, .ireturn), (23, 24, .aload 0), (24, 27, .getfield 160), (27, 28, .aload 0), (28, 31, .getfield 165), (31, 32, .iload 1), (32, 33, .aaload), (33, 36, .invokevirtual 32), (36, 37, .aload 0), (37, 40, .getfield 160), (40, 43, .getfield 68), (43, 44, .ireturn)]
def zc_X5_count : List (Nat × Nat × Instr) := [(0, 1, .iload 1), (1, 40, .tableswitch 88 0 5 #[40, 48, 56, 64, 72, 80]), (40, 41, .aload 0), (41, 44, .getfield 160), (44, 47, .getfield 64), (47, 48, .ireturn), (48, 49, .aload 0), (49, 52, .getfield 160), (52, 55, .getfield 65), (55, 56, .ireturn), (56, 57, .aload 0), (57, 60, .getfield 160), (60, 63, .getfield 66), (63, 64, .ireturn), (64, 65, .aload 0), (65, 68, .getfield 160), (68, 71, .invokevirtual 40), (71, 72, .ireturn), (72, 73, .aload 0), (73, 76, .getfield 160), (76, 79, .getfield 68), (79, 80, .ireturn), (80, 81, .aload 0), (81, 84, .getfield 161), (84, 87, .getfield 32), (87, 88, .ireturn), (88, 89, .iconst (-1)), (89, 90, .ireturn)]
def zc_X5_trace : List (Nat × Nat × Instr) := [(0, 1, .aload 0), (1, 4, .getfield 167), (4, 5, .lreturn)]
def zc_X5_markAsChain : List (Nat × Nat × Instr) := [(0, 1, .aload 0), (1, 2, .dup), (2, 5, .getfield 167), (5, 6, .goto_w 1), (6, 7, .ladd), (7, 10, .putfield 167), (10, 11, .aload 1), (11, 14, .getfield 2), (14, 15, .ireturn)]
def zc_X5_markAsWall : List (Nat × Nat × Instr) := [(0, 1, .aload 0), (1, 2, .dup), (2, 5, .getfield 167), (5, 8, .goto_w 10), (8, 9, .ladd), (9, 12, .putfield 167), (12, 13, .aload 0), (13, 14, .aload 1), (14, 17, .invokevirtual 94), (17, 18, .iconst 2), (18, 19, .imul), (19, 20, .ireturn)]
def zc_X5_markAsWay : List (Nat × Nat × Instr) := [(0, 1, .aload 0), (1, 2, .dup), (2, 5, .getfield 167), (5, 8, .goto_w 100), (8, 9, .ladd), (9, 12, .putfield 167), (12, 13, .aload 0), (13, 14, .aload 1), (14, 17, .invokevirtual 94), (17, 18, .aload 1), (18, 21, .invokevirtual 7), (21, 22, .isub), (22, 23, .ireturn)]
def zc_X5_markAsDoor : List (Nat × Nat × Instr) := [(0, 1, .aload 0), (1, 2, .dup), (2, 5, .getfield 167), (5, 8, .goto_w 1000), (8, 9, .ladd), (9, 12, .putfield 167), (12, 13, .aload 0), (13, 14, .aload 1), (14, 17, .invokevirtual 95), (17, 18, .iload 2), (18, 19, .iadd), (19, 20, .ireturn)]
def zc_X5_markAsGlance : List (Nat × Nat × Instr) := [(0, 1, .aload 0), (1, 2, .dup), (2, 5, .getfield 167), (5, 8, .goto_w 10000), (8, 9, .ladd), (9, 12, .putfield 167), (12, 13, .aload 0), (13, 16, .getfield 162), (16, 17, .aload 0), (17, 20, .getfield 160), (20, 21, .aload 1), (21, 24, .getfield 0), (24, 25, .aload 1), (25, 28, .getfield 1), (28, 31, .invokevirtual 47), (31, 32, .istore 2), (32, 33, .aload 0), (33, 34, .aload 1), (34, 37, .invokevirtual 96), (37, 38, .iload 2), (38, 40, .iconst (-9)), (40, 43, .invokeinterface 1 47), (43, 44, .iconst 0), (44, 47, .ret 48), (47, 48, .iload 2), (48, 49, .iadd), (49, 50, .ireturn)]
def zc_X5_markAsRope : List (Nat × Nat × Instr) := [(0, 1, .aload 0), (1, 2, .dup), (2, 5, .getfield 167), (5, 8, .goto_w 100000), (8, 9, .ladd), (9, 12, .putfield 167), (12, 13, .aload 0), (13, 14, .aload 1), (14, 17, .invokevirtual 94), (17, 18, .aload 0), (18, 21, .getfield 160), (21, 24, .invokevirtual 40), (24, 25, .iadd), (25, 26, .ireturn)]
def zc_X5_ofRow : List (Nat × Nat × Instr) := [(0, 1, .iload 0), (1, 3, .iconst (-9)), (3, 6, .invokeinterface 0 10), (6, 7, .iload 1), (7, 10, .multianewarray 3 12), (10, 11, .iload 0), (11, 12, .ireturn), (12, 13, .iload 1), (13, 14, .iload 3), (14, 17, .invokeinterface 3 29), (17, 18, .iload 1), (18, 19, .aload 2), (19, 20, .arraylength), (20, 23, .invokeinterface 3 29), (23, 24, .aload 2), (24, 25, .iload 1), (25, 26, .iaload), (26, 29, .ret 31), (29, 31, .iconst (-5)), (31, 32, .ireturn)]
def zc_X6_init : List (Nat × Nat × Instr) := [(0, 1, .aload 0), (1, 4, .monitorenter), (4, 5, .aload 0), (5, 8, .iconst 200), (8, 10, .newarray .byte), (10, 13, .putfield 193), (13, 14, .aload 0), (14, 15, .iconst 2), (15, 17, .newarray .int), (17, 20, .putfield 195), (20, 21, .aload 0), (21, 22, .iconst 2), (22, 24, .newarray .int), (24, 27, .putfield 196), (27, 28, .aload 0), (28, 29, .iconst 2), (29, 31, .newarray .int), (31, 34, .putfield 197), (34, 35, .aload 0), (35, 38, .iconst 236), (38, 40, .newarray .int), (40, 43, .putfield 198), (43, 44, .aload 0), (44, 45, .iconst 2), (45, 47, .newarray .boolean), (47, 50, .putfield 199), (50, 51, .aload 0), (51, 54, .iconst 325), (54, 56, .newarray .int), (56, 59, .putfield 206), (59, 60, .aload 0), (60, 63, .iconst 325), (63, 65, .newarray .long), (65, 68, .putfield 207), (68, 69, .aload 0), (69, 72, .iconst 325), (72, 74, .newarray .long), (74, 77, .putfield 208), (77, 78, .aload 0), (78, 81, .iconst 4225), (81, 83, .newarray .int), (83, 86, .putfield 209), (86, 87, .aload 0), (87, 89, .iconst 60), (89, 91, .newarray .int), (91, 94, .putfield 210), (94, 95, .aload 0), (95, 97, .iconst 60), (97, 99, .newarray .int), (99, 102, .putfield 211), (102, 103, .aload 0), (103, 105, .iconst 60), (105, 107, .newarray .int), (107, 110, .putfield 212), (110, 111, .aload 0), (111, 112, .iconst 3), (112, 114, .newarray .int), (114, 117, .putfield 214), (117, 118, .aload 0), (118, 120, .iconst 12), (120, 122, .newarray .int), (122, 125, .putfield 215), (125, 126, .aload 0), (126, 129, .getfield 195), (129, 130, .iconst 0), (130, 131, .iconst 5), (131, 132, .iastore), (132, 133, .aload 0), (133, 136, .getfield 196), (136, 137, .iconst 0), (137, 138, .iconst 5), (138, 139, .iastore), (139, 140, .aload 0), (140, 143, .getfield 197), (143, 144, .iconst 0), (144, 145, .iconst 1), (145, 146, .iastore), (146, 147, .aload 0), (147, 150, .getfield 198), (150, 151, .iconst 2), (151, 152, .iconst 1), (152, 153, .iastore), (153, 154, .return_)]
def zc_X6_in : List (Nat × Nat × Instr) := [(0, 1, .iload 0), (1, 2, .iload 1), (2, 5, .invokeinterface 2 14), (5, 6, .iload 0), (6, 7, .iload 2), (7, 10, .invokeinterface 4 14), (10, 11, .iconst 1), (11, 14, .ret 15), (14, 15, .iconst 0), (15, 16, .ireturn)]
def zc_X6_type : List (Nat × Nat × Instr) := [(0, 1, .iload 3), (1, 2, .iconst 1), (2, 4, .iconst 8), (4, 7, .invokestatic 102), (7, 10, .multianewarray 1 12), (10, 11, .iconst (-1)), (11, 12, .ireturn), (12, 13, .aload 0), (13, 16, .getfield 194), (16, 17, .iload 3), (17, 18, .iadd), (18, 21, .iconst 200), (21, 24, .invokeinterface 5 27), (24, 26, .iconst (-3)), (26, 27, .ireturn), (27, 28, .iload 3), (28, 29, .iconst 1), (29, 30, .isub), (30, 32, .istore 4), (32, 34, .iload 4), (34, 37, .multianewarray 2 75), (37, 38, .aload 0), (38, 41, .getfield 193), (41, 42, .aload 0), (42, 45, .getfield 194), (45, 46, .lload 1), (46, 48, .iconst 8), (48, 50, .iload 4), (50, 51, .imul), (51, 52, .lshr), (52, 55, .goto_w 255), (55, 56, .land), (56, 57, .l2i), (57, 58, .i2b), (58, 59, .bastore), (59, 60, .aload 0), (60, 61, .dup), (61, 64, .getfield 194), (64, 65, .iconst 1), (65, 66, .iadd), (66, 69, .putfield 194), (69, 72, .iinc 4 (-1)), (72, 75, .ret 32), (75, 76, .aload 0), (76, 79, .getfield 194), (79, 80, .ireturn)]
def zc_X6_clear : List (Nat × Nat × Instr) := [(0, 1, .aload 0), (1, 4, .getfield 194), (4, 5, .istore 1), (5, 6, .aload 0), (6, 7, .iconst 0), (7, 10, .putfield 194), (10, 11, .iload 1), (11, 12, .ireturn)]
def zc_X6_here : List (Nat × Nat × Instr) := [(0, 1, .aload 0), (1, 4, .getfield 200), (4, 5, .aload 0), (5, 8, .getfield 194), (8, 11, .invokeinterface 3 27), (11, 12, .aload 0), (12, 15, .getfield 193), (15, 16, .aload 0), (16, 19, .getfield 200), (19, 20, .baload), (20, 23, .iconst 255), (23, 24, .iand), (24, 27, .ret 28), (27, 28, .iconst (-1)), (28, 29, .ireturn)]
def zc_X6_next : List (Nat × Nat × Instr) := [(0, 1, .aload 0), (1, 4, .invokevirtual 105), (4, 6, .iconst 32), (6, 9, .invokeinterface 1 22), (9, 10, .aload 0), (10, 11, .dup), (11, 14, .getfield 200), (14, 15, .iconst 1), (15, 16, .iadd), (16, 19, .putfield 200), (19, 22, .ret 0), (22, 23, .aload 0), (23, 24, .aload 0), (24, 27, .getfield 200), (27, 30, .putfield 201), (30, 31, .aload 0), (31, 32, .iconst 0), (32, 35, .putfield 203), (35, 36, .aload 0), (36, 39, .invokevirtual 105), (39, 40, .istore 1), (40, 41, .iload 1), (41, 44, .multianewarray 3 53), (44, 45, .aload 0), (45, 47, .iconst 6), (47, 50, .putfield 202), (50, 53, .ret 320), (53, 54, .iload 1), (54, 56, .iconst 97), (56, 58, .iconst 122), (58, 61, .invokestatic 102), (61, 64, .multianewarray 0 180), (64, 65, .iconst 0), (65, 66, .istore 2), (66, 67, .aload 0), (67, 70, .invokevirtual 105), (70, 72, .iconst 97), (72, 74, .iconst 122), (74, 77, .invokestatic 102), (77, 80, .multianewarray 0 123), (80, 81, .aload 0), (81, 84, .getfield 200), (84, 85, .aload 0), (85, 88, .getfield 201), (88, 89, .isub), (89, 90, .iconst 5), (90, 93, .invokeinterface 3 108), (93, 95, .iconst 27), (95, 96, .iload 2), (96, 97, .imul), (97, 98, .aload 0), (98, 101, .invokevirtual 105), (101, 102, .iadd), (102, 104, .iconst 96), (104, 105, .isub), (105, 108, .ret 109), (108, 109, .iconst 0), (109, 110, .istore 2), (110, 111, .aload 0), (111, 112, .dup), (112, 115, .getfield 200), (115, 116, .iconst 1), (116, 117, .iadd), (117, 120, .putfield 200), (120, 123, .ret 66), (123, 124, .aload 0), (124, 127, .getfield 200), (127, 128, .aload 0), (128, 131, .getfield 201), (131, 132, .isub), (132, 133, .iconst 5), (133, 136, .invokeinterface 5 140), (136, 137, .iconst 0), (137, 140, .ret 141), (140, 141, .iload 2), (141, 142, .istore 2), (142, 143, .aload 0), (143, 144, .iload 2), (144, 146, .iconst 493294), (146, 149, .invokeinterface 1 153), (149, 150, .iconst 0), (150, 153, .ret 174), (153, 154, .iload 2), (154, 156, .iconst 4562600), (156, 159, .invokeinterface 1 163), (159, 160, .iconst 1), (160, 163, .ret 174), (163, 164, .iload 2), (164, 166, .iconst 1752773), (166, 169, .invokeinterface 1 173), (169, 170, .iconst 2), (170, 173, .ret 174), (173, 174, .iconst 3), (174, 177, .putfield 202), (177, 180, .ret 320), (180, 181, .iload 1), (181, 183, .iconst 48), (183, 185, .iconst 57), (185, 188, .invokestatic 102), (188, 191, .multianewarray 0 294), (191, 192, .aload 0), (192, 195, .invokevirtual 105), (195, 197, .iconst 48), (197, 199, .iconst 57), (199, 202, .invokestatic 102), (202, 205, .multianewarray 0 253), (205, 206, .aload 0), (206, 207, .aload 0), (207, 210, .getfield 203), (210, 212, .iconst 99), (212, 215, .invokeinterface 5 222), (215, 216, .aload 0), (216, 219, .getfield 203), (219, 222, .ret 237), (222, 224, .iconst 10), (224, 225, .aload 0), (225, 228, .getfield 203), (228, 229, .imul), (229, 230, .aload 0), (230, 233, .invokevirtual 105), (233, 234, .iadd), (234, 236, .iconst 48), (236, 237, .isub), (237, 240, .putfield 203), (240, 241, .aload 0), (241, 242, .dup), (242, 245, .getfield 200), (245, 246, .iconst 1), (246, 247, .iadd), (247, 250, .putfield 200), (250, 253, .ret 191), (253, 254, .aload 0), (254, 255, .aload 0), (255, 258, .getfield 203), (258, 260, .iconst 99), (260, 263, .invokeinterface 4 282), (263, 264, .iload 1), (264, 266, .iconst 48), (266, 269, .invokeinterface 1 287), (269, 270, .aload 0), (270, 273, .getfield 200), (273, 274, .aload 0), (274, 277, .getfield 201), (277, 278, .isub), (278, 279, .iconst 1), (279, 282, .invokeinterface 5 287), (282, 284, .iconst 7), (284, 287, .ret 288), (287, 288, .iconst 4), (288, 291, .putfield 202), (291, 294, .ret 320), (294, 295, .aload 0), (295, 296, .dup), (296, 299, .getfield 200), (299, 300, .iconst 1), (300, 301, .iadd), (301, 304, .putfield 200), (304, 305, .aload 0), (305, 306, .iload 1), (306, 308, .iconst 59), (308, 311, .invokeinterface 1 315), (311, 312, .iconst 5), (312, 315, .ret 317), (315, 317, .iconst 7), (317, 320, .putfield 202), (320, 321, .return_)]
def zc_X6_due : List (Nat × Nat × Instr) := [(0, 1, .aload 0), (1, 4, .getfield 203), (4, 5, .istore 2), (5, 6, .aload 0), (6, 9, .getfield 204), (9, 11, .iconst (-9)), (11, 14, .invokeinterface 1 33), (14, 15, .iload 1), (15, 18, .multianewarray 0 25), (18, 19, .aload 0), (19, 22, .invokevirtual 106), (22, 25, .ret 33), (25, 26, .aload 0), (26, 27, .aload 0), (27, 30, .getfield 201), (30, 33, .putfield 204), (33, 34, .iload 2), (34, 35, .ireturn)]
def zc_X6_number : List (Nat × Nat × Instr) := [(0, 1, .aload 0), (1, 2, .aload 0), (2, 5, .getfield 202), (5, 6, .iconst 4), (6, 9, .invokeinterface 1 25), (9, 10, .aload 0), (10, 13, .getfield 203), (13, 14, .iload 1), (14, 15, .iload 2), (15, 18, .invokestatic 102), (18, 21, .multianewarray 0 25), (21, 22, .iconst 1), (22, 25, .ret 26), (25, 26, .iconst 0), (26, 29, .invokevirtual 107), (29, 30, .ireturn)]
def zc_X6_off : List (Nat × Nat × Instr) := [(0, 1, .iload 2), (1, 2, .aload 0), (2, 5, .getfield 195), (5, 6, .iload 1), (6, 7, .iaload), (7, 8, .irem), (8, 9, .iload 3), (9, 10, .iconst 1), (10, 13, .invokeinterface 1 17), (13, 14, .iconst 1), (14, 17, .ret 27), (17, 18, .iload 3), (18, 19, .iconst 3), (19, 22, .invokeinterface 1 26), (22, 23, .iconst (-1)), (23, 26, .ret 27), (26, 27, .iconst 0), (27, 28, .iadd), (28, 30, .istore 4), (30, 31, .iload 2), (31, 32, .aload 0), (32, 35, .getfield 195), (35, 36, .iload 1), (36, 37, .iaload), (37, 38, .idiv), (38, 39, .iload 3), (39, 40, .iconst 2), (40, 43, .invokeinterface 1 47), (43, 44, .iconst 1), (44, 47, .ret 56), (47, 48, .iload 3), (48, 51, .multianewarray 1 55), (51, 52, .iconst (-1)), (52, 55, .ret 56), (55, 56, .iconst 0), (56, 57, .iadd), (57, 59, .istore 5), (59, 61, .iload 4), (61, 62, .iconst 0), (62, 63, .aload 0), (63, 66, .getfield 195), (66, 67, .iload 1), (67, 68, .iaload), (68, 69, .iconst 1), (69, 70, .isub), (70, 73, .invokestatic 102), (73, 76, .multianewarray 0 108), (76, 78, .iload 5), (78, 79, .iconst 0), (79, 80, .aload 0), (80, 83, .getfield 196), (83, 84, .iload 1), (84, 85, .iaload), (85, 86, .iconst 1), (86, 87, .isub), (87, 90, .invokestatic 102), (90, 93, .multianewarray 0 108), (93, 94, .aload 0), (94, 97, .getfield 195), (97, 98, .iload 1), (98, 99, .iaload), (99, 101, .iload 5), (101, 102, .imul), (102, 104, .iload 4), (104, 105, .iadd), (105, 108, .ret 110), (108, 110, .iconst (-9)), (110, 111, .ireturn)]
def zc_X6_stepOf : List (Nat × Nat × Instr) := [(0, 1, .iload 0), (1, 3, .iconst 110), (3, 6, .invokeinterface 1 10), (6, 7, .iconst 0), (7, 10, .ret 42), (10, 11, .iload 0), (11, 13, .iconst 101), (13, 16, .invokeinterface 1 20), (16, 17, .iconst 1), (17, 20, .ret 42), (20, 21, .iload 0), (21, 23, .iconst 115), (23, 26, .invokeinterface 1 30), (26, 27, .iconst 2), (27, 30, .ret 42), (30, 31, .iload 0), (31, 33, .iconst 119), (33, 36, .invokeinterface 1 40), (36, 37, .iconst 3), (37, 40, .ret 42), (40, 42, .iconst (-9)), (42, 43, .ireturn)]
def zc_X6_goesOn : List (Nat × Nat × Instr) := [(0, 1, .aload 0), (1, 4, .getfield 205), (4, 5, .istore 1), (5, 6, .aload 0), (6, 9, .getfield 198), (9, 11, .iconst 60), (11, 12, .iaload), (12, 13, .istore 2), (13, 14, .aload 0), (14, 17, .getfield 202), (17, 18, .iconst 3), (18, 21, .invokeinterface 4 35), (21, 22, .aload 0), (22, 25, .getfield 200), (25, 26, .aload 0), (26, 29, .getfield 201), (29, 30, .isub), (30, 32, .iconst 12), (32, 35, .invokeinterface 5 37), (35, 36, .iconst 0), (36, 37, .ireturn), (37, 38, .aload 0), (38, 41, .getfield 201), (41, 42, .istore 3), (42, 43, .iload 3), (43, 44, .aload 0), (44, 47, .getfield 200), (47, 50, .invokeinterface 3 132), (50, 51, .aload 0), (51, 54, .getfield 193), (54, 55, .iload 3), (55, 56, .baload), (56, 59, .invokestatic 110), (59, 61, .istore 4), (61, 63, .iload 4), (63, 65, .iconst (-9)), (65, 68, .invokeinterface 1 73), (68, 70, .iconst (-9)), (70, 73, .ret 81), (73, 74, .aload 0), (74, 75, .iconst 1), (75, 76, .iload 1), (76, 78, .iload 4), (78, 81, .invokevirtual 109), (81, 82, .istore 1), (82, 83, .iload 1), (83, 85, .iconst (-9)), (85, 88, .invokeinterface 0 103), (88, 89, .aload 0), (89, 92, .getfield 198), (92, 94, .iconst 59), (94, 95, .iaload), (95, 96, .iload 1), (96, 97, .ishr), (97, 98, .iconst 1), (98, 99, .iand), (99, 100, .iconst 1), (100, 103, .invokeinterface 1 105), (103, 104, .iconst 0), (104, 105, .ireturn), (105, 106, .aload 0), (106, 109, .getfield 198), (109, 111, .iconst 70), (111, 113, .iconst 12), (113, 114, .iload 2), (114, 115, .imul), (115, 116, .iadd), (116, 117, .iload 3), (117, 118, .iadd), (118, 119, .aload 0), (119, 122, .getfield 201), (122, 123, .isub), (123, 125, .iload 4), (125, 126, .iastore), (126, 129, .iinc 3 1), (129, 132, .ret 42), (132, 133, .aload 0), (133, 136, .getfield 198), (136, 138, .iconst 66), (138, 139, .iload 2), (139, 140, .iadd), (140, 141, .aload 0), (141, 144, .getfield 200), (144, 145, .aload 0), (145, 148, .getfield 201), (148, 149, .isub), (149, 150, .iastore), (150, 151, .iconst 1), (151, 152, .ireturn)]
def zc_X6_readChain : List (Nat × Nat × Instr) := [(0, 1, .aload 0), (1, 4, .getfield 198), (4, 6, .iconst 60), (6, 7, .iaload), (7, 8, .istore 1), (8, 9, .aload 0), (9, 10, .iconst 0), (10, 11, .aload 0), (11, 14, .getfield 195), (14, 15, .iconst 1), (15, 16, .iaload), (16, 17, .iconst 1), (17, 18, .isub), (18, 21, .invokevirtual 108), (21, 22, .istore 2), (22, 23, .aload 0), (23, 26, .getfield 202), (26, 27, .iconst 4), (27, 30, .invokeinterface 1 79), (30, 31, .aload 0), (31, 34, .getfield 203), (34, 35, .iconst 0), (35, 36, .aload 0), (36, 39, .getfield 196), (39, 40, .iconst 1), (40, 41, .iaload), (41, 42, .iconst 1), (42, 43, .isub), (43, 46, .invokestatic 102), (46, 49, .multianewarray 0 79), (49, 50, .aload 0), (50, 53, .getfield 198), (53, 55, .iconst 59), (55, 56, .iaload), (56, 57, .aload 0), (57, 60, .getfield 195), (60, 61, .iconst 1), (61, 62, .iaload), (62, 63, .aload 0), (63, 66, .getfield 203), (66, 67, .imul), (67, 68, .iload 2), (68, 69, .iadd), (69, 70, .ishr), (70, 71, .iconst 1), (71, 72, .iand), (72, 75, .multianewarray 1 79), (75, 76, .iconst 1), (76, 79, .ret 80), (79, 80, .iconst 0), (80, 81, .istore 3), (81, 82, .aload 0), (82, 83, .iload 3), (83, 86, .invokevirtual 107), (86, 88, .istore 4), (88, 89, .aload 0), (89, 92, .getfield 204), (92, 94, .iconst (-9)), (94, 97, .invokeinterface 1 145), (97, 98, .aload 0), (98, 99, .aload 0), (99, 102, .getfield 195), (102, 103, .iconst 1), (103, 104, .iaload), (104, 106, .iload 4), (106, 107, .imul), (107, 108, .iload 2), (108, 109, .iadd), (109, 112, .putfield 205), (112, 113, .aload 0), (113, 116, .getfield 198), (116, 118, .iconst 62), (118, 119, .iload 1), (119, 120, .iadd), (120, 121, .aload 0), (121, 124, .getfield 205), (124, 125, .iastore), (125, 126, .aload 0), (126, 127, .aload 0), (127, 130, .invokevirtual 111), (130, 133, .invokevirtual 107), (133, 134, .pop), (134, 135, .aload 0), (135, 138, .getfield 198), (138, 140, .iconst 60), (140, 141, .dup2), (141, 142, .iaload), (142, 143, .iconst 1), (143, 144, .iadd), (144, 145, .iastore), (145, 146, .return_)]
def zc_X6_readItem : List (Nat × Nat × Instr) := [(0, 1, .aload 0), (1, 4, .getfield 202), (4, 5, .istore 2), (5, 6, .aload 0), (6, 7, .iload 2), (7, 10, .multianewarray 1 14), (10, 11, .iload 1), (11, 14, .multianewarray 0 45), (14, 15, .iload 2), (15, 16, .iconst 1), (16, 19, .invokeinterface 1 29), (19, 20, .aload 0), (20, 23, .getfield 198), (23, 25, .iconst 60), (25, 26, .iaload), (26, 29, .multianewarray 0 45), (29, 30, .iload 2), (30, 31, .iconst 2), (31, 34, .invokeinterface 1 49), (34, 35, .aload 0), (35, 38, .getfield 198), (38, 40, .iconst 60), (40, 41, .iaload), (41, 42, .iconst 4), (42, 45, .invokeinterface 3 49), (45, 46, .iconst 1), (46, 49, .ret 50), (49, 50, .iconst 0), (50, 53, .invokevirtual 107), (53, 54, .pop), (54, 55, .aload 0), (55, 58, .getfield 204), (58, 60, .iconst (-9)), (60, 63, .invokeinterface 0 64), (63, 64, .return_), (64, 65, .iload 2), (65, 68, .multianewarray 1 107), (68, 69, .aload 0), (69, 72, .getfield 195), (72, 73, .iconst 1), (73, 74, .aload 0), (74, 75, .iconst 1), (75, 76, .iconst 5), (76, 79, .invokevirtual 108), (79, 80, .iastore), (80, 81, .aload 0), (81, 84, .getfield 196), (84, 85, .iconst 1), (85, 86, .aload 0), (86, 87, .iconst 1), (87, 88, .iconst 5), (88, 91, .invokevirtual 108), (91, 92, .iastore), (92, 93, .aload 0), (93, 96, .getfield 197), (96, 97, .iconst 1), (97, 98, .aload 0), (98, 99, .iconst 1), (99, 100, .iconst 3), (100, 103, .invokevirtual 108), (103, 104, .iastore), (104, 107, .ret 180), (107, 108, .iload 2), (108, 109, .iconst 1), (109, 112, .invokeinterface 1 176), (112, 113, .aload 0), (113, 114, .iconst 0), (114, 115, .aload 0), (115, 118, .getfield 195), (118, 119, .iconst 1), (119, 120, .iaload), (120, 121, .iconst 1), (121, 122, .isub), (122, 125, .invokevirtual 108), (125, 126, .istore 3), (126, 127, .aload 0), (127, 128, .iconst 0), (128, 129, .aload 0), (129, 132, .getfield 196), (132, 133, .iconst 1), (133, 134, .iaload), (134, 135, .iconst 1), (135, 136, .isub), (136, 139, .invokevirtual 108), (139, 141, .istore 4), (141, 142, .aload 0), (142, 145, .getfield 204), (145, 147, .iconst (-9)), (147, 150, .invokeinterface 1 173), (150, 151, .aload 0), (151, 154, .getfield 198), (154, 156, .iconst 59), (156, 157, .dup2), (157, 158, .iaload), (158, 159, .iconst 1), (159, 160, .aload 0), (160, 163, .getfield 195), (163, 164, .iconst 1), (164, 165, .iaload), (165, 167, .iload 4), (167, 168, .imul), (168, 169, .iload 3), (169, 170, .iadd), (170, 171, .ishl), (171, 172, .ior), (172, 173, .iastore), (173, 176, .ret 180), (176, 177, .aload 0), (177, 180, .invokevirtual 112), (180, 181, .aload 0), (181, 182, .aload 0), (182, 185, .getfield 202), (185, 186, .iconst 5), (186, 189, .invokeinterface 1 193), (189, 190, .iconst 1), (190, 193, .ret 194), (193, 194, .iconst 0), (194, 197, .invokevirtual 107), (197, 198, .pop), (198, 199, .return_)]
def zc_X6_yard : List (Nat × Nat × Instr) := [(0, 1, .aload 0), (1, 2, .iconst 0), (2, 5, .putfield 200), (5, 6, .aload 0), (6, 8, .iconst (-9)), (8, 11, .putfield 204), (11, 12, .aload 0), (12, 15, .getfield 195), (15, 16, .iconst 1), (16, 17, .iconst 5), (17, 18, .iastore), (18, 19, .aload 0), (19, 22, .getfield 196), (22, 23, .iconst 1), (23, 24, .iconst 5), (24, 25, .iastore), (25, 26, .aload 0), (26, 29, .getfield 197), (29, 30, .iconst 1), (30, 31, .iconst 1), (31, 32, .iastore), (32, 33, .aload 0), (33, 36, .getfield 198), (36, 38, .iconst 59), (38, 39, .iconst 0), (39, 40, .iastore), (40, 41, .aload 0), (41, 44, .getfield 198), (44, 46, .iconst 60), (46, 47, .iconst 0), (47, 48, .iastore), (48, 49, .iconst 0), (49, 50, .istore 1), (50, 51, .aload 0), (51, 54, .invokevirtual 106), (54, 55, .aload 0), (55, 58, .getfield 204), (58, 60, .iconst (-9)), (60, 63, .invokeinterface 1 83), (63, 64, .aload 0), (64, 67, .getfield 202), (67, 69, .iconst 6), (69, 72, .invokeinterface 0 83), (72, 73, .aload 0), (73, 74, .iload 1), (74, 77, .invokevirtual 113), (77, 80, .iinc 1 1), (80, 83, .ret 54), (83, 84, .aload 0), (84, 87, .getfield 204), (87, 89, .iconst (-9)), (89, 92, .invokeinterface 0 100), (92, 94, .iconst (-10)), (94, 95, .aload 0), (95, 98, .getfield 204), (98, 99, .isub), (99, 100, .ireturn), (100, 101, .aload 0), (101, 104, .getfield 195), (104, 105, .iconst 0), (105, 106, .aload 0), (106, 109, .getfield 195), (109, 110, .iconst 1), (110, 111, .iaload), (111, 112, .iastore), (112, 113, .aload 0), (113, 116, .getfield 196), (116, 117, .iconst 0), (117, 118, .aload 0), (118, 121, .getfield 196), (121, 122, .iconst 1), (122, 123, .iaload), (123, 124, .iastore), (124, 125, .aload 0), (125, 128, .getfield 197), (128, 129, .iconst 0), (129, 130, .aload 0), (130, 133, .getfield 197), (133, 134, .iconst 1), (134, 135, .iaload), (135, 136, .iastore), (136, 137, .aload 0), (137, 140, .getfield 198), (140, 142, .iconst 61), (142, 143, .aload 0), (143, 146, .getfield 198), (146, 147, .iconst 2), (147, 148, .iaload), (148, 149, .iastore), (149, 150, .aload 0), (150, 152, .iconst 59), (152, 153, .iconst 0), (153, 156, .invokevirtual 115), (156, 157, .aload 0), (157, 160, .getfield 199), (160, 161, .iconst 0), (161, 162, .iconst 0), (162, 163, .bastore), (163, 164, .aload 0), (164, 167, .getfield 199), (167, 168, .iconst 1), (168, 169, .iconst 0), (169, 170, .bastore), (170, 171, .aload 0), (171, 172, .iconst 0), (172, 175, .putfield 194), (175, 176, .iload 1), (176, 177, .ireturn)]
def zc_X6_copy : List (Nat × Nat × Instr) := [(0, 1, .iconst 0), (1, 2, .istore 3), (2, 3, .iload 3), (3, 5, .iconst 59), (5, 8, .invokeinterface 3 30), (8, 9, .aload 0), (9, 12, .getfield 198), (12, 13, .iload 2), (13, 14, .iload 3), (14, 15, .iadd), (15, 16, .aload 0), (16, 19, .getfield 198), (19, 20, .iload 1), (20, 21, .iload 3), (21, 22, .iadd), (22, 23, .iaload), (23, 24, .iastore), (24, 27, .iinc 3 1), (27, 30, .ret 2), (30, 31, .return_)]
def zc_X6_cells : List (Nat × Nat × Instr) := [(0, 1, .aload 0), (1, 4, .getfield 195), (4, 5, .iconst 0), (5, 6, .iaload), (6, 7, .aload 0), (7, 10, .getfield 196), (10, 11, .iconst 0), (11, 12, .iaload), (12, 13, .imul), (13, 14, .ireturn)]
def zc_X6_isCell : List (Nat × Nat × Instr) := [(0, 1, .iload 1), (1, 2, .iconst 0), (2, 3, .aload 0), (3, 6, .invokevirtual 116), (6, 7, .iconst 1), (7, 8, .isub), (8, 11, .invokestatic 102), (11, 12, .ireturn)]
def zc_X6_isHouse : List (Nat × Nat × Instr) := [(0, 1, .aload 0), (1, 4, .getfield 198), (4, 5, .iconst 0), (5, 6, .iaload), (6, 7, .iload 1), (7, 8, .ishr), (8, 9, .iconst 1), (9, 10, .iand), (10, 11, .iconst 1), (11, 14, .invokeinterface 1 18), (14, 15, .iconst 1), (15, 18, .ret 19), (18, 19, .iconst 0), (19, 20, .ireturn)]
def zc_X6_isFree : List (Nat × Nat × Instr) := [(0, 1, .aload 0), (1, 2, .iload 1), (2, 5, .invokevirtual 117), (5, 8, .multianewarray 0 20), (8, 9, .aload 0), (9, 10, .iload 1), (10, 13, .invokevirtual 118), (13, 16, .multianewarray 1 20), (16, 17, .iconst 1), (17, 20, .ret 21), (20, 21, .iconst 0), (21, 22, .ireturn)]
def zc_X6_isChain : List (Nat × Nat × Instr) := [(0, 1, .iload 1), (1, 2, .iconst 0), (2, 3, .aload 0), (3, 6, .getfield 198), (6, 7, .iconst 1), (7, 8, .iaload), (8, 9, .iconst 1), (9, 10, .isub), (10, 13, .invokestatic 102), (13, 14, .ireturn)]
def zc_X6_stepIn : List (Nat × Nat × Instr) := [(0, 1, .aload 0), (1, 4, .getfield 198), (4, 6, .iconst 11), (6, 8, .iconst 12), (8, 9, .iload 1), (9, 10, .imul), (10, 11, .iadd), (11, 12, .iload 2), (12, 13, .iadd), (13, 14, .iaload), (14, 15, .ireturn)]
def zc_X6_steps : List (Nat × Nat × Instr) := [(0, 1, .aload 0), (1, 4, .getfield 198), (4, 6, .iconst 7), (6, 7, .iload 1), (7, 8, .iadd), (8, 9, .iaload), (9, 10, .ireturn)]
def zc_X6_lastCell : List (Nat × Nat × Instr) := [(0, 1, .aload 0), (1, 4, .getfield 198), (4, 5, .iconst 3), (5, 6, .iload 1), (6, 7, .iadd), (7, 8, .iaload), (8, 9, .istore 2), (9, 10, .iconst 0), (10, 11, .istore 3), (11, 12, .iload 3), (12, 13, .aload 0), (13, 14, .iload 1), (14, 17, .invokevirtual 122), (17, 20, .invokeinterface 3 39), (20, 21, .aload 0), (21, 22, .iconst 0), (22, 23, .iload 2), (23, 24, .aload 0), (24, 25, .iload 1), (25, 26, .iload 3), (26, 29, .invokevirtual 121), (29, 32, .invokevirtual 109), (32, 33, .istore 2), (33, 36, .iinc 3 1), (36, 39, .ret 11), (39, 40, .iload 2), (40, 41, .ireturn)]
def zc_X6_onChains : List (Nat × Nat × Instr) := [(0, 1, .iconst 0), (1, 2, .istore 1), (2, 3, .iconst 0), (3, 4, .istore 2), (4, 5, .iload 2), (5, 6, .aload 0), (6, 9, .getfield 198), (9, 10, .iconst 1), (10, 11, .iaload), (11, 14, .invokeinterface 3 74), (14, 15, .aload 0), (15, 18, .getfield 198), (18, 19, .iconst 3), (19, 20, .iload 2), (20, 21, .iadd), (21, 22, .iaload), (22, 23, .istore 3), (23, 24, .iload 1), (24, 25, .iconst 1), (25, 26, .iload 3), (26, 27, .ishl), (27, 28, .ior), (28, 29, .istore 1), (29, 30, .iconst 0), (30, 32, .istore 4), (32, 34, .iload 4), (34, 35, .aload 0), (35, 36, .iload 2), (36, 39, .invokevirtual 122), (39, 42, .invokeinterface 3 68), (42, 43, .aload 0), (43, 44, .iconst 0), (44, 45, .iload 3), (45, 46, .aload 0), (46, 47, .iload 2), (47, 49, .iload 4), (49, 52, .invokevirtual 121), (52, 55, .invokevirtual 109), (55, 56, .istore 3), (56, 57, .iload 1), (57, 58, .iconst 1), (58, 59, .iload 3), (59, 60, .ishl), (60, 61, .ior), (61, 62, .istore 1), (62, 65, .iinc 4 1), (65, 68, .ret 32), (68, 71, .iinc 2 1), (71, 74, .ret 4), (74, 75, .iload 1), (75, 76, .ireturn)]
def zc_X6_cell : List (Nat × Nat × Instr) := [(0, 1, .aload 0), (1, 2, .iload 1), (2, 5, .invokevirtual 117), (5, 8, .multianewarray 1 12), (8, 9, .iconst (-1)), (9, 12, .ret 41), (12, 13, .aload 0), (13, 14, .iload 1), (14, 17, .invokevirtual 118), (17, 20, .multianewarray 0 24), (20, 21, .iconst 1), (21, 24, .ret 41), (24, 25, .aload 0), (25, 28, .invokevirtual 124), (28, 29, .iload 1), (29, 30, .ishr), (30, 31, .iconst 1), (31, 32, .iand), (32, 33, .iconst 1), (33, 36, .invokeinterface 1 40), (36, 37, .iconst 2), (37, 40, .ret 41), (40, 41, .iconst 0), (41, 42, .ireturn)]
def zc_X6_runAt : List (Nat × Nat × Instr) := [(0, 1, .iconst 1), (1, 2, .istore 3), (2, 3, .iload 3), (3, 4, .iload 2), (4, 7, .invokeinterface 4 30), (7, 8, .aload 0), (8, 9, .iload 1), (9, 10, .iload 2), (10, 11, .iload 3), (11, 12, .isub), (12, 15, .invokevirtual 121), (15, 16, .aload 0), (16, 17, .iload 1), (17, 18, .iload 2), (18, 21, .invokevirtual 121), (21, 24, .invokeinterface 1 30), (24, 27, .iinc 3 1), (27, 30, .ret 2), (30, 31, .iload 3), (31, 32, .ireturn)]
def zc_X6_longest : List (Nat × Nat × Instr) := [(0, 1, .iconst 0), (1, 2, .istore 2), (2, 3, .iconst 0), (3, 4, .istore 3), (4, 5, .iload 3), (5, 6, .aload 0), (6, 7, .iload 1), (7, 10, .invokevirtual 122), (10, 13, .invokeinterface 3 40), (13, 14, .aload 0), (14, 15, .iload 1), (15, 16, .iload 3), (16, 19, .invokevirtual 126), (19, 20, .iload 2), (20, 23, .invokeinterface 5 32), (23, 24, .aload 0), (24, 25, .iload 1), (25, 26, .iload 3), (26, 29, .invokevirtual 126), (29, 32, .ret 33), (32, 33, .iload 2), (33, 34, .istore 2), (34, 37, .iinc 3 1), (37, 40, .ret 4), (40, 41, .iload 2), (41, 42, .ireturn)]
def zc_X6_chain : List (Nat × Nat × Instr) := [(0, 1, .aload 0), (1, 2, .iload 1), (2, 5, .invokevirtual 120), (5, 8, .multianewarray 0 17), (8, 9, .iload 2), (9, 10, .iconst 0), (10, 11, .iconst 3), (11, 14, .invokestatic 102), (14, 17, .multianewarray 1 19), (17, 18, .iconst (-1)), (18, 19, .ireturn), (19, 20, .iload 2), (20, 23, .multianewarray 1 34), (23, 24, .aload 0), (24, 27, .getfield 198), (27, 28, .iconst 3), (28, 29, .iload 1), (29, 30, .iadd), (30, 31, .iaload), (31, 34, .ret 65), (34, 35, .iload 2), (35, 36, .iconst 1), (36, 39, .invokeinterface 1 47), (39, 40, .aload 0), (40, 41, .iload 1), (41, 44, .invokevirtual 123), (44, 47, .ret 65), (47, 48, .iload 2), (48, 49, .iconst 2), (49, 52, .invokeinterface 1 60), (52, 53, .aload 0), (53, 54, .iload 1), (54, 57, .invokevirtual 122), (57, 60, .ret 65), (60, 61, .aload 0), (61, 62, .iload 1), (62, 65, .invokevirtual 127), (65, 66, .ireturn)]
def zc_X6_step : List (Nat × Nat × Instr) := [(0, 1, .aload 0), (1, 2, .iload 1), (2, 5, .invokevirtual 120), (5, 8, .multianewarray 0 12), (8, 9, .iload 2), (9, 12, .multianewarray 3 14), (12, 13, .iconst (-1)), (13, 14, .ireturn), (14, 15, .iload 2), (15, 16, .aload 0), (16, 17, .iload 1), (17, 20, .invokevirtual 122), (20, 23, .invokeinterface 3 32), (23, 24, .aload 0), (24, 25, .iload 1), (25, 26, .iload 2), (26, 29, .invokevirtual 121), (29, 32, .ret 34), (32, 34, .iconst (-5)), (34, 35, .ireturn)]
def zc_X6_straightOf : List (Nat × Nat × Instr) := [(0, 1, .iconst 0), (1, 2, .istore 2), (2, 3, .iload 2), (3, 4, .aload 0), (4, 5, .iload 1), (5, 8, .invokevirtual 122), (8, 11, .invokeinterface 3 34), (11, 12, .aload 0), (12, 13, .iload 1), (13, 14, .iload 2), (14, 17, .invokevirtual 126), (17, 18, .aload 0), (18, 21, .getfield 197), (21, 22, .iconst 0), (22, 23, .iaload), (23, 26, .invokeinterface 5 28), (26, 27, .iload 2), (27, 28, .ireturn), (28, 31, .iinc 2 1), (31, 34, .ret 2), (34, 36, .iconst (-9)), (36, 37, .ireturn)]
def zc_X6_straight : List (Nat × Nat × Instr) := [(0, 1, .aload 0), (1, 2, .iload 1), (2, 5, .invokevirtual 120), (5, 8, .multianewarray 0 16), (8, 9, .aload 0), (9, 10, .iload 1), (10, 13, .invokevirtual 130), (13, 16, .ret 17), (16, 17, .iconst (-1)), (17, 18, .ireturn)]
def zc_X6_firstRun : List (Nat × Nat × Instr) := [(0, 1, .iconst 1), (1, 2, .istore 2), (2, 3, .iload 2), (3, 4, .aload 0), (4, 5, .iload 1), (5, 8, .invokevirtual 122), (8, 11, .invokeinterface 3 32), (11, 12, .aload 0), (12, 13, .iload 1), (13, 14, .iload 2), (14, 17, .invokevirtual 121), (17, 18, .aload 0), (18, 19, .iload 1), (19, 20, .iconst 0), (20, 23, .invokevirtual 121), (23, 26, .invokeinterface 1 32), (26, 29, .iinc 2 1), (29, 32, .ret 2), (32, 33, .iload 2), (33, 34, .ireturn)]
def zc_X6_isJoint : List (Nat × Nat × Instr) := [(0, 1, .aload 0), (1, 2, .iload 1), (2, 5, .invokevirtual 122), (5, 6, .iconst 1), (6, 7, .isub), (7, 8, .istore 3), (8, 9, .aload 0), (9, 10, .iload 1), (10, 13, .invokevirtual 123), (13, 14, .aload 0), (14, 17, .getfield 198), (17, 18, .iconst 3), (18, 19, .iload 2), (19, 20, .iadd), (20, 21, .iaload), (21, 24, .invokeinterface 1 64), (24, 25, .aload 0), (25, 26, .iload 1), (26, 27, .iload 3), (27, 30, .invokevirtual 121), (30, 31, .aload 0), (31, 32, .iload 2), (32, 33, .iconst 0), (33, 36, .invokevirtual 121), (36, 39, .invokeinterface 1 64), (39, 40, .aload 0), (40, 41, .iload 1), (41, 42, .iload 3), (42, 45, .invokevirtual 126), (45, 46, .aload 0), (46, 47, .iload 2), (47, 50, .invokevirtual 132), (50, 51, .iadd), (51, 52, .aload 0), (52, 55, .getfield 197), (55, 56, .iconst 0), (56, 57, .iaload), (57, 60, .invokeinterface 5 64), (60, 61, .iconst 1), (61, 64, .ret 65), (64, 65, .iconst 0), (65, 66, .ireturn)]
def zc_X6_joint : List (Nat × Nat × Instr) := [(0, 1, .aload 0), (1, 2, .iload 1), (2, 5, .invokevirtual 120), (5, 8, .multianewarray 0 33), (8, 9, .aload 0), (9, 10, .iload 2), (10, 13, .invokevirtual 120), (13, 16, .multianewarray 0 33), (16, 17, .aload 0), (17, 18, .iload 1), (18, 19, .iload 2), (19, 22, .invokevirtual 133), (22, 25, .multianewarray 0 29), (25, 26, .iconst 1), (26, 29, .ret 34), (29, 30, .iconst 0), (30, 33, .ret 34), (33, 34, .iconst (-1)), (34, 35, .ireturn)]
def zc_X6_after : List (Nat × Nat × Instr) := [(0, 1, .aload 0), (1, 2, .iconst 0), (2, 3, .iload 1), (3, 5, .iconst 13), (5, 6, .idiv), (6, 7, .iload 2), (7, 10, .invokevirtual 109), (10, 11, .istore 3), (11, 12, .iload 1), (12, 14, .iconst 13), (14, 15, .irem), (15, 16, .iconst 1), (16, 17, .isub), (17, 19, .istore 4), (19, 21, .iload 4), (21, 24, .multianewarray 2 41), (24, 26, .iload 4), (26, 27, .iconst 3), (27, 28, .idiv), (28, 29, .iload 2), (29, 32, .invokeinterface 1 41), (32, 34, .iload 4), (34, 35, .iconst 3), (35, 36, .irem), (36, 37, .iconst 1), (37, 38, .iadd), (38, 41, .ret 42), (41, 42, .iconst 0), (42, 44, .istore 5), (44, 45, .iload 3), (45, 47, .iconst (-9)), (47, 50, .invokeinterface 0 69), (50, 51, .aload 0), (51, 52, .iload 3), (52, 55, .invokevirtual 118), (55, 58, .multianewarray 1 69), (58, 60, .iload 5), (60, 61, .aload 0), (61, 64, .getfield 197), (64, 65, .iconst 0), (65, 66, .iaload), (66, 69, .invokeinterface 1 74), (69, 71, .iconst (-9)), (71, 74, .ret 87), (74, 76, .iconst 13), (76, 77, .iload 3), (77, 78, .imul), (78, 79, .iconst 1), (79, 80, .iadd), (80, 81, .iconst 3), (81, 82, .iload 2), (82, 83, .imul), (83, 84, .iadd), (84, 86, .iload 5), (86, 87, .iadd), (87, 88, .ireturn)]
def zc_X6_findSteps : List (Nat × Nat × Instr) := [(0, 1, .iconst 0), (1, 2, .istore 2), (2, 3, .iload 2), (3, 6, .iconst 325), (6, 9, .invokeinterface 3 36), (9, 10, .aload 0), (10, 13, .getfield 206), (13, 14, .iload 2), (14, 15, .iload 2), (15, 17, .iconst 13), (17, 18, .idiv), (18, 19, .iload 1), (19, 22, .invokeinterface 1 26), (22, 23, .iconst 0), (23, 26, .ret 29), (26, 29, .iconst 999), (29, 30, .iastore), (30, 33, .iinc 2 1), (33, 36, .ret 2), (36, 37, .iconst 1), (37, 38, .istore 2), (38, 39, .iload 2), (39, 42, .multianewarray 0 132), (42, 43, .iconst 0), (43, 44, .istore 2), (44, 45, .iconst 0), (45, 46, .istore 3), (46, 47, .iload 3), (47, 49, .iconst 13), (49, 50, .aload 0), (50, 53, .invokevirtual 116), (53, 54, .imul), (54, 57, .invokeinterface 3 129), (57, 58, .iconst 0), (58, 60, .istore 4), (60, 62, .iload 4), (62, 63, .iconst 4), (63, 66, .invokeinterface 3 123), (66, 67, .aload 0), (67, 68, .iload 3), (68, 70, .iload 4), (70, 73, .invokevirtual 135), (73, 75, .istore 5), (75, 77, .iload 5), (77, 79, .iconst (-9)), (79, 82, .invokeinterface 0 117), (82, 83, .aload 0), (83, 86, .getfield 206), (86, 88, .iload 5), (88, 89, .iaload), (89, 90, .iconst 1), (90, 91, .iadd), (91, 92, .aload 0), (92, 95, .getfield 206), (95, 96, .iload 3), (96, 97, .iaload), (97, 100, .invokeinterface 3 117), (100, 101, .aload 0), (101, 104, .getfield 206), (104, 105, .iload 3), (105, 106, .aload 0), (106, 109, .getfield 206), (109, 111, .iload 5), (111, 112, .iaload), (112, 113, .iconst 1), (113, 114, .iadd), (114, 115, .iastore), (115, 116, .iconst 1), (116, 117, .istore 2), (117, 120, .iinc 4 1), (120, 123, .ret 60), (123, 126, .iinc 3 1), (126, 129, .ret 46), (129, 132, .ret 38), (132, 133, .return_)]
def zc_X6_stepsOf : List (Nat × Nat × Instr) := [(0, 1, .aload 0), (1, 2, .iload 2), (2, 5, .invokevirtual 136), (5, 6, .aload 0), (6, 9, .getfield 206), (9, 11, .iconst 13), (11, 12, .iload 1), (12, 13, .imul), (13, 14, .iaload), (14, 16, .iconst 60), (16, 19, .invokeinterface 5 24), (19, 21, .iconst (-9)), (21, 24, .ret 33), (24, 25, .aload 0), (25, 28, .getfield 206), (28, 30, .iconst 13), (30, 31, .iload 1), (31, 32, .imul), (32, 33, .iaload), (33, 34, .ireturn)]
def zc_X6_way : List (Nat × Nat × Instr) := [(0, 1, .aload 0), (1, 2, .iload 1), (2, 5, .invokevirtual 119), (5, 8, .multianewarray 0 21), (8, 9, .aload 0), (9, 10, .iload 2), (10, 13, .invokevirtual 119), (13, 16, .multianewarray 0 21), (16, 17, .iload 3), (17, 18, .iconst (-1)), (18, 21, .invokeinterface 3 23), (21, 22, .iconst (-1)), (22, 23, .ireturn), (23, 24, .aload 0), (24, 25, .iload 1), (25, 26, .iload 2), (26, 29, .invokevirtual 137), (29, 31, .istore 4), (31, 33, .iload 4), (33, 35, .iconst (-9)), (35, 38, .invokeinterface 0 43), (38, 39, .iload 3), (39, 40, .iconst (-1)), (40, 43, .invokeinterface 1 46), (43, 45, .iload 4), (45, 46, .ireturn), (46, 47, .iload 3), (47, 49, .iload 4), (49, 52, .invokeinterface 2 55), (52, 54, .iconst (-5)), (54, 55, .ireturn), (55, 57, .iconst 13), (57, 58, .iload 1), (58, 59, .imul), (59, 61, .istore 5), (61, 62, .iconst 0), (62, 64, .istore 6), (64, 65, .iconst 0), (65, 67, .istore 7), (67, 69, .iload 7), (69, 70, .iload 3), (70, 73, .invokeinterface 4 136), (73, 74, .iconst 0), (74, 76, .istore 6), (76, 77, .aload 0), (77, 79, .iload 5), (79, 81, .iload 6), (81, 84, .invokevirtual 135), (84, 86, .iconst (-9)), (86, 89, .invokeinterface 0 114), (89, 90, .aload 0), (90, 93, .getfield 206), (93, 94, .aload 0), (94, 96, .iload 5), (96, 98, .iload 6), (98, 101, .invokevirtual 135), (101, 102, .iaload), (102, 103, .aload 0), (103, 106, .getfield 206), (106, 108, .iload 5), (108, 109, .iaload), (109, 110, .iconst 1), (110, 111, .isub), (111, 114, .invokeinterface 0 120), (114, 117, .iinc 6 1), (117, 120, .ret 76), (120, 121, .aload 0), (121, 123, .iload 5), (123, 125, .iload 6), (125, 128, .invokevirtual 135), (128, 130, .istore 5), (130, 133, .iinc 7 1), (133, 136, .ret 67), (136, 138, .iload 6), (138, 139, .ireturn)]
def zc_X6_ways : List (Nat × Nat × Instr) := [(0, 1, .aload 0), (1, 2, .iload 1), (2, 5, .invokevirtual 119), (5, 8, .multianewarray 0 26), (8, 9, .aload 0), (9, 10, .iload 2), (10, 13, .invokevirtual 119), (13, 16, .multianewarray 0 26), (16, 17, .iload 3), (17, 18, .iconst 0), (18, 20, .iconst 20), (20, 23, .invokestatic 102), (23, 26, .multianewarray 1 30), (26, 29, .goto_w (-1)), (29, 30, .lreturn), (30, 31, .iconst 0), (31, 33, .istore 4), (33, 35, .iload 4), (35, 38, .iconst 325), (38, 41, .invokeinterface 3 68), (41, 42, .aload 0), (42, 45, .getfield 207), (45, 47, .iload 4), (47, 49, .iload 4), (49, 51, .iconst 13), (51, 52, .idiv), (52, 53, .iload 2), (53, 56, .invokeinterface 1 60), (56, 57, .goto_w 1), (57, 60, .ret 61), (60, 61, .goto_w 0), (61, 62, .lastore), (62, 65, .iinc 4 1), (65, 68, .ret 33), (68, 69, .iconst 0), (69, 71, .istore 4), (71, 73, .iload 4), (73, 74, .iload 3), (74, 77, .invokeinterface 3 202), (77, 78, .iconst 0), (78, 80, .istore 5), (80, 82, .iload 5), (82, 84, .iconst 13), (84, 85, .aload 0), (85, 88, .invokevirtual 116), (88, 89, .imul), (89, 92, .invokeinterface 3 161), (92, 93, .aload 0), (93, 96, .getfield 208), (96, 98, .iload 5), (98, 99, .goto_w 0), (99, 100, .lastore), (100, 101, .iconst 0), (101, 103, .istore 6), (103, 105, .iload 6), (105, 106, .iconst 4), (106, 109, .invokeinterface 3 155), (109, 110, .aload 0), (110, 113, .getfield 208), (113, 115, .iload 5), (115, 116, .dup2), (116, 117, .laload), (117, 118, .aload 0), (118, 120, .iload 5), (120, 122, .iload 6), (122, 125, .invokevirtual 135), (125, 127, .iconst (-9)), (127, 130, .invokeinterface 1 134), (130, 131, .goto_w 0), (131, 134, .ret 147), (134, 135, .aload 0), (135, 138, .getfield 207), (138, 139, .aload 0), (139, 141, .iload 5), (141, 143, .iload 6), (143, 146, .invokevirtual 135), (146, 147, .laload), (147, 148, .ladd), (148, 149, .lastore), (149, 152, .iinc 6 1), (152, 155, .ret 103), (155, 158, .iinc 5 1), (158, 161, .ret 80), (161, 162, .iconst 0), (162, 164, .istore 5), (164, 166, .iload 5), (166, 168, .iconst 13), (168, 169, .aload 0), (169, 172, .invokevirtual 116), (172, 173, .imul), (173, 176, .invokeinterface 3 196), (176, 177, .aload 0), (177, 180, .getfield 207), (180, 182, .iload 5), (182, 183, .aload 0), (183, 186, .getfield 208), (186, 188, .iload 5), (188, 189, .laload), (189, 190, .lastore), (190, 193, .iinc 5 1), (193, 196, .ret 164), (196, 199, .iinc 4 1), (199, 202, .ret 71), (202, 203, .aload 0), (203, 206, .getfield 207), (206, 208, .iconst 13), (208, 209, .iload 1), (209, 210, .imul), (210, 211, .laload), (211, 212, .lreturn)]
def zc_X6_findMend : List (Nat × Nat × Instr) := [(0, 1, .aload 0), (1, 2, .iload 1), (2, 5, .invokevirtual 122), (5, 6, .istore 2), (6, 7, .aload 0), (7, 8, .iload 1), (8, 11, .invokevirtual 123), (11, 12, .istore 3), (12, 13, .iconst 0), (13, 15, .istore 4), (15, 17, .iload 4), (17, 20, .iconst 325), (20, 23, .invokeinterface 3 58), (23, 24, .aload 0), (24, 27, .getfield 209), (27, 30, .iconst 325), (30, 31, .iload 2), (31, 32, .imul), (32, 34, .iload 4), (34, 35, .iadd), (35, 37, .iload 4), (37, 39, .iconst 13), (39, 40, .idiv), (40, 41, .iload 3), (41, 44, .invokeinterface 1 48), (44, 45, .iconst 0), (45, 48, .ret 51), (48, 51, .iconst 999), (51, 52, .iastore), (52, 55, .iinc 4 1), (55, 58, .ret 15), (58, 59, .iload 2), (59, 60, .iconst 1), (60, 61, .isub), (61, 63, .istore 4), (63, 65, .iload 4), (65, 68, .multianewarray 2 248), (68, 69, .iconst 0), (69, 71, .istore 5), (71, 73, .iload 5), (73, 76, .iconst 325), (76, 79, .invokeinterface 3 242), (79, 80, .aload 0), (80, 83, .getfield 209), (83, 86, .iconst 325), (86, 88, .iload 4), (88, 89, .imul), (89, 91, .iload 5), (91, 92, .iadd), (92, 95, .iconst 999), (95, 96, .iastore), (96, 97, .iconst 0), (97, 99, .istore 6), (99, 101, .iload 6), (101, 102, .iconst 4), (102, 105, .invokeinterface 3 236), (105, 107, .iload 5), (107, 109, .iconst 13), (109, 110, .aload 0), (110, 113, .invokevirtual 116), (113, 114, .imul), (114, 117, .invokeinterface 3 236), (117, 118, .aload 0), (118, 120, .iload 5), (120, 122, .iload 6), (122, 125, .invokevirtual 135), (125, 127, .istore 7), (127, 129, .iload 7), (129, 131, .iconst (-9)), (131, 134, .invokeinterface 1 140), (134, 137, .iconst 999), (137, 140, .ret 176), (140, 141, .aload 0), (141, 144, .getfield 209), (144, 147, .iconst 325), (147, 149, .iload 4), (149, 150, .imul), (150, 153, .iconst 325), (153, 154, .iadd), (154, 156, .iload 7), (156, 157, .iadd), (157, 158, .iaload), (158, 160, .iload 6), (160, 161, .aload 0), (161, 162, .iload 1), (162, 164, .iload 4), (164, 167, .invokevirtual 121), (167, 170, .invokeinterface 1 174), (170, 171, .iconst 0), (171, 174, .ret 175), (174, 175, .iconst 1), (175, 176, .iadd), (176, 178, .istore 8), (178, 179, .aload 0), (179, 182, .getfield 209), (182, 185, .iconst 325), (185, 187, .iload 4), (187, 188, .imul), (188, 190, .iload 5), (190, 191, .iadd), (191, 193, .iload 8), (193, 194, .aload 0), (194, 197, .getfield 209), (197, 200, .iconst 325), (200, 202, .iload 4), (202, 203, .imul), (203, 205, .iload 5), (205, 206, .iadd), (206, 207, .iaload), (207, 210, .invokeinterface 3 215), (210, 212, .iload 8), (212, 215, .ret 229), (215, 216, .aload 0), (216, 219, .getfield 209), (219, 222, .iconst 325), (222, 224, .iload 4), (224, 225, .imul), (225, 227, .iload 5), (227, 228, .iadd), (228, 229, .iaload), (229, 230, .iastore), (230, 233, .iinc 6 1), (233, 236, .ret 99), (236, 239, .iinc 5 1), (239, 242, .ret 71), (242, 245, .iinc 4 (-1)), (245, 248, .ret 63), (248, 249, .return_)]
def zc_X6_mend : List (Nat × Nat × Instr) := [(0, 1, .aload 0), (1, 2, .iload 1), (2, 5, .invokevirtual 120), (5, 8, .multianewarray 0 13), (8, 9, .iload 2), (9, 10, .iconst (-1)), (10, 13, .invokeinterface 3 15), (13, 14, .iconst (-1)), (14, 15, .ireturn), (15, 16, .aload 0), (16, 17, .iload 1), (17, 20, .invokevirtual 140), (20, 22, .iconst 13), (22, 23, .aload 0), (23, 26, .getfield 198), (26, 27, .iconst 3), (27, 28, .iload 1), (28, 29, .iadd), (29, 30, .iaload), (30, 31, .imul), (31, 32, .istore 3), (32, 33, .aload 0), (33, 36, .getfield 209), (36, 37, .iload 3), (37, 38, .iaload), (38, 41, .iconst 999), (41, 44, .invokeinterface 2 47), (44, 46, .iconst (-9)), (46, 47, .ireturn), (47, 48, .iload 2), (48, 49, .iconst (-1)), (49, 52, .invokeinterface 1 59), (52, 53, .aload 0), (53, 56, .getfield 209), (56, 57, .iload 3), (57, 58, .iaload), (58, 59, .ireturn), (59, 60, .iload 2), (60, 61, .aload 0), (61, 62, .iload 1), (62, 65, .invokevirtual 122), (65, 68, .invokeinterface 2 71), (68, 70, .iconst (-5)), (70, 71, .ireturn), (71, 72, .iconst 0), (72, 74, .istore 4), (74, 75, .iconst 0), (75, 77, .istore 5), (77, 79, .iload 5), (79, 80, .iload 2), (80, 83, .invokeinterface 4 179), (83, 84, .iconst 0), (84, 86, .istore 4), (86, 87, .aload 0), (87, 88, .iload 1), (88, 90, .iload 5), (90, 93, .invokevirtual 121), (93, 95, .istore 6), (95, 96, .aload 0), (96, 97, .iload 3), (97, 99, .iload 4), (99, 102, .invokevirtual 135), (102, 104, .iconst (-9)), (104, 107, .invokeinterface 0 159), (107, 108, .aload 0), (108, 111, .getfield 209), (111, 114, .iconst 325), (114, 116, .iload 5), (116, 117, .imul), (117, 120, .iconst 325), (120, 121, .iadd), (121, 122, .aload 0), (122, 123, .iload 3), (123, 125, .iload 4), (125, 128, .invokevirtual 135), (128, 129, .iadd), (129, 130, .iaload), (130, 132, .iload 4), (132, 134, .iload 6), (134, 137, .invokeinterface 1 141), (137, 138, .iconst 0), (138, 141, .ret 142), (141, 142, .iconst 1), (142, 143, .iadd), (143, 144, .aload 0), (144, 147, .getfield 209), (147, 150, .iconst 325), (150, 152, .iload 5), (152, 153, .imul), (153, 154, .iload 3), (154, 155, .iadd), (155, 156, .iaload), (156, 159, .invokeinterface 0 165), (159, 162, .iinc 4 1), (162, 165, .ret 95), (165, 166, .aload 0), (166, 167, .iload 3), (167, 169, .iload 4), (169, 172, .invokevirtual 135), (172, 173, .istore 3), (173, 176, .iinc 5 1), (176, 179, .ret 77), (179, 181, .iload 4), (181, 182, .ireturn)]
def zc_X6_openNow : List (Nat × Nat × Instr) := [(0, 1, .iconst 1), (1, 2, .aload 0), (2, 5, .invokevirtual 116), (5, 6, .ishl), (6, 7, .iconst 1), (7, 8, .isub), (8, 9, .aload 0), (9, 12, .getfield 198), (12, 13, .iconst 0), (13, 14, .iaload), (14, 15, .iconst (-1)), (15, 16, .ixor), (16, 17, .iand), (17, 18, .aload 0), (18, 21, .invokevirtual 124), (21, 22, .iconst (-1)), (22, 23, .ixor), (23, 24, .iand), (24, 25, .ireturn)]
def zc_X6_findLine : List (Nat × Nat × Instr) := [(0, 1, .iload 3), (1, 2, .iconst 1), (2, 5, .invokeinterface 1 9), (5, 6, .iconst 2), (6, 9, .ret 10), (9, 10, .iconst 1), (10, 12, .istore 4), (12, 13, .aload 0), (13, 14, .iconst 0), (14, 15, .iload 1), (15, 16, .iload 3), (16, 17, .iconst 1), (17, 20, .invokeinterface 1 24), (20, 21, .iconst 0), (21, 24, .ret 25), (24, 25, .iconst 3), (25, 28, .invokevirtual 109), (28, 30, .istore 5), (30, 31, .iload 2), (31, 32, .iload 1), (32, 33, .ishr), (33, 34, .iconst 1), (34, 35, .iand), (35, 38, .multianewarray 0 55), (38, 40, .iload 5), (40, 42, .iconst (-9)), (42, 45, .invokeinterface 0 56), (45, 46, .iload 2), (46, 48, .iload 5), (48, 49, .ishr), (49, 50, .iconst 1), (50, 51, .iand), (51, 52, .iconst 1), (52, 55, .invokeinterface 1 56), (55, 56, .return_), (56, 57, .aload 0), (57, 60, .getfield 210), (60, 61, .aload 0), (61, 64, .getfield 213), (64, 65, .iload 1), (65, 66, .iastore), (66, 67, .aload 0), (67, 70, .getfield 212), (70, 71, .aload 0), (71, 74, .getfield 213), (74, 75, .iload 3), (75, 76, .iastore), (76, 77, .iconst 0), (77, 79, .istore 6), (79, 80, .iload 1), (80, 82, .istore 7), (82, 84, .iload 7), (84, 86, .iconst (-9)), (86, 89, .invokeinterface 0 116), (89, 90, .iload 2), (90, 92, .iload 7), (92, 93, .ishr), (93, 94, .iconst 1), (94, 95, .iand), (95, 96, .iconst 1), (96, 99, .invokeinterface 1 116), (99, 102, .iinc 6 1), (102, 103, .aload 0), (103, 104, .iconst 0), (104, 106, .iload 7), (106, 108, .iload 4), (108, 111, .invokevirtual 109), (111, 113, .istore 7), (113, 116, .ret 82), (116, 117, .aload 0), (117, 120, .getfield 211), (120, 121, .aload 0), (121, 124, .getfield 213), (124, 126, .iload 6), (126, 127, .iastore), (127, 128, .aload 0), (128, 129, .dup), (129, 132, .getfield 213), (132, 133, .iconst 1), (133, 134, .iadd), (134, 137, .putfield 213), (137, 138, .return_)]
def zc_X6_findLines : List (Nat × Nat × Instr) := [(0, 1, .aload 0), (1, 2, .iconst 0), (2, 5, .putfield 213), (5, 6, .iconst 0), (6, 7, .istore 2), (7, 8, .iload 2), (8, 9, .aload 0), (9, 12, .invokevirtual 116), (12, 15, .invokeinterface 3 28), (15, 16, .aload 0), (16, 17, .iload 2), (17, 18, .iload 1), (18, 19, .iconst 0), (19, 22, .invokevirtual 143), (22, 25, .iinc 2 1), (25, 28, .ret 7), (28, 29, .iconst 0), (29, 30, .istore 2), (30, 31, .iload 2), (31, 32, .aload 0), (32, 35, .getfield 195), (35, 36, .iconst 0), (36, 37, .iaload), (37, 40, .invokeinterface 3 80), (40, 41, .iconst 0), (41, 42, .istore 3), (42, 43, .iload 3), (43, 44, .aload 0), (44, 47, .getfield 196), (47, 48, .iconst 0), (48, 49, .iaload), (49, 52, .invokeinterface 3 74), (52, 53, .aload 0), (53, 54, .aload 0), (54, 57, .getfield 195), (57, 58, .iconst 0), (58, 59, .iaload), (59, 60, .iload 3), (60, 61, .imul), (61, 62, .iload 2), (62, 63, .iadd), (63, 64, .iload 1), (64, 65, .iconst 1), (65, 68, .invokevirtual 143), (68, 71, .iinc 3 1), (71, 74, .ret 42), (74, 77, .iinc 2 1), (77, 80, .ret 30), (80, 81, .return_)]
def zc_X6_harmOf : List (Nat × Nat × Instr) := [(0, 1, .aload 0), (1, 4, .getfield 211), (4, 5, .iload 1), (5, 6, .iaload), (6, 7, .aload 0), (7, 10, .getfield 197), (10, 11, .iconst 0), (11, 12, .iaload), (12, 15, .invokeinterface 5 31), (15, 16, .aload 0), (16, 19, .getfield 211), (19, 20, .iload 1), (20, 21, .iaload), (21, 22, .aload 0), (22, 25, .getfield 197), (25, 26, .iconst 0), (26, 27, .iaload), (27, 28, .isub), (28, 31, .ret 32), (31, 32, .iconst 0), (32, 33, .ireturn)]
def zc_X6_harmBy : List (Nat × Nat × Instr) := [(0, 1, .aload 0), (1, 2, .iload 1), (2, 5, .invokevirtual 144), (5, 6, .iconst 0), (6, 7, .istore 2), (7, 8, .iconst 0), (8, 9, .istore 3), (9, 10, .iload 3), (10, 11, .aload 0), (11, 14, .getfield 213), (14, 17, .invokeinterface 3 31), (17, 18, .iload 2), (18, 19, .aload 0), (19, 20, .iload 3), (20, 23, .invokevirtual 145), (23, 24, .iadd), (24, 25, .istore 2), (25, 28, .iinc 3 1), (28, 31, .ret 9), (31, 32, .iload 2), (32, 33, .ireturn)]
def zc_X6_lines : List (Nat × Nat × Instr) := [(0, 1, .iload 1), (1, 2, .iconst 0), (2, 3, .iconst 4), (3, 6, .invokestatic 102), (6, 9, .multianewarray 1 11), (9, 10, .iconst (-1)), (10, 11, .ireturn), (11, 12, .aload 0), (12, 13, .aload 0), (13, 16, .invokevirtual 142), (16, 19, .invokevirtual 146), (19, 20, .istore 2), (20, 22, .iconst (-9)), (22, 23, .istore 3), (23, 24, .iconst 0), (24, 26, .istore 4), (26, 28, .iload 4), (28, 29, .aload 0), (29, 32, .getfield 213), (32, 35, .invokeinterface 3 70), (35, 36, .iload 3), (36, 38, .iconst (-9)), (38, 41, .invokeinterface 0 57), (41, 42, .aload 0), (42, 45, .getfield 211), (45, 47, .iload 4), (47, 48, .iaload), (48, 49, .aload 0), (49, 52, .getfield 211), (52, 53, .iload 3), (53, 54, .iaload), (54, 57, .invokeinterface 5 62), (57, 59, .iload 4), (59, 62, .ret 63), (62, 63, .iload 3), (63, 64, .istore 3), (64, 67, .iinc 4 1), (67, 70, .ret 26), (70, 71, .iload 1), (71, 72, .iconst 2), (72, 75, .invokeinterface 3 88), (75, 76, .iload 1), (76, 79, .multianewarray 1 86), (79, 80, .aload 0), (80, 83, .getfield 213), (83, 86, .ret 87), (86, 87, .iload 2), (87, 88, .ireturn), (88, 89, .iload 3), (89, 91, .iconst (-9)), (91, 94, .invokeinterface 1 99), (94, 96, .iconst (-9)), (96, 99, .ret 133), (99, 100, .iload 1), (100, 101, .iconst 2), (101, 104, .invokeinterface 1 113), (104, 105, .aload 0), (105, 108, .getfield 211), (108, 109, .iload 3), (109, 110, .iaload), (110, 113, .ret 133), (113, 114, .iload 1), (114, 115, .iconst 3), (115, 118, .invokeinterface 1 127), (118, 119, .aload 0), (119, 122, .getfield 210), (122, 123, .iload 3), (123, 124, .iaload), (124, 127, .ret 133), (127, 128, .aload 0), (128, 131, .getfield 212), (131, 132, .iload 3), (132, 133, .iaload), (133, 134, .ireturn)]
def zc_X6_findHedges : List (Nat × Nat × Instr) := [(0, 1, .aload 0), (1, 4, .invokevirtual 142), (4, 5, .istore 2), (5, 6, .iconst 0), (6, 7, .istore 3), (7, 8, .iload 3), (8, 9, .iconst 3), (9, 12, .invokeinterface 3 25), (12, 13, .aload 0), (13, 16, .getfield 214), (16, 17, .iload 3), (17, 18, .iload 3), (18, 19, .iastore), (19, 22, .iinc 3 1), (22, 25, .ret 7), (25, 26, .iconst 0), (26, 27, .istore 3), (27, 28, .iload 3), (28, 29, .iload 1), (29, 32, .multianewarray 5 39), (32, 33, .aload 0), (33, 36, .invokevirtual 116), (36, 39, .ret 40), (39, 40, .iconst 1), (40, 43, .invokeinterface 3 214), (43, 44, .iload 1), (44, 45, .iconst 1), (45, 48, .invokeinterface 5 54), (48, 49, .iload 3), (49, 50, .iconst 1), (50, 51, .iadd), (51, 54, .ret 55), (54, 55, .iconst 0), (55, 57, .istore 4), (57, 59, .iload 4), (59, 60, .iload 1), (60, 61, .iconst 1), (61, 64, .invokeinterface 5 71), (64, 65, .aload 0), (65, 68, .invokevirtual 116), (68, 71, .ret 72), (71, 72, .iconst 1), (72, 75, .invokeinterface 3 208), (75, 76, .iload 1), (76, 77, .iconst 2), (77, 80, .invokeinterface 5 87), (80, 82, .iload 4), (82, 83, .iconst 1), (83, 84, .iadd), (84, 87, .ret 88), (87, 88, .iconst 0), (88, 90, .istore 5), (90, 92, .iload 5), (92, 93, .iload 1), (93, 94, .iconst 2), (94, 97, .invokeinterface 5 104), (97, 98, .aload 0), (98, 101, .invokevirtual 116), (101, 104, .ret 105), (104, 105, .iconst 1), (105, 108, .invokeinterface 3 202), (108, 109, .iload 1), (109, 112, .multianewarray 5 118), (112, 113, .iconst 1), (113, 114, .iload 3), (114, 115, .ishl), (115, 118, .ret 119), (118, 119, .iconst 0), (119, 120, .iload 1), (120, 121, .iconst 1), (121, 124, .invokeinterface 5 131), (124, 125, .iconst 1), (125, 127, .iload 4), (127, 128, .ishl), (128, 131, .ret 132), (131, 132, .iconst 0), (132, 133, .ior), (133, 134, .iload 1), (134, 135, .iconst 2), (135, 138, .invokeinterface 5 145), (138, 139, .iconst 1), (139, 141, .iload 5), (141, 142, .ishl), (142, 145, .ret 146), (145, 146, .iconst 0), (146, 147, .ior), (147, 149, .istore 6), (149, 151, .iload 6), (151, 152, .iload 2), (152, 153, .iconst (-1)), (153, 154, .ixor), (154, 155, .iand), (155, 158, .multianewarray 1 196), (158, 159, .aload 0), (159, 160, .iload 2), (160, 162, .iload 6), (162, 163, .iconst (-1)), (163, 164, .ixor), (164, 165, .iand), (165, 168, .invokevirtual 146), (168, 171, .multianewarray 1 196), (171, 172, .aload 0), (172, 175, .getfield 214), (175, 176, .iconst 0), (176, 177, .iload 3), (177, 178, .iastore), (178, 179, .aload 0), (179, 182, .getfield 214), (182, 183, .iconst 1), (183, 185, .iload 4), (185, 186, .iastore), (186, 187, .aload 0), (187, 190, .getfield 214), (190, 191, .iconst 2), (191, 193, .iload 5), (193, 194, .iastore), (194, 195, .iconst 1), (195, 196, .ireturn), (196, 199, .iinc 5 1), (199, 202, .ret 90), (202, 205, .iinc 4 1), (205, 208, .ret 57), (208, 211, .iinc 3 1), (211, 214, .ret 27), (214, 215, .iconst 0), (215, 216, .ireturn)]
def zc_X6_hedges : List (Nat × Nat × Instr) := [(0, 1, .iload 1), (1, 2, .iconst (-1)), (2, 3, .iconst 2), (3, 6, .invokestatic 102), (6, 9, .multianewarray 1 11), (9, 10, .iconst (-1)), (10, 11, .ireturn), (11, 12, .iconst 0), (12, 13, .istore 2), (13, 14, .iload 2), (14, 15, .iconst 4), (15, 18, .invokeinterface 3 32), (18, 19, .aload 0), (19, 20, .iload 2), (20, 23, .invokevirtual 148), (23, 26, .multianewarray 1 32), (26, 29, .iinc 2 1), (29, 32, .ret 13), (32, 33, .iload 2), (33, 34, .iconst 4), (34, 37, .invokeinterface 1 42), (37, 39, .iconst (-9)), (39, 42, .ret 67), (42, 43, .iload 1), (43, 44, .iconst (-1)), (44, 47, .invokeinterface 1 51), (47, 48, .iload 2), (48, 51, .ret 67), (51, 52, .iload 1), (52, 53, .iload 2), (53, 56, .invokeinterface 3 65), (56, 57, .aload 0), (57, 60, .getfield 214), (60, 61, .iload 1), (61, 62, .iaload), (62, 65, .ret 67), (65, 67, .iconst (-5)), (67, 68, .ireturn)]
def zc_X6_gusts : List (Nat × Nat × Instr) := [(0, 1, .iload 1), (1, 2, .iconst 1), (2, 4, .iconst 99), (4, 7, .invokestatic 102), (7, 10, .multianewarray 1 12), (10, 11, .iconst (-1)), (11, 12, .ireturn), (12, 13, .aload 0), (13, 14, .aload 0), (14, 17, .invokevirtual 142), (17, 20, .invokevirtual 144), (20, 21, .iconst 0), (21, 22, .istore 2), (22, 23, .iconst 0), (23, 24, .istore 3), (24, 25, .iload 3), (25, 26, .iload 1), (26, 29, .invokeinterface 3 82), (29, 30, .aload 0), (30, 33, .getfield 213), (33, 36, .multianewarray 5 82), (36, 37, .aload 0), (37, 40, .getfield 198), (40, 41, .iconst 2), (41, 42, .aload 0), (42, 45, .getfield 198), (45, 46, .iconst 2), (46, 47, .iaload), (47, 49, .iconst 1103515245), (49, 50, .imul), (50, 53, .iconst 12345), (53, 54, .iadd), (54, 55, .iastore), (55, 56, .iload 2), (56, 57, .aload 0), (57, 58, .aload 0), (58, 61, .getfield 198), (61, 62, .iconst 2), (62, 63, .iaload), (63, 65, .iconst 16), (65, 66, .iushr), (66, 67, .aload 0), (67, 70, .getfield 213), (70, 71, .irem), (71, 74, .invokevirtual 145), (74, 75, .iadd), (75, 76, .istore 2), (76, 79, .iinc 3 1), (79, 82, .ret 24), (82, 83, .iload 2), (83, 84, .ireturn)]
def zc_X6_lot : List (Nat × Nat × Instr) := [(0, 1, .aload 0), (1, 4, .getfield 198), (4, 5, .iconst 2), (5, 6, .iaload), (6, 7, .istore 2), (7, 8, .aload 0), (8, 11, .getfield 198), (11, 12, .iconst 2), (12, 13, .iload 1), (13, 14, .iastore), (14, 15, .iload 2), (15, 16, .ireturn)]
def zc_X6_houses : List (Nat × Nat × Instr) := [(0, 1, .iconst 0), (1, 2, .istore 1), (2, 3, .iconst 0), (3, 4, .istore 2), (4, 5, .iload 2), (5, 7, .iconst 25), (7, 10, .invokeinterface 3 29), (10, 11, .iload 1), (11, 12, .aload 0), (12, 15, .getfield 198), (15, 16, .iconst 0), (16, 17, .iaload), (17, 18, .iload 2), (18, 19, .ishr), (19, 20, .iconst 1), (20, 21, .iand), (21, 22, .iadd), (22, 23, .istore 1), (23, 26, .iinc 2 1), (26, 29, .ret 4), (29, 30, .iload 1), (30, 31, .ireturn)]
def zc_X6_build : List (Nat × Nat × Instr) := [(0, 1, .aload 0), (1, 2, .iload 1), (2, 5, .invokevirtual 117), (5, 8, .multianewarray 1 10), (8, 9, .iconst (-1)), (9, 10, .ireturn), (10, 11, .aload 0), (11, 12, .iload 1), (12, 15, .invokevirtual 125), (15, 18, .multianewarray 0 21), (18, 20, .iconst (-2)), (20, 21, .ireturn), (21, 22, .aload 0), (22, 25, .getfield 198), (25, 26, .iconst 0), (26, 27, .dup2), (27, 28, .iaload), (28, 29, .iconst 1), (29, 30, .iload 1), (30, 31, .ishl), (31, 32, .ior), (32, 33, .iastore), (33, 34, .aload 0), (34, 37, .invokevirtual 152), (37, 38, .ireturn)]
def zc_X6_raze : List (Nat × Nat × Instr) := [(0, 1, .aload 0), (1, 2, .iload 1), (2, 5, .invokevirtual 117), (5, 8, .multianewarray 1 10), (8, 9, .iconst (-1)), (9, 10, .ireturn), (10, 11, .aload 0), (11, 12, .iload 1), (12, 15, .invokevirtual 118), (15, 18, .multianewarray 1 21), (18, 20, .iconst (-2)), (20, 21, .ireturn), (21, 22, .aload 0), (22, 25, .getfield 198), (25, 26, .iconst 0), (26, 27, .dup2), (27, 28, .iaload), (28, 29, .iconst 1), (29, 30, .iload 1), (30, 31, .ishl), (31, 32, .iconst (-1)), (32, 33, .ixor), (33, 34, .iand), (34, 35, .iastore), (35, 36, .aload 0), (36, 39, .invokevirtual 152), (39, 40, .ireturn)]
def zc_X6_isStreet : List (Nat × Nat × Instr) := [(0, 1, .iload 2), (1, 2, .istore 3), (2, 3, .aload 0), (3, 4, .iconst 0), (4, 7, .putfield 216), (7, 8, .iload 3), (8, 11, .multianewarray 5 29), (11, 12, .aload 0), (12, 13, .dup), (13, 16, .getfield 216), (16, 17, .iconst 1), (17, 18, .iadd), (18, 21, .putfield 216), (21, 22, .iload 3), (22, 24, .iconst 10), (24, 25, .idiv), (25, 26, .istore 3), (26, 29, .ret 7), (29, 30, .aload 0), (30, 31, .iload 1), (31, 34, .invokevirtual 119), (34, 37, .multianewarray 0 50), (37, 38, .aload 0), (38, 41, .getfield 216), (41, 42, .iconst 1), (42, 44, .iconst 9), (44, 47, .invokestatic 102), (47, 50, .multianewarray 1 52), (50, 51, .iconst 0), (51, 52, .ireturn), (52, 53, .iload 2), (53, 54, .istore 3), (54, 55, .aload 0), (55, 58, .getfield 216), (58, 59, .iconst 1), (59, 60, .isub), (60, 62, .istore 4), (62, 64, .iload 4), (64, 67, .multianewarray 2 91), (67, 68, .aload 0), (68, 71, .getfield 215), (71, 73, .iload 4), (73, 74, .iload 3), (74, 76, .iconst 10), (76, 77, .irem), (77, 78, .iconst 1), (78, 79, .isub), (79, 80, .iastore), (80, 81, .iload 3), (81, 83, .iconst 10), (83, 84, .idiv), (84, 85, .istore 3), (85, 88, .iinc 4 (-1)), (88, 91, .ret 62), (91, 92, .iload 1), (92, 94, .istore 4), (94, 95, .iconst 0), (95, 97, .istore 5), (97, 99, .iload 5), (99, 100, .aload 0), (100, 103, .getfield 216), (103, 106, .invokeinterface 3 166), (106, 107, .aload 0), (107, 110, .getfield 215), (110, 112, .iload 5), (112, 113, .iaload), (113, 114, .iconst 0), (114, 115, .iconst 3), (115, 118, .invokestatic 102), (118, 121, .multianewarray 0 138), (121, 122, .aload 0), (122, 123, .iconst 0), (123, 125, .iload 4), (125, 126, .aload 0), (126, 129, .getfield 215), (129, 131, .iload 5), (131, 132, .iaload), (132, 135, .invokevirtual 109), (135, 138, .ret 140), (138, 140, .iconst (-9)), (140, 142, .istore 4), (142, 144, .iload 4), (144, 146, .iconst (-9)), (146, 149, .invokeinterface 0 158), (149, 150, .aload 0), (150, 152, .iload 4), (152, 155, .invokevirtual 118), (155, 158, .multianewarray 0 160), (158, 159, .iconst 0), (159, 160, .ireturn), (160, 163, .iinc 5 1), (163, 166, .ret 97), (166, 167, .iconst 1), (167, 168, .ireturn)]
def zc_X6_toldRun : List (Nat × Nat × Instr) := [(0, 1, .iconst 1), (1, 2, .istore 3), (2, 3, .iload 1), (3, 4, .iload 3), (4, 5, .iload 2), (5, 6, .imul), (6, 7, .iadd), (7, 8, .iconst 0), (8, 9, .aload 0), (9, 12, .getfield 216), (12, 13, .iconst 1), (13, 14, .isub), (14, 17, .invokestatic 102), (17, 20, .multianewarray 0 45), (20, 21, .aload 0), (21, 24, .getfield 215), (24, 25, .iload 1), (25, 26, .iload 3), (26, 27, .iload 2), (27, 28, .imul), (28, 29, .iadd), (29, 30, .iaload), (30, 31, .aload 0), (31, 34, .getfield 215), (34, 35, .iload 1), (35, 36, .iaload), (36, 39, .invokeinterface 1 45), (39, 42, .iinc 3 1), (42, 45, .ret 2), (45, 46, .iload 3), (46, 47, .ireturn)]
def zc_X6_isBent : List (Nat × Nat × Instr) := [(0, 1, .iload 1), (1, 2, .istore 2), (2, 3, .iconst 0), (3, 4, .istore 3), (4, 5, .iload 3), (5, 6, .aload 0), (6, 9, .getfield 216), (9, 12, .invokeinterface 3 48), (12, 13, .aload 0), (13, 14, .iload 3), (14, 15, .iconst 1), (15, 18, .invokevirtual 156), (18, 19, .aload 0), (19, 22, .getfield 197), (22, 23, .iconst 0), (23, 24, .iaload), (24, 27, .invokeinterface 5 29), (27, 28, .iconst 0), (28, 29, .ireturn), (29, 30, .aload 0), (30, 31, .iconst 0), (31, 32, .iload 2), (32, 33, .aload 0), (33, 36, .getfield 215), (36, 37, .iload 3), (37, 38, .iaload), (38, 41, .invokevirtual 109), (41, 42, .istore 2), (42, 45, .iinc 3 1), (45, 48, .ret 4), (48, 49, .aload 0), (49, 52, .getfield 216), (52, 53, .iconst 1), (53, 54, .isub), (54, 55, .istore 3), (55, 56, .iconst 1), (56, 58, .istore 4), (58, 59, .iconst 0), (59, 61, .istore 5), (61, 63, .iload 5), (63, 64, .aload 0), (64, 67, .getfield 198), (67, 68, .iconst 1), (68, 69, .iaload), (69, 72, .invokeinterface 3 214), (72, 73, .aload 0), (73, 75, .iload 5), (75, 78, .invokevirtual 122), (78, 79, .iconst 1), (79, 80, .isub), (80, 82, .istore 6), (82, 84, .iload 4), (84, 87, .multianewarray 0 142), (87, 88, .iload 2), (88, 89, .aload 0), (89, 92, .getfield 198), (92, 93, .iconst 3), (93, 95, .iload 5), (95, 96, .iadd), (96, 97, .iaload), (97, 100, .invokeinterface 1 138), (100, 101, .aload 0), (101, 104, .getfield 215), (104, 105, .iload 3), (105, 106, .iaload), (106, 107, .aload 0), (107, 109, .iload 5), (109, 110, .iconst 0), (110, 113, .invokevirtual 121), (113, 116, .invokeinterface 1 138), (116, 117, .aload 0), (117, 118, .iload 3), (118, 119, .iconst (-1)), (119, 122, .invokevirtual 156), (122, 123, .aload 0), (123, 125, .iload 5), (125, 128, .invokevirtual 132), (128, 129, .iadd), (129, 130, .aload 0), (130, 133, .getfield 197), (133, 134, .iconst 0), (134, 135, .iaload), (135, 138, .invokeinterface 4 142), (138, 139, .iconst 1), (139, 142, .ret 143), (142, 143, .iconst 0), (143, 145, .istore 4), (145, 147, .iload 4), (147, 150, .multianewarray 0 205), (150, 151, .aload 0), (151, 153, .iload 5), (153, 156, .invokevirtual 123), (156, 157, .iload 1), (157, 160, .invokeinterface 1 201), (160, 161, .aload 0), (161, 163, .iload 5), (163, 165, .iload 6), (165, 168, .invokevirtual 121), (168, 169, .aload 0), (169, 172, .getfield 215), (172, 173, .iconst 0), (173, 174, .iaload), (174, 177, .invokeinterface 1 201), (177, 178, .aload 0), (178, 180, .iload 5), (180, 182, .iload 6), (182, 185, .invokevirtual 126), (185, 186, .aload 0), (186, 187, .iconst 0), (187, 188, .iconst 1), (188, 191, .invokevirtual 156), (191, 192, .iadd), (192, 193, .aload 0), (193, 196, .getfield 197), (196, 197, .iconst 0), (197, 198, .iaload), (198, 201, .invokeinterface 4 205), (201, 202, .iconst 1), (202, 205, .ret 206), (205, 206, .iconst 0), (206, 208, .istore 4), (208, 211, .iinc 5 1), (211, 214, .ret 61), (214, 216, .iload 4), (216, 217, .ireturn)]
def zc_X6_street : List (Nat × Nat × Instr) := [(0, 1, .aload 0), (1, 2, .iload 1), (2, 3, .iload 2), (3, 6, .invokevirtual 155), (6, 9, .multianewarray 1 11), (9, 10, .iconst (-1)), (10, 11, .ireturn), (11, 12, .aload 0), (12, 13, .iload 1), (13, 16, .invokevirtual 157), (16, 19, .multianewarray 1 22), (19, 21, .iconst (-2)), (21, 22, .ireturn), (22, 23, .aload 0), (23, 26, .getfield 198), (26, 27, .iconst 1), (27, 28, .iaload), (28, 29, .iconst 4), (29, 32, .invokeinterface 1 35), (32, 34, .iconst (-3)), (34, 35, .ireturn), (35, 36, .aload 0), (36, 39, .getfield 198), (39, 40, .iconst 1), (40, 41, .iaload), (41, 42, .istore 3), (42, 43, .aload 0), (43, 46, .getfield 198), (46, 47, .iconst 3), (47, 48, .iload 3), (48, 49, .iadd), (49, 50, .iload 1), (50, 51, .iastore), (51, 52, .aload 0), (52, 55, .getfield 198), (55, 57, .iconst 7), (57, 58, .iload 3), (58, 59, .iadd), (59, 60, .aload 0), (60, 63, .getfield 216), (63, 64, .iastore), (64, 65, .iconst 0), (65, 67, .istore 4), (67, 69, .iload 4), (69, 70, .aload 0), (70, 73, .getfield 216), (73, 76, .invokeinterface 3 104), (76, 77, .aload 0), (77, 80, .getfield 198), (80, 82, .iconst 11), (82, 84, .iconst 12), (84, 85, .iload 3), (85, 86, .imul), (86, 87, .iadd), (87, 89, .iload 4), (89, 90, .iadd), (90, 91, .aload 0), (91, 94, .getfield 215), (94, 96, .iload 4), (96, 97, .iaload), (97, 98, .iastore), (98, 101, .iinc 4 1), (101, 104, .ret 67), (104, 105, .aload 0), (105, 108, .getfield 198), (108, 109, .iconst 1), (109, 110, .dup2), (110, 111, .iaload), (111, 112, .iconst 1), (112, 113, .iadd), (113, 114, .iastore), (114, 115, .aload 0), (115, 118, .getfield 198), (118, 119, .iconst 1), (119, 120, .iaload), (120, 121, .ireturn)]
def zc_X6_close : List (Nat × Nat × Instr) := [(0, 1, .aload 0), (1, 4, .getfield 198), (4, 5, .iconst 1), (5, 6, .iaload), (6, 9, .multianewarray 1 12), (9, 11, .iconst (-2)), (11, 12, .ireturn), (12, 13, .aload 0), (13, 16, .getfield 198), (16, 17, .iconst 1), (17, 18, .dup2), (18, 19, .iaload), (19, 20, .iconst 1), (20, 21, .isub), (21, 22, .iastore), (22, 23, .aload 0), (23, 26, .getfield 198), (26, 27, .iconst 1), (27, 28, .iaload), (28, 29, .ireturn)]
def zc_X6_mark : List (Nat × Nat × Instr) := [(0, 1, .iload 1), (1, 2, .iconst 0), (2, 3, .iconst 5), (3, 6, .invokestatic 102), (6, 9, .multianewarray 0 17), (9, 10, .aload 0), (10, 11, .iload 2), (11, 14, .invokevirtual 120), (14, 17, .multianewarray 1 20), (17, 19, .iconst (-1000000)), (19, 20, .ireturn), (20, 21, .aload 0), (21, 22, .iload 2), (22, 25, .invokevirtual 122), (25, 26, .istore 3), (26, 27, .iload 1), (27, 60, .tableswitch 179 0 4 #[60, 72, 88, 108, 126]), (60, 61, .aload 0), (61, 62, .dup), (62, 65, .getfield 192), (65, 66, .goto_w 1), (66, 67, .ladd), (67, 70, .putfield 192), (70, 71, .iload 3), (71, 72, .ireturn), (72, 73, .aload 0), (73, 74, .dup), (74, 77, .getfield 192), (77, 80, .goto_w 11), (80, 81, .ladd), (81, 84, .putfield 192), (84, 85, .iconst 2), (85, 86, .iload 3), (86, 87, .imul), (87, 88, .ireturn), (88, 89, .aload 0), (89, 90, .dup), (90, 93, .getfield 192), (93, 96, .goto_w 101), (96, 97, .ladd), (97, 100, .putfield 192), (100, 101, .iload 3), (101, 102, .aload 0), (102, 103, .iload 2), (103, 106, .invokevirtual 127), (106, 107, .isub), (107, 108, .ireturn), (108, 109, .aload 0), (109, 110, .dup), (110, 113, .getfield 192), (113, 116, .goto_w 1011), (116, 117, .ladd), (117, 120, .putfield 192), (120, 121, .iconst 2), (121, 122, .iload 3), (122, 123, .imul), (123, 124, .iload 2), (124, 125, .iadd), (125, 126, .ireturn), (126, 127, .aload 0), (127, 128, .dup), (128, 131, .getfield 192), (131, 134, .goto_w 10101), (134, 135, .ladd), (135, 138, .putfield 192), (138, 139, .aload 0), (139, 140, .aload 0), (140, 143, .getfield 198), (143, 144, .iconst 3), (144, 145, .iload 2), (145, 146, .iadd), (146, 147, .iaload), (147, 148, .aload 0), (148, 149, .iload 2), (149, 152, .invokevirtual 123), (152, 155, .invokevirtual 137), (155, 157, .istore 4), (157, 158, .iload 3), (158, 159, .aload 0), (159, 160, .iload 2), (160, 163, .invokevirtual 127), (163, 164, .isub), (164, 166, .iload 4), (166, 168, .iconst (-9)), (168, 171, .invokeinterface 1 175), (171, 172, .iconst 0), (172, 175, .ret 177), (175, 177, .iload 4), (177, 178, .iadd), (178, 179, .ireturn), (179, 180, .aload 0), (180, 181, .dup), (181, 184, .getfield 192), (184, 187, .goto_w 100001), (187, 188, .ladd), (188, 191, .putfield 192), (191, 192, .iload 3), (192, 193, .aload 0), (193, 196, .invokevirtual 152), (196, 197, .iadd), (197, 198, .ireturn)]
def zc_X6_keep : List (Nat × Nat × Instr) := [(0, 1, .iload 1), (1, 2, .iconst 0), (2, 3, .iconst 1), (3, 6, .invokestatic 102), (6, 9, .multianewarray 1 11), (9, 10, .iconst (-1)), (10, 11, .ireturn), (11, 12, .aload 0), (12, 13, .iconst 0), (13, 15, .iconst 59), (15, 16, .iconst 2), (16, 17, .iload 1), (17, 18, .iadd), (18, 19, .imul), (19, 22, .invokevirtual 115), (22, 23, .aload 0), (23, 26, .getfield 199), (26, 27, .iload 1), (27, 28, .iconst 1), (28, 29, .bastore), (29, 30, .aload 0), (30, 33, .getfield 198), (33, 34, .iconst 1), (34, 35, .iaload), (35, 36, .ireturn)]
def zc_X6_back : List (Nat × Nat × Instr) := [(0, 1, .iload 1), (1, 2, .iconst 0), (2, 3, .iconst 1), (3, 6, .invokestatic 102), (6, 9, .multianewarray 1 11), (9, 10, .iconst (-1)), (10, 11, .ireturn), (11, 12, .aload 0), (12, 15, .getfield 199), (15, 16, .iload 1), (16, 17, .baload), (17, 20, .multianewarray 1 23), (20, 22, .iconst (-2)), (22, 23, .ireturn), (23, 24, .aload 0), (24, 26, .iconst 59), (26, 27, .iconst 2), (27, 28, .iload 1), (28, 29, .iadd), (29, 30, .imul), (30, 31, .iconst 0), (31, 34, .invokevirtual 115), (34, 35, .aload 0), (35, 38, .getfield 198), (38, 39, .iconst 1), (39, 40, .iaload), (40, 41, .ireturn)]
def zc_X6_count : List (Nat × Nat × Instr) := [(0, 1, .iload 1), (1, 40, .tableswitch 78 0 5 #[40, 47, 54, 61, 66, 73]), (40, 41, .aload 0), (41, 44, .getfield 195), (44, 45, .iconst 0), (45, 46, .iaload), (46, 47, .ireturn), (47, 48, .aload 0), (48, 51, .getfield 196), (51, 52, .iconst 0), (52, 53, .iaload), (53, 54, .ireturn), (54, 55, .aload 0), (55, 58, .getfield 197), (58, 59, .iconst 0), (59, 60, .iaload), (60, 61, .ireturn), (61, 62, .aload 0), (62, 65, .invokevirtual 152), (65, 66, .ireturn), (66, 67, .aload 0), (67, 70, .getfield 198), (70, 71, .iconst 1), (71, 72, .iaload), (72, 73, .ireturn), (73, 74, .aload 0), (74, 77, .getfield 194), (77, 78, .ireturn), (78, 79, .iconst (-1)), (79, 80, .ireturn)]
def zc_X6_trace : List (Nat × Nat × Instr) := [(0, 1, .aload 0), (1, 4, .getfield 192), (4, 5, .lreturn)]
def zc_J6_bitCount_0f7a4 : List (Nat × Nat × Instr) := [(0, 1, .iload 0), (1, 2, .iload 0), (2, 3, .iconst 1), (3, 4, .iushr), (4, 7, .iconst 1431655765), (7, 8, .iand), (8, 9, .isub), (9, 10, .istore 0), (10, 11, .iload 0), (11, 14, .iconst 858993459), (14, 15, .iand), (15, 16, .iload 0), (16, 17, .iconst 2), (17, 18, .iushr), (18, 21, .iconst 858993459), (21, 22, .iand), (22, 23, .iadd), (23, 24, .istore 0), (24, 25, .iload 0), (25, 26, .iload 0), (26, 27, .iconst 4), (27, 28, .iushr), (28, 29, .iadd), (29, 32, .iconst 252645135), (32, 33, .iand), (33, 34, .istore 0), (34, 35, .iload 0), (35, 36, .iload 0), (36, 38, .iconst 8), (38, 39, .iushr), (39, 40, .iadd), (40, 41, .istore 0), (41, 42, .iload 0), (42, 43, .iload 0), (43, 45, .iconst 16), (45, 46, .iushr), (46, 47, .iadd), (47, 48, .istore 0), (48, 49, .iload 0), (49, 51, .iconst 63), (51, 52, .iand), (52, 53, .ireturn)]
def zc_J7_fill_d0a16 : List (Nat × Nat × Instr) := [(0, 1, .iconst 0), (1, 2, .istore 3), (2, 3, .aload 0), (3, 4, .arraylength), (4, 6, .istore 4), (6, 7, .iload 3), (7, 9, .iload 4), (9, 12, .invokeinterface 3 22), (12, 13, .aload 0), (13, 14, .iload 3), (14, 15, .lload 1), (15, 16, .lastore), (16, 19, .iinc 3 1), (19, 22, .ret 6), (22, 23, .return_)]
def zc_J7_fill_53178 : List (Nat × Nat × Instr) := [(0, 1, .iconst 0), (1, 2, .istore 2), (2, 3, .aload 0), (3, 4, .arraylength), (4, 5, .istore 3), (5, 6, .iload 2), (6, 7, .iload 3), (7, 10, .invokeinterface 3 20), (10, 11, .aload 0), (11, 12, .iload 2), (12, 13, .iload 1), (13, 14, .iastore), (14, 17, .iinc 2 1), (17, 20, .ret 5), (20, 21, .return_)]
def zc_L_law : List (Nat × Nat × Instr) := [(0, 3, .new 5), (3, 4, .dup), (4, 7, .invokespecial 69), (7, 8, .astore 1), (8, 11, .new 6), (11, 12, .dup), (12, 15, .invokespecial 101), (15, 16, .astore 2), (16, 17, .iconst 0), (17, 18, .istore 3), (18, 19, .iload 3), (19, 20, .aload 0), (20, 21, .arraylength), (21, 22, .iconst 4), (22, 23, .isub), (23, 26, .invokeinterface 4 804), (26, 27, .aload 0), (27, 28, .iload 3), (28, 29, .iaload), (29, 31, .iconst 31), (31, 32, .iand), (32, 144, .tableswitch 798 0 23 #[144, 207, 220, 233, 256, 289, 322, 345, 378, 421, 465, 498, 521, 544, 567, 590, 613, 636, 669, 682, 715, 738, 761, 784]), (144, 145, .aload 1), (145, 146, .aload 0), (146, 147, .iload 3), (147, 148, .iconst 1), (148, 149, .iadd), (149, 150, .iaload), (150, 151, .i2l), (151, 153, .iconst 32), (153, 154, .lshl), (154, 155, .aload 0), (155, 156, .iload 3), (156, 157, .iconst 2), (157, 158, .iadd), (158, 159, .iaload), (159, 160, .i2l), (160, 163, .goto_w 4294967295), (163, 164, .land), (164, 165, .lor), (165, 166, .aload 0), (166, 167, .iload 3), (167, 168, .iconst 3), (168, 169, .iadd), (169, 170, .iaload), (170, 173, .invokevirtual 70), (173, 174, .aload 2), (174, 175, .aload 0), (175, 176, .iload 3), (176, 177, .iconst 1), (177, 178, .iadd), (178, 179, .iaload), (179, 180, .i2l), (180, 182, .iconst 32), (182, 183, .lshl), (183, 184, .aload 0), (184, 185, .iload 3), (185, 186, .iconst 2), (186, 187, .iadd), (187, 188, .iaload), (188, 189, .i2l), (189, 192, .goto_w 4294967295), (192, 193, .land), (193, 194, .lor), (194, 195, .aload 0), (195, 196, .iload 3), (196, 197, .iconst 3), (197, 198, .iadd), (198, 199, .iaload), (199, 202, .invokevirtual 103), (202, 205, .invokeinterface 0 798), (205, 206, .iconst 0), (206, 207, .ireturn), (207, 208, .aload 1), (208, 211, .invokevirtual 71), (211, 212, .aload 2), (212, 215, .invokevirtual 104), (215, 218, .invokeinterface 0 798), (218, 219, .iconst 0), (219, 220, .ireturn), (220, 221, .aload 1), (221, 224, .invokevirtual 72), (224, 225, .aload 2), (225, 228, .invokevirtual 114), (228, 231, .invokeinterface 0 798), (231, 232, .iconst 0), (232, 233, .ireturn), (233, 234, .aload 1), (234, 235, .aload 0), (235, 236, .iload 3), (236, 237, .iconst 1), (237, 238, .iadd), (238, 239, .iaload), (239, 242, .invokevirtual 73), (242, 243, .aload 2), (243, 244, .aload 0), (244, 245, .iload 3), (245, 246, .iconst 1), (246, 247, .iadd), (247, 248, .iaload), (248, 251, .invokevirtual 125), (251, 254, .invokeinterface 0 798), (254, 255, .iconst 0), (255, 256, .ireturn), (256, 257, .aload 1), (257, 258, .aload 0), (258, 259, .iload 3), (259, 260, .iconst 1), (260, 261, .iadd), (261, 262, .iaload), (262, 263, .aload 0), (263, 264, .iload 3), (264, 265, .iconst 2), (265, 266, .iadd), (266, 267, .iaload), (267, 270, .invokevirtual 74), (270, 271, .aload 2), (271, 272, .aload 0), (272, 273, .iload 3), (273, 274, .iconst 1), (274, 275, .iadd), (275, 276, .iaload), (276, 277, .aload 0), (277, 278, .iload 3), (278, 279, .iconst 2), (279, 280, .iadd), (280, 281, .iaload), (281, 284, .invokevirtual 128), (284, 287, .invokeinterface 0 798), (287, 288, .iconst 0), (288, 289, .ireturn), (289, 290, .aload 1), (290, 291, .aload 0), (291, 292, .iload 3), (292, 293, .iconst 1), (293, 294, .iadd), (294, 295, .iaload), (295, 296, .aload 0), (296, 297, .iload 3), (297, 298, .iconst 2), (298, 299, .iadd), (299, 300, .iaload), (300, 303, .invokevirtual 75), (303, 304, .aload 2), (304, 305, .aload 0), (305, 306, .iload 3), (306, 307, .iconst 1), (307, 308, .iadd), (308, 309, .iaload), (309, 310, .aload 0), (310, 311, .iload 3), (311, 312, .iconst 2), (312, 313, .iadd), (313, 314, .iaload), (314, 317, .invokevirtual 129), (317, 320, .invokeinterface 0 798), (320, 321, .iconst 0), (321, 322, .ireturn), (322, 323, .aload 1), (323, 324, .aload 0), (324, 325, .iload 3), (325, 326, .iconst 1), (326, 327, .iadd), (327, 328, .iaload), (328, 331, .invokevirtual 76), (331, 332, .aload 2), (332, 333, .aload 0), (333, 334, .iload 3), (334, 335, .iconst 1), (335, 336, .iadd), (336, 337, .iaload), (337, 340, .invokevirtual 131), (340, 343, .invokeinterface 0 798), (343, 344, .iconst 0), (344, 345, .ireturn), (345, 346, .aload 1), (346, 347, .aload 0), (347, 348, .iload 3), (348, 349, .iconst 1), (349, 350, .iadd), (350, 351, .iaload), (351, 352, .aload 0), (352, 353, .iload 3), (353, 354, .iconst 2), (354, 355, .iadd), (355, 356, .iaload), (356, 359, .invokevirtual 77), (359, 360, .aload 2), (360, 361, .aload 0), (361, 362, .iload 3), (362, 363, .iconst 1), (363, 364, .iadd), (364, 365, .iaload), (365, 366, .aload 0), (366, 367, .iload 3), (367, 368, .iconst 2), (368, 369, .iadd), (369, 370, .iaload), (370, 373, .invokevirtual 134), (373, 376, .invokeinterface 0 798), (376, 377, .iconst 0), (377, 378, .ireturn), (378, 379, .aload 1), (379, 380, .aload 0), (380, 381, .iload 3), (381, 382, .iconst 1), (382, 383, .iadd), (383, 384, .iaload), (384, 385, .aload 0), (385, 386, .iload 3), (386, 387, .iconst 2), (387, 388, .iadd), (388, 389, .iaload), (389, 390, .aload 0), (390, 391, .iload 3), (391, 392, .iconst 3), (392, 393, .iadd), (393, 394, .iaload), (394, 397, .invokevirtual 78), (397, 398, .aload 2), (398, 399, .aload 0), (399, 400, .iload 3), (400, 401, .iconst 1), (401, 402, .iadd), (402, 403, .iaload), (403, 404, .aload 0), (404, 405, .iload 3), (405, 406, .iconst 2), (406, 407, .iadd), (407, 408, .iaload), (408, 409, .aload 0), (409, 410, .iload 3), (410, 411, .iconst 3), (411, 412, .iadd), (412, 413, .iaload), (413, 416, .invokevirtual 138), (416, 419, .invokeinterface 0 798), (419, 420, .iconst 0), (420, 421, .ireturn), (421, 422, .aload 1), (422, 423, .aload 0), (423, 424, .iload 3), (424, 425, .iconst 1), (425, 426, .iadd), (426, 427, .iaload), (427, 428, .aload 0), (428, 429, .iload 3), (429, 430, .iconst 2), (430, 431, .iadd), (431, 432, .iaload), (432, 433, .aload 0), (433, 434, .iload 3), (434, 435, .iconst 3), (435, 436, .iadd), (436, 437, .iaload), (437, 440, .invokevirtual 79), (440, 441, .aload 2), (441, 442, .aload 0), (442, 443, .iload 3), (443, 444, .iconst 1), (444, 445, .iadd), (445, 446, .iaload), (446, 447, .aload 0), (447, 448, .iload 3), (448, 449, .iconst 2), (449, 450, .iadd), (450, 451, .iaload), (451, 452, .aload 0), (452, 453, .iload 3), (453, 454, .iconst 3), (454, 455, .iadd), (455, 456, .iaload), (456, 459, .invokevirtual 139), (459, 460, .lcmp), (460, 463, .multianewarray 0 798), (463, 464, .iconst 0), (464, 465, .ireturn), (465, 466, .aload 1), (466, 467, .aload 0), (467, 468, .iload 3), (468, 469, .iconst 1), (469, 470, .iadd), (470, 471, .iaload), (471, 472, .aload 0), (472, 473, .iload 3), (473, 474, .iconst 2), (474, 475, .iadd), (475, 476, .iaload), (476, 479, .invokevirtual 80), (479, 480, .aload 2), (480, 481, .aload 0), (481, 482, .iload 3), (482, 483, .iconst 1), (483, 484, .iadd), (484, 485, .iaload), (485, 486, .aload 0), (486, 487, .iload 3), (487, 488, .iconst 2), (488, 489, .iadd), (489, 490, .iaload), (490, 493, .invokevirtual 141), (493, 496, .invokeinterface 0 798), (496, 497, .iconst 0), (497, 498, .ireturn), (498, 499, .aload 1), (499, 500, .aload 0), (500, 501, .iload 3), (501, 502, .iconst 1), (502, 503, .iadd), (503, 504, .iaload), (504, 507, .invokevirtual 81), (507, 508, .aload 2), (508, 509, .aload 0), (509, 510, .iload 3), (510, 511, .iconst 1), (511, 512, .iadd), (512, 513, .iaload), (513, 516, .invokevirtual 147), (516, 519, .invokeinterface 0 798), (519, 520, .iconst 0), (520, 521, .ireturn), (521, 522, .aload 1), (522, 523, .aload 0), (523, 524, .iload 3), (524, 525, .iconst 1), (525, 526, .iadd), (526, 527, .iaload), (527, 530, .invokevirtual 82), (530, 531, .aload 2), (531, 532, .aload 0), (532, 533, .iload 3), (533, 534, .iconst 1), (534, 535, .iadd), (535, 536, .iaload), (536, 539, .invokevirtual 149), (539, 542, .invokeinterface 0 798), (542, 543, .iconst 0), (543, 544, .ireturn), (544, 545, .aload 1), (545, 546, .aload 0), (546, 547, .iload 3), (547, 548, .iconst 1), (548, 549, .iadd), (549, 550, .iaload), (550, 553, .invokevirtual 83), (553, 554, .aload 2), (554, 555, .aload 0), (555, 556, .iload 3), (556, 557, .iconst 1), (557, 558, .iadd), (558, 559, .iaload), (559, 562, .invokevirtual 150), (562, 565, .invokeinterface 0 798), (565, 566, .iconst 0), (566, 567, .ireturn), (567, 568, .aload 1), (568, 569, .aload 0), (569, 570, .iload 3), (570, 571, .iconst 1), (571, 572, .iadd), (572, 573, .iaload), (573, 576, .invokevirtual 84), (576, 577, .aload 2), (577, 578, .aload 0), (578, 579, .iload 3), (579, 580, .iconst 1), (580, 581, .iadd), (581, 582, .iaload), (582, 585, .invokevirtual 151), (585, 588, .invokeinterface 0 798), (588, 589, .iconst 0), (589, 590, .ireturn), (590, 591, .aload 1), (591, 592, .aload 0), (592, 593, .iload 3), (593, 594, .iconst 1), (594, 595, .iadd), (595, 596, .iaload), (596, 599, .invokevirtual 85), (599, 600, .aload 2), (600, 601, .aload 0), (601, 602, .iload 3), (602, 603, .iconst 1), (603, 604, .iadd), (604, 605, .iaload), (605, 608, .invokevirtual 153), (608, 611, .invokeinterface 0 798), (611, 612, .iconst 0), (612, 613, .ireturn), (613, 614, .aload 1), (614, 615, .aload 0), (615, 616, .iload 3), (616, 617, .iconst 1), (617, 618, .iadd), (618, 619, .iaload), (619, 622, .invokevirtual 86), (622, 623, .aload 2), (623, 624, .aload 0), (624, 625, .iload 3), (625, 626, .iconst 1), (626, 627, .iadd), (627, 628, .iaload), (628, 631, .invokevirtual 154), (631, 634, .invokeinterface 0 798), (634, 635, .iconst 0), (635, 636, .ireturn), (636, 637, .aload 1), (637, 638, .aload 0), (638, 639, .iload 3), (639, 640, .iconst 1), (640, 641, .iadd), (641, 642, .iaload), (642, 643, .aload 0), (643, 644, .iload 3), (644, 645, .iconst 2), (645, 646, .iadd), (646, 647, .iaload), (647, 650, .invokevirtual 87), (650, 651, .aload 2), (651, 652, .aload 0), (652, 653, .iload 3), (653, 654, .iconst 1), (654, 655, .iadd), (655, 656, .iaload), (656, 657, .aload 0), (657, 658, .iload 3), (658, 659, .iconst 2), (659, 660, .iadd), (660, 661, .iaload), (661, 664, .invokevirtual 158), (664, 667, .invokeinterface 0 798), (667, 668, .iconst 0), (668, 669, .ireturn), (669, 670, .aload 1), (670, 673, .invokevirtual 88), (673, 674, .aload 2), (674, 677, .invokevirtual 159), (677, 680, .invokeinterface 0 798), (680, 681, .iconst 0), (681, 682, .ireturn), (682, 683, .aload 1), (683, 684, .aload 0), (684, 685, .iload 3), (685, 686, .iconst 1), (686, 687, .iadd), (687, 688, .iaload), (688, 689, .aload 0), (689, 690, .iload 3), (690, 691, .iconst 2), (691, 692, .iadd), (692, 693, .iaload), (693, 696, .invokevirtual 89), (696, 697, .aload 2), (697, 698, .aload 0), (698, 699, .iload 3), (699, 700, .iconst 1), (700, 701, .iadd), (701, 702, .iaload), (702, 703, .aload 0), (703, 704, .iload 3), (704, 705, .iconst 2), (705, 706, .iadd), (706, 707, .iaload), (707, 710, .invokevirtual 160), (710, 713, .invokeinterface 0 798), (713, 714, .iconst 0), (714, 715, .ireturn), (715, 716, .aload 1), (716, 717, .aload 0), (717, 718, .iload 3), (718, 719, .iconst 1), (719, 720, .iadd), (720, 721, .iaload), (721, 724, .invokevirtual 90), (724, 725, .aload 2), (725, 726, .aload 0), (726, 727, .iload 3), (727, 728, .iconst 1), (728, 729, .iadd), (729, 730, .iaload), (730, 733, .invokevirtual 161), (733, 736, .invokeinterface 0 798), (736, 737, .iconst 0), (737, 738, .ireturn), (738, 739, .aload 1), (739, 740, .aload 0), (740, 741, .iload 3), (741, 742, .iconst 1), (742, 743, .iadd), (743, 744, .iaload), (744, 747, .invokevirtual 91), (747, 748, .aload 2), (748, 749, .aload 0), (749, 750, .iload 3), (750, 751, .iconst 1), (751, 752, .iadd), (752, 753, .iaload), (753, 756, .invokevirtual 162), (756, 759, .invokeinterface 0 798), (759, 760, .iconst 0), (760, 761, .ireturn), (761, 762, .aload 1), (762, 763, .aload 0), (763, 764, .iload 3), (764, 765, .iconst 1), (765, 766, .iadd), (766, 767, .iaload), (767, 770, .invokevirtual 92), (770, 771, .aload 2), (771, 772, .aload 0), (772, 773, .iload 3), (773, 774, .iconst 1), (774, 775, .iadd), (775, 776, .iaload), (776, 779, .invokevirtual 163), (779, 782, .invokeinterface 0 798), (782, 783, .iconst 0), (783, 784, .ireturn), (784, 785, .aload 1), (785, 788, .invokevirtual 93), (788, 789, .aload 2), (789, 792, .invokevirtual 164), (792, 793, .lcmp), (793, 796, .multianewarray 0 798), (796, 797, .iconst 0), (797, 798, .ireturn), (798, 801, .iinc 3 4), (801, 804, .ret 18), (804, 805, .iconst 1), (805, 806, .ireturn)]
def z_prog0 : List (List (Nat × Nat × Instr)) := [zc_X0_init, zc_X0_copyFrom, zc_X0_addStep, zc_X0_stepAt, zc_X0_takeFigures, zc_X0_runUpTo, zc_X0_firstRun, zc_X0_longestRun, zc_X0_straightAt, zc_X0_joins, zc_X1_init, zc_X1_append, zc_X1_begin, zc_X1_isAtEnd, zc_X1_readItem, zc_X1_readYard]
def z_prog1 : List (List (Nat × Nat × Instr)) := [zc_X1_readOnCell, zc_X1_endHouse, zc_X1_endChain, zc_X1_takeSteps, zc_X1_directionOf, zc_X1_nextCell, zc_X1_nextNumber, zc_X1_nextSemicolon, zc_X1_isWord, zc_X1_nextToken, zc_X1_takeNumber, zc_X1_byteAt, zc_X1_isLetter, zc_X1_isFigure, zc_X2_init, zc_X2_beginAnew]
def z_prog2 : List (List (Nat × Nat × Instr)) := [zc_X2_copyFrom, zc_X2_has, zc_X2_isHouse, zc_X2_isFree, zc_X2_isTrodden, zc_X2_isOpen, zc_X2_trodden, zc_X2_openCells, zc_X2_houseCount, zc_X2_chainAt, zc_X2_beside, zc_X2_walkOver, zc_X2_joinsAny, zc_X2_addChain, zc_X3_init, zc_X3_shortest]
def z_prog3 : List (List (Nat × Nat × Instr)) := [zc_X3_fillRow, zc_X3_howMany, zc_X3_goOneStep, zc_X3_mended, zc_X3_fewestFrom, zc_X3_fillMended, zc_X3_differsBy, zc_X3_lookAt, zc_X3_startOn, zc_X3_after, zc_X4_init, zc_X4_look, zc_X4_lookAlong, zc_X4_harmOf, zc_X4_harmOfAll, zc_X4_longest]
def z_prog4 : List (List (Nat × Nat × Instr)) := [zc_X4_fewestHedges, zc_X4_findStretches, zc_X4_cellsOf, zc_X4_breakAll, zc_X4_placeHedges, zc_X5_init, zc_X5_type, zc_X5_clear, zc_X5_yard, zc_X5_cell, zc_X5_chain, zc_X5_step, zc_X5_straight, zc_X5_joint, zc_X5_way, zc_X5_ways]
def z_prog5 : List (List (Nat × Nat × Instr)) := [zc_X5_mend, zc_X5_lines, zc_X5_hedges, zc_X5_gusts, zc_X5_lot, zc_X5_build, zc_X5_raze, zc_X5_street, zc_X5_close, zc_X5_mark, zc_X5_keep, zc_X5_back, zc_X5_count, zc_X5_trace, zc_X5_markAsChain, zc_X5_markAsWall]
def z_prog6 : List (List (Nat × Nat × Instr)) := [zc_X5_markAsWay, zc_X5_markAsDoor, zc_X5_markAsGlance, zc_X5_markAsRope, zc_X5_ofRow, zc_X6_init, zc_X6_in, zc_X6_type, zc_X6_clear, zc_X6_here, zc_X6_next, zc_X6_due, zc_X6_number, zc_X6_off, zc_X6_stepOf, zc_X6_goesOn]
def z_prog7 : List (List (Nat × Nat × Instr)) := [zc_X6_readChain, zc_X6_readItem, zc_X6_yard, zc_X6_copy, zc_X6_cells, zc_X6_isCell, zc_X6_isHouse, zc_X6_isFree, zc_X6_isChain, zc_X6_stepIn, zc_X6_steps, zc_X6_lastCell, zc_X6_onChains, zc_X6_cell, zc_X6_runAt, zc_X6_longest]
def z_prog8 : List (List (Nat × Nat × Instr)) := [zc_X6_chain, zc_X6_step, zc_X6_straightOf, zc_X6_straight, zc_X6_firstRun, zc_X6_isJoint, zc_X6_joint, zc_X6_after, zc_X6_findSteps, zc_X6_stepsOf, zc_X6_way, zc_X6_ways, zc_X6_findMend, zc_X6_mend, zc_X6_openNow, zc_X6_findLine]
def z_prog9 : List (List (Nat × Nat × Instr)) := [zc_X6_findLines, zc_X6_harmOf, zc_X6_harmBy, zc_X6_lines, zc_X6_findHedges, zc_X6_hedges, zc_X6_gusts, zc_X6_lot, zc_X6_houses, zc_X6_build, zc_X6_raze, zc_X6_isStreet, zc_X6_toldRun, zc_X6_isBent, zc_X6_street, zc_X6_close]
def z_prog10 : List (List (Nat × Nat × Instr)) := [zc_X6_mark, zc_X6_keep, zc_X6_back, zc_X6_count, zc_X6_trace, zc_J6_bitCount_0f7a4, zc_J7_fill_d0a16, zc_J7_fill_53178, zc_L_law]
def z_prog : List (List (List (Nat × Nat × Instr))) := [z_prog0, z_prog1, z_prog2, z_prog3, z_prog4, z_prog5, z_prog6, z_prog7, z_prog8, z_prog9, z_prog10]
def z_look : List (Nat × Nat × Instr) → Nat → Option (Nat × Instr)
  | [], _ => none
  | q :: t, pc => if q.1 = pc then some q.2 else z_look t pc
def z_code (y pc : Nat) : Option (Nat × Instr) := z_look ((z_prog.getD (y / 16) []).getD (y % 16) []) pc
/-- name, bytes, locals, answer, how many arguments besides the receiver, class of the receiver (99: static) -/
abbrev ZMI : Type := MethodName × ByteArray × Nat × Option FieldType × Nat × Nat
def z_mt0 : List ZMI := [(yX0_init, cX0_init, 1, none, 0, 0), (yX0_copyFrom, cX0_copyFrom, 2, none, 1, 0), (yX0_addStep, cX0_addStep, 2, (some (.boolean)), 1, 0), (yX0_stepAt, cX0_stepAt, 2, (some (.int)), 1, 0), (yX0_takeFigures, cX0_takeFigures, 4, (some (.boolean)), 1, 0), (yX0_runUpTo, cX0_runUpTo, 4, (some (.int)), 1, 0), (yX0_firstRun, cX0_firstRun, 2, (some (.int)), 0, 0), (yX0_longestRun, cX0_longestRun, 3, (some (.int)), 0, 0), (yX0_straightAt, cX0_straightAt, 3, (some (.int)), 1, 0), (yX0_joins, cX0_joins, 3, (some (.boolean)), 2, 0), (yX1_init, cX1_init, 1, none, 0, 1), (yX1_append, cX1_append, 2, none, 1, 1), (yX1_begin, cX1_begin, 1, none, 0, 1), (yX1_isAtEnd, cX1_isAtEnd, 1, (some (.boolean)), 0, 1), (yX1_readItem, cX1_readItem, 2, (some (.boolean)), 0, 1), (yX1_readYard, cX1_readYard, 1, (some (.boolean)), 0, 1)]
def z_mt1 : List ZMI := [(yX1_readOnCell, cX1_readOnCell, 4, (some (.boolean)), 0, 1), (yX1_endHouse, cX1_endHouse, 2, (some (.boolean)), 1, 1), (yX1_endChain, cX1_endChain, 2, (some (.boolean)), 1, 1), (yX1_takeSteps, cX1_takeSteps, 2, (some (.boolean)), 0, 1), (yX1_directionOf, cX1_directionOf, 1, (some (.int)), 1, 99), (yX1_nextCell, cX1_nextCell, 2, (some (.int)), 0, 1), (yX1_nextNumber, cX1_nextNumber, 3, (some (.boolean)), 2, 1), (yX1_nextSemicolon, cX1_nextSemicolon, 1, (some (.boolean)), 0, 1), (yX1_isWord, cX1_isWord, 3, (some (.boolean)), 1, 1), (yX1_nextToken, cX1_nextToken, 2, none, 0, 1), (yX1_takeNumber, cX1_takeNumber, 2, (some (.boolean)), 0, 1), (yX1_byteAt, cX1_byteAt, 2, (some (.int)), 1, 1), (yX1_isLetter, cX1_isLetter, 1, (some (.boolean)), 1, 99), (yX1_isFigure, cX1_isFigure, 1, (some (.boolean)), 1, 99), (yX2_init, cX2_init, 2, none, 0, 2), (yX2_beginAnew, cX2_beginAnew, 1, none, 0, 2)]
def z_mt2 : List ZMI := [(yX2_copyFrom, cX2_copyFrom, 3, none, 1, 2), (yX2_has, cX2_has, 2, (some (.boolean)), 1, 2), (yX2_isHouse, cX2_isHouse, 2, (some (.boolean)), 1, 2), (yX2_isFree, cX2_isFree, 2, (some (.boolean)), 1, 2), (yX2_isTrodden, cX2_isTrodden, 2, (some (.boolean)), 1, 2), (yX2_isOpen, cX2_isOpen, 2, (some (.boolean)), 1, 2), (yX2_trodden, cX2_trodden, 3, (some (.int)), 0, 2), (yX2_openCells, cX2_openCells, 1, (some (.int)), 0, 2), (yX2_houseCount, cX2_houseCount, 1, (some (.int)), 0, 2), (yX2_chainAt, cX2_chainAt, 2, (some (.object "BentYards$Chain")), 1, 2), (yX2_beside, cX2_beside, 5, (some (.int)), 2, 2), (yX2_walkOver, cX2_walkOver, 5, (some (.boolean)), 1, 2), (yX2_joinsAny, cX2_joinsAny, 3, (some (.boolean)), 1, 2), (yX2_addChain, cX2_addChain, 2, (some (.boolean)), 1, 2), (yX3_init, cX3_init, 1, none, 0, 3), (yX3_shortest, cX3_shortest, 11, (some (.int)), 3, 3)]
def z_mt3 : List ZMI := [(yX3_fillRow, cX3_fillRow, 5, none, 2, 3), (yX3_howMany, cX3_howMany, 10, (some (.long)), 4, 3), (yX3_goOneStep, cX3_goOneStep, 6, none, 2, 3), (yX3_mended, cX3_mended, 6, (some (.int)), 2, 3), (yX3_fewestFrom, cX3_fewestFrom, 6, (some (.int)), 3, 3), (yX3_fillMended, cX3_fillMended, 6, none, 2, 3), (yX3_differsBy, cX3_differsBy, 6, (some (.int)), 4, 3), (yX3_lookAt, cX3_lookAt, 5, none, 1, 3), (yX3_startOn, cX3_startOn, 1, (some (.int)), 1, 99), (yX3_after, cX3_after, 7, (some (.int)), 2, 3), (yX4_init, cX4_init, 1, none, 0, 4), (yX4_look, cX4_look, 3, none, 1, 4), (yX4_lookAlong, cX4_lookAlong, 8, none, 3, 4), (yX4_harmOf, cX4_harmOf, 2, (some (.int)), 1, 4), (yX4_harmOfAll, cX4_harmOfAll, 3, (some (.int)), 0, 4), (yX4_longest, cX4_longest, 3, (some (.int)), 0, 4)]
def z_mt4 : List ZMI := [(yX4_fewestHedges, cX4_fewestHedges, 2, (some (.int)), 0, 4), (yX4_findStretches, cX4_findStretches, 4, none, 0, 4), (yX4_cellsOf, cX4_cellsOf, 5, (some (.int)), 2, 4), (yX4_breakAll, cX4_breakAll, 3, (some (.boolean)), 1, 4), (yX4_placeHedges, cX4_placeHedges, 6, (some (.boolean)), 4, 99), (yX5_init, cX5_init, 2, none, 0, 5), (yX5_type, cX5_type, 5, (some (.int)), 2, 5), (yX5_clear, cX5_clear, 2, (some (.int)), 0, 5), (yX5_yard, cX5_yard, 3, (some (.int)), 0, 5), (yX5_cell, cX5_cell, 2, (some (.int)), 1, 5), (yX5_chain, cX5_chain, 4, (some (.int)), 2, 5), (yX5_step, cX5_step, 4, (some (.int)), 2, 5), (yX5_straight, cX5_straight, 3, (some (.int)), 1, 5), (yX5_joint, cX5_joint, 5, (some (.int)), 2, 5), (yX5_way, cX5_way, 5, (some (.int)), 3, 5), (yX5_ways, cX5_ways, 4, (some (.long)), 3, 5)]
def z_mt5 : List ZMI := [(yX5_mend, cX5_mend, 4, (some (.int)), 2, 5), (yX5_lines, cX5_lines, 3, (some (.int)), 1, 5), (yX5_hedges, cX5_hedges, 3, (some (.int)), 1, 5), (yX5_gusts, cX5_gusts, 4, (some (.int)), 1, 5), (yX5_lot, cX5_lot, 3, (some (.int)), 1, 5), (yX5_build, cX5_build, 2, (some (.int)), 1, 5), (yX5_raze, cX5_raze, 2, (some (.int)), 1, 5), (yX5_street, cX5_street, 3, (some (.int)), 2, 5), (yX5_close, cX5_close, 1, (some (.int)), 0, 5), (yX5_mark, cX5_mark, 4, (some (.int)), 2, 5), (yX5_keep, cX5_keep, 2, (some (.int)), 1, 5), (yX5_back, cX5_back, 2, (some (.int)), 1, 5), (yX5_count, cX5_count, 2, (some (.int)), 1, 5), (yX5_trace, cX5_trace, 1, (some (.long)), 0, 5), (yX5_markAsChain, cX5_markAsChain, 2, (some (.int)), 1, 5), (yX5_markAsWall, cX5_markAsWall, 2, (some (.int)), 1, 5)]
def z_mt6 : List ZMI := [(yX5_markAsWay, cX5_markAsWay, 2, (some (.int)), 1, 5), (yX5_markAsDoor, cX5_markAsDoor, 3, (some (.int)), 2, 5), (yX5_markAsGlance, cX5_markAsGlance, 3, (some (.int)), 1, 5), (yX5_markAsRope, cX5_markAsRope, 2, (some (.int)), 1, 5), (yX5_ofRow, cX5_ofRow, 4, (some (.int)), 4, 99), (yX6_init, cX6_init, 1, none, 0, 6), (yX6_in, cX6_in, 3, (some (.boolean)), 3, 99), (yX6_type, cX6_type, 5, (some (.int)), 2, 6), (yX6_clear, cX6_clear, 2, (some (.int)), 0, 6), (yX6_here, cX6_here, 1, (some (.int)), 0, 6), (yX6_next, cX6_next, 3, none, 0, 6), (yX6_due, cX6_due, 3, (some (.int)), 1, 6), (yX6_number, cX6_number, 3, (some (.int)), 2, 6), (yX6_off, cX6_off, 6, (some (.int)), 3, 6), (yX6_stepOf, cX6_stepOf, 1, (some (.int)), 1, 99), (yX6_goesOn, cX6_goesOn, 5, (some (.boolean)), 0, 6)]
def z_mt7 : List ZMI := [(yX6_readChain, cX6_readChain, 5, none, 0, 6), (yX6_readItem, cX6_readItem, 5, none, 1, 6), (yX6_yard, cX6_yard, 2, (some (.int)), 0, 6), (yX6_copy, cX6_copy, 4, none, 2, 6), (yX6_cells, cX6_cells, 1, (some (.int)), 0, 6), (yX6_isCell, cX6_isCell, 2, (some (.boolean)), 1, 6), (yX6_isHouse, cX6_isHouse, 2, (some (.boolean)), 1, 6), (yX6_isFree, cX6_isFree, 2, (some (.boolean)), 1, 6), (yX6_isChain, cX6_isChain, 2, (some (.boolean)), 1, 6), (yX6_stepIn, cX6_stepIn, 3, (some (.int)), 2, 6), (yX6_steps, cX6_steps, 2, (some (.int)), 1, 6), (yX6_lastCell, cX6_lastCell, 4, (some (.int)), 1, 6), (yX6_onChains, cX6_onChains, 5, (some (.int)), 0, 6), (yX6_cell, cX6_cell, 2, (some (.int)), 1, 6), (yX6_runAt, cX6_runAt, 4, (some (.int)), 2, 6), (yX6_longest, cX6_longest, 4, (some (.int)), 1, 6)]
def z_mt8 : List ZMI := [(yX6_chain, cX6_chain, 3, (some (.int)), 2, 6), (yX6_step, cX6_step, 3, (some (.int)), 2, 6), (yX6_straightOf, cX6_straightOf, 3, (some (.int)), 1, 6), (yX6_straight, cX6_straight, 2, (some (.int)), 1, 6), (yX6_firstRun, cX6_firstRun, 3, (some (.int)), 1, 6), (yX6_isJoint, cX6_isJoint, 4, (some (.boolean)), 2, 6), (yX6_joint, cX6_joint, 3, (some (.int)), 2, 6), (yX6_after, cX6_after, 6, (some (.int)), 2, 6), (yX6_findSteps, cX6_findSteps, 6, none, 1, 6), (yX6_stepsOf, cX6_stepsOf, 3, (some (.int)), 2, 6), (yX6_way, cX6_way, 8, (some (.int)), 3, 6), (yX6_ways, cX6_ways, 7, (some (.long)), 3, 6), (yX6_findMend, cX6_findMend, 9, none, 1, 6), (yX6_mend, cX6_mend, 7, (some (.int)), 2, 6), (yX6_openNow, cX6_openNow, 1, (some (.int)), 0, 6), (yX6_findLine, cX6_findLine, 8, none, 3, 6)]
def z_mt9 : List ZMI := [(yX6_findLines, cX6_findLines, 4, none, 1, 6), (yX6_harmOf, cX6_harmOf, 2, (some (.int)), 1, 6), (yX6_harmBy, cX6_harmBy, 4, (some (.int)), 1, 6), (yX6_lines, cX6_lines, 5, (some (.int)), 1, 6), (yX6_findHedges, cX6_findHedges, 7, (some (.boolean)), 1, 6), (yX6_hedges, cX6_hedges, 3, (some (.int)), 1, 6), (yX6_gusts, cX6_gusts, 4, (some (.int)), 1, 6), (yX6_lot, cX6_lot, 3, (some (.int)), 1, 6), (yX6_houses, cX6_houses, 3, (some (.int)), 0, 6), (yX6_build, cX6_build, 2, (some (.int)), 1, 6), (yX6_raze, cX6_raze, 2, (some (.int)), 1, 6), (yX6_isStreet, cX6_isStreet, 6, (some (.boolean)), 2, 6), (yX6_toldRun, cX6_toldRun, 4, (some (.int)), 2, 6), (yX6_isBent, cX6_isBent, 7, (some (.boolean)), 1, 6), (yX6_street, cX6_street, 5, (some (.int)), 2, 6), (yX6_close, cX6_close, 1, (some (.int)), 0, 6)]
def z_mt10 : List ZMI := [(yX6_mark, cX6_mark, 5, (some (.int)), 2, 6), (yX6_keep, cX6_keep, 2, (some (.int)), 1, 6), (yX6_back, cX6_back, 2, (some (.int)), 1, 6), (yX6_count, cX6_count, 2, (some (.int)), 1, 6), (yX6_trace, cX6_trace, 1, (some (.long)), 0, 6), (yJ6_bitCount_0f7a4, cJ6_bitCount_0f7a4, 1, (some (.int)), 1, 99), (yJ7_fill_d0a16, cJ7_fill_d0a16, 5, none, 2, 99), (yJ7_fill_53178, cJ7_fill_53178, 4, none, 2, 99), (yL_law, cL_law, 4, (some .boolean), 1, 99)]
def z_mtab : List (List ZMI) := [z_mt0, z_mt1, z_mt2, z_mt3, z_mt4, z_mt5, z_mt6, z_mt7, z_mt8, z_mt9, z_mt10]
def z_mt (y : Nat) : ZMI := (z_mtab.getD (y / 16) []).getD (y % 16) (yL_law, cL_law, 0, none, 0, 99)
end
section
/-! THE SMALL MACHINE: the resolved code over a list of cells. A reference is a cell's place in the list; from 1000 on: the script (1000), the words 'yard', 'house', 'chain' (1001 ..). -/
abbrev ZA : Type := (Nat → Int32) ⊕ ((Nat → Int64) ⊕ (Nat → Option Nat))
/-- a cell: an object (class, fields), or a row (sort, length, contents); sorts: 0 int, 1 byte, 2 boolean, 3 long, 4 Chain, 5 Site -/
abbrev ZE : Type := (Nat × List Value) ⊕ (Nat × Nat × ZA)
abbrev ZM : Type := List ZE
abbrev ZL : Type := List (Option Value)
abbrev ZS : Type := Nat × (Nat → Int32)
/-- what a step comes to: the next place, an answer, or a call (method, arguments, rest of the stack, where it goes on) -/
abbrev ZR : Type := (Nat × ZL × List Value × ZM) ⊕ (Option Value ⊕ (Nat × List Value × List Value × Nat))
def z_cc (c : Nat) (x y : Int32) : Bool := match c with
  | 0 => decide (x = y)
  | 1 => !decide (x = y)
  | 2 => decide (x < y)
  | 3 => decide (y ≤ x)
  | 4 => decide (y < x)
  | _ => decide (x ≤ y)
def z_in (i : Int32) (n : Nat) : Bool := !(decide (i < 0) || decide (n ≤ i.toNatClampNeg))
def z_fty (ci k : Nat) : FieldType := match ci with
  | 0 => tyX0 k
  | 1 => tyX1 k
  | 2 => tyX2 k
  | 3 => tyX3 k
  | 4 => tyX4 k
  | 5 => tyX5 k
  | _ => tyX6 k
def z_cls (ci : Nat) : vw_C := vwCl.getD ci (RX6, TX6, 25)
/-- may a value stand in a field of this type: as it is, no narrowing -/
def z_fit (t : FieldType) (v : Value) : Bool := match t, v with
  | .int, .int _ => true
  | .long, .long _ => true
  | .object _, .ref _ => true
  | .array _, .ref _ => true
  | _, _ => false
def z_dfl (t : FieldType) : Value := match t with
  | .int => .int 0
  | .long => .long 0
  | _ => .null
/-- a store cuts a long in two that lies over its place -/
def z_cut (ls : ZL) (i : Nat) : ZL := match i with
  | 0 => ls
  | j + 1 => match ls[j]? with
    | some (some v) => if v.category = 2 then ls.set j none else ls
    | _ => ls
def z_st1 (ls : ZL) (i : Nat) (v : Value) : ZL := (z_cut ls i).set i (some v)
def z_st2 (ls : ZL) (i : Nat) (v : Value) : ZL := ((z_cut ls i).set (i + 1) none).set i (some v)
def z_wlen (k : Nat) : Nat := match k with
  | 0 => 4
  | _ => 5
def z_wch (k : Nat) : List Int32 := match k with
  | 0 => [121, 97, 114, 100]
  | 1 => [104, 111, 117, 115, 101]
  | _ => [99, 104, 97, 105, 110]
def z_cat (st : List Value) : Bool := decide ((st.map fun v => v.category).sum ≤ 8)
def z_fin (ci k : Nat) : Bool := ((z_cls ci).2.1 k).2.2.2
def z_ini (y ci : Nat) : Bool := decide ((z_mt y).1.name = "<init>") && decide ((z_mt y).2.2.2.2.2 = ci)
/-- may the answer be given as it is -/
def z_rok (y : Nat) (v : Value) : Bool := match (z_mt y).2.2.2.1, v with
  | some .int, .int _ => true
  | some .boolean, .int x => decide (x = 0) || decide (x = 1)
  | some .long, .long _ => true
  | some (.object _), .ref _ => true
  | some (.object _), .null => true
  | _, _ => false
def z_stp (S : ZS) (y : Nat) (i : Instr) (nx : Nat) (ls : ZL) (st : List Value) (M : ZM) : Option ZR :=
  match i with
  | .iconst n => some (.inl (nx, ls, .int (Int32.ofInt n) :: st, M))
  | .goto_w n => some (.inl (nx, ls, .long (Int64.ofInt n) :: st, M))
  | .aconst_null => some (.inl (nx, ls, .null :: st, M))
  | .ldc k => if k < 3 then some (.inl (nx, ls, .ref (1001 + k) :: st, M)) else none
  | .iload k => match ls[k]? with
    | some (some (.int x)) => some (.inl (nx, ls, .int x :: st, M))
    | _ => none
  | .lload k => match ls[k]? with
    | some (some (.long x)) => some (.inl (nx, ls, .long x :: st, M))
    | _ => none
  | .aload k => match ls[k]? with
    | some (some (.ref x)) => some (.inl (nx, ls, .ref x :: st, M))
    | some (some .null) => some (.inl (nx, ls, .null :: st, M))
    | _ => none
  | .istore k => match st with
    | .int x :: r => if k < ls.length then some (.inl (nx, z_st1 ls k (.int x), r, M)) else none
    | _ => none
  | .lstore k => match st with
    | .long x :: r => if k + 1 < ls.length then some (.inl (nx, z_st2 ls k (.long x), r, M)) else none
    | _ => none
  | .astore k => match st with
    | .ref x :: r => if k < ls.length then some (.inl (nx, z_st1 ls k (.ref x), r, M)) else none
    | .null :: r => if k < ls.length then some (.inl (nx, z_st1 ls k .null, r, M)) else none
    | _ => none
  | .iinc k n => match ls[k]? with
    | some (some (.int x)) => some (.inl (nx, z_st1 ls k (.int (x + Int32.ofInt n)), st, M))
    | _ => none
  | .iadd => match st with
    | .int b :: .int a :: r => some (.inl (nx, ls, .int (a + b) :: r, M))
    | _ => none
  | .isub => match st with
    | .int b :: .int a :: r => some (.inl (nx, ls, .int (a - b) :: r, M))
    | _ => none
  | .imul => match st with
    | .int b :: .int a :: r => some (.inl (nx, ls, .int (a * b) :: r, M))
    | _ => none
  | .iand => match st with
    | .int b :: .int a :: r => some (.inl (nx, ls, .int (a &&& b) :: r, M))
    | _ => none
  | .ior => match st with
    | .int b :: .int a :: r => some (.inl (nx, ls, .int (a ||| b) :: r, M))
    | _ => none
  | .ixor => match st with
    | .int b :: .int a :: r => some (.inl (nx, ls, .int (a ^^^ b) :: r, M))
    | _ => none
  | .idiv => match st with
    | .int b :: .int a :: r => if b = 0 then none else some (.inl (nx, ls, .int (a / b) :: r, M))
    | _ => none
  | .irem => match st with
    | .int b :: .int a :: r => if b = 0 then none else some (.inl (nx, ls, .int (a - a / b * b) :: r, M))
    | _ => none
  | .ishl => match st with
    | .int b :: .int a :: r => some (.inl (nx, ls, .int (a <<< (b &&& 31)) :: r, M))
    | _ => none
  | .ishr => match st with
    | .int b :: .int a :: r => some (.inl (nx, ls, .int (a >>> (b &&& 31)) :: r, M))
    | _ => none
  | .iushr => match st with
    | .int b :: .int a :: r => some (.inl (nx, ls, .int ((a.toUInt32 >>> (b.toUInt32 &&& Int32.toUInt32 31)).toInt32) :: r, M))
    | _ => none
  | .ladd => match st with
    | .long b :: .long a :: r => some (.inl (nx, ls, .long (a + b) :: r, M))
    | _ => none
  | .land => match st with
    | .long b :: .long a :: r => some (.inl (nx, ls, .long (a &&& b) :: r, M))
    | _ => none
  | .lor => match st with
    | .long b :: .long a :: r => some (.inl (nx, ls, .long (a ||| b) :: r, M))
    | _ => none
  | .lshl => match st with
    | .int b :: .long a :: r => some (.inl (nx, ls, .long (a <<< (b.toInt64 &&& 63)) :: r, M))
    | _ => none
  | .lshr => match st with
    | .int b :: .long a :: r => some (.inl (nx, ls, .long (a >>> (b.toInt64 &&& 63)) :: r, M))
    | _ => none
  | .lushr => match st with
    | .int b :: .long a :: r => some (.inl (nx, ls, .long ((a.toUInt64 >>> (b.toInt64.toUInt64 &&& Int64.toUInt64 63)).toInt64) :: r, M))
    | _ => none
  | .lcmp => match st with
    | .long b :: .long a :: r => some (.inl (nx, ls, .int (lg_cmp a b) :: r, M))
    | _ => none
  | .i2l => match st with
    | .int a :: r => some (.inl (nx, ls, .long a.toInt64 :: r, M))
    | _ => none
  | .l2i => match st with
    | .long a :: r => some (.inl (nx, ls, .int a.toInt32 :: r, M))
    | _ => none
  | .i2b => match st with
    | .int a :: r => some (.inl (nx, ls, .int a.toInt8.toInt32 :: r, M))
    | _ => none
  | .dup => match st with
    | v :: r => if v.category = 1 then some (.inl (nx, ls, v :: v :: r, M)) else none
    | _ => none
  | .dup2 => match st with
    | v :: w :: r => if v.category = 1 ∧ w.category = 1 then some (.inl (nx, ls, v :: w :: v :: w :: r, M)) else none
    | _ => none
  | .pop => match st with
    | v :: r => if v.category = 1 then some (.inl (nx, ls, r, M)) else none
    | _ => none
  | .ret t => some (.inl (t, ls, st, M))
  | .invokeinterface c t => match st with
    | .int b :: .int a :: r => some (.inl (if z_cc c a b = true then t else nx, ls, r, M))
    | _ => none
  | .multianewarray c t => match st with
    | .int a :: r => some (.inl (if z_cc c a 0 = true then t else nx, ls, r, M))
    | _ => none
  | .dload t => match st with
    | .ref _ :: r => some (.inl (nx, ls, r, M))
    | .null :: r => some (.inl (t, ls, r, M))
    | _ => none
  | .dstore t => match st with
    | .ref _ :: r => some (.inl (t, ls, r, M))
    | .null :: r => some (.inl (nx, ls, r, M))
    | _ => none
  | .tableswitch d lo hi offs => match st with
    | .int x :: r => if x.toInt < lo ∨ hi < x.toInt then some (.inl (d.toNat, ls, r, M)) else match offs[(x.toInt - lo).toNat]? with
      | some o => some (.inl (o.toNat, ls, r, M))
      | none => none
    | _ => none
  | .lookupswitch d ps => match st with
    | .int x :: r => some (.inl ((Op.lookupswitch.offset ps.toList d x.toInt).toNat, ls, r, M))
    | _ => none
  | .getfield k => match st with
    | .ref a :: r => match M[a]? with
      | some (.inl (ci, fs)) => if ci = k / 32 then match fs[k % 32]? with
          | some v => some (.inl (nx, ls, v :: r, M))
          | none => none
        else none
      | _ => none
    | _ => none
  | .putfield k => match st with
    | v :: .ref a :: r => match M[a]? with
      | some (.inl (ci, fs)) => if ci = k / 32 ∧ k % 32 < fs.length ∧ z_fit (z_fty ci (k % 32)) v = true ∧ (z_fin ci (k % 32) = false ∨ z_ini y ci = true) then some (.inl (nx, ls, r, M.set a (.inl (ci, fs.set (k % 32) v)))) else none
      | _ => none
    | _ => none
  | .iaload => match st with
    | .int i :: .ref a :: r => if a = 1000 then (if z_in i S.1 = true then some (.inl (nx, ls, .int (S.2 i.toNatClampNeg) :: r, M)) else none) else match M[a]? with
      | some (.inr (0, n, .inl f)) => if z_in i n = true then some (.inl (nx, ls, .int (f i.toNatClampNeg) :: r, M)) else none
      | _ => none
    | _ => none
  | .baload => match st with
    | .int i :: .ref a :: r => match M[a]? with
      | some (.inr (1, n, .inl f)) => if z_in i n = true then some (.inl (nx, ls, .int (f i.toNatClampNeg) :: r, M)) else none
      | some (.inr (2, n, .inl f)) => if z_in i n = true then some (.inl (nx, ls, .int (f i.toNatClampNeg) :: r, M)) else none
      | _ => none
    | _ => none
  | .laload => match st with
    | .int i :: .ref a :: r => match M[a]? with
      | some (.inr (3, n, .inr (.inl f))) => if z_in i n = true then some (.inl (nx, ls, .long (f i.toNatClampNeg) :: r, M)) else none
      | _ => none
    | _ => none
  | .aaload => match st with
    | .int i :: .ref a :: r => match M[a]? with
      | some (.inr (4, n, .inr (.inr f))) => if z_in i n = true then some (.inl (nx, ls, va_rf (f i.toNatClampNeg) :: r, M)) else none
      | some (.inr (5, n, .inr (.inr f))) => if z_in i n = true then some (.inl (nx, ls, va_rf (f i.toNatClampNeg) :: r, M)) else none
      | _ => none
    | _ => none
  | .iastore => match st with
    | .int x :: .int i :: .ref a :: r => match M[a]? with
      | some (.inr (0, n, .inl f)) => if z_in i n = true then some (.inl (nx, ls, r, M.set a (.inr (0, n, .inl (upd f i.toNatClampNeg x))))) else none
      | _ => none
    | _ => none
  | .bastore => match st with
    | .int x :: .int i :: .ref a :: r => match M[a]? with
      | some (.inr (1, n, .inl f)) => if z_in i n = true then some (.inl (nx, ls, r, M.set a (.inr (1, n, .inl (upd f i.toNatClampNeg (vp_nar .byte x)))))) else none
      | some (.inr (2, n, .inl f)) => if z_in i n = true then some (.inl (nx, ls, r, M.set a (.inr (2, n, .inl (upd f i.toNatClampNeg (vp_nar .boolean x)))))) else none
      | _ => none
    | _ => none
  | .lastore => match st with
    | .long x :: .int i :: .ref a :: r => match M[a]? with
      | some (.inr (3, n, .inr (.inl f))) => if z_in i n = true then some (.inl (nx, ls, r, M.set a (.inr (3, n, .inr (.inl (vp_updL f i.toNatClampNeg x)))))) else none
      | _ => none
    | _ => none
  | .aastore => match st with
    | .ref x :: .int i :: .ref a :: r => match M[a]?, M[x]? with
      | some (.inr (4, n, .inr (.inr f))), some (.inl (0, _)) => if z_in i n = true then some (.inl (nx, ls, r, M.set a (.inr (4, n, .inr (.inr (va_up f i.toNatClampNeg (some x))))))) else none
      | some (.inr (5, n, .inr (.inr f))), some (.inl (2, _)) => if z_in i n = true then some (.inl (nx, ls, r, M.set a (.inr (5, n, .inr (.inr (va_up f i.toNatClampNeg (some x))))))) else none
      | _, _ => none
    | _ => none
  | .arraylength => match st with
    | .ref a :: r => if a = 1000 then some (.inl (nx, ls, .int (Int32.ofNat S.1) :: r, M)) else match M[a]? with
      | some (.inr (0, n, .inl _)) => some (.inl (nx, ls, .int (Int32.ofNat n) :: r, M))
      | some (.inr (3, n, .inr (.inl _))) => some (.inl (nx, ls, .int (Int32.ofNat n) :: r, M))
      | _ => none
    | _ => none
  | .newarray t => match st with
    | .int n :: r => if decide (n < 0) || decide (5000 < n.toNatClampNeg) || decide (900 ≤ M.length) then none else match t with
      | .int => some (.inl (nx, ls, .ref M.length :: r, M ++ [.inr (0, n.toNatClampNeg, .inl (fun _ => 0))]))
      | .byte => some (.inl (nx, ls, .ref M.length :: r, M ++ [.inr (1, n.toNatClampNeg, .inl (fun _ => 0))]))
      | .boolean => some (.inl (nx, ls, .ref M.length :: r, M ++ [.inr (2, n.toNatClampNeg, .inl (fun _ => 0))]))
      | .long => some (.inl (nx, ls, .ref M.length :: r, M ++ [.inr (3, n.toNatClampNeg, .inr (.inl (fun _ => 0)))]))
      | _ => none
    | _ => none
  | .anewarray t => match st with
    | .int n :: r => if decide (n < 0) || decide (5000 < n.toNatClampNeg) || decide (900 ≤ M.length) then none else match t with
      | 4 => some (.inl (nx, ls, .ref M.length :: r, M ++ [.inr (4, n.toNatClampNeg, .inr (.inr (fun _ => none)))]))
      | 5 => some (.inl (nx, ls, .ref M.length :: r, M ++ [.inr (5, n.toNatClampNeg, .inr (.inr (fun _ => none)))]))
      | _ => none
    | _ => none
  | .new ci => if ci < 7 ∧ M.length < 900 then some (.inl (nx, ls, .ref M.length :: st, M ++ [.inl (ci, (List.range (z_cls ci).2.2).map (fun k => z_dfl (z_fty ci k)))])) else none
  | .monitorenter => match st with
    | .ref _ :: r => if z_cat r = true then some (.inl (nx, ls, r, M)) else none
    | _ => none
  | .athrow => match st with
    | .int n :: .int dp :: .ref b :: .int sp :: .ref a :: r => match M[a]?, M[b]? with
      | some (.inr (0, n0, .inl f)), some (.inr (0, n1, .inl g)) => if sp < 0 ∨ dp < 0 ∨ n < 0 ∨ n0 < sp.toNatClampNeg + n.toNatClampNeg ∨ n1 < dp.toNatClampNeg + n.toNatClampNeg ∨ z_cat r = false then none
        else some (.inl (nx, ls, r, M.set b (.inr (0, n1, .inl (va_cpy f g sp.toNatClampNeg dp.toNatClampNeg n.toNatClampNeg)))))
      | _, _ => none
    | _ => none
  | .dadd => match st with
    | .int b :: .int a :: r => if z_cat r = true then some (.inl (nx, ls, .int (if a < b then b else a) :: r, M)) else none
    | _ => none
  | .dsub => match st with
    | .int b :: .int a :: r => if z_cat r = true then some (.inl (nx, ls, .int (if b < a then b else a) :: r, M)) else none
    | _ => none
  | .saload => match st with
    | .ref a :: r => if 1001 ≤ a ∧ a < 1004 ∧ z_cat r = true then some (.inl (nx, ls, .int (Int32.ofNat (z_wlen (a - 1001))) :: r, M)) else none
    | _ => none
  | .sastore => match st with
    | .int i :: .ref a :: r => if 1001 ≤ a ∧ a < 1004 ∧ z_in i (z_wlen (a - 1001)) = true ∧ z_cat r = true then some (.inl (nx, ls, .int ((z_wch (a - 1001)).getD i.toNatClampNeg 0) :: r, M)) else none
    | _ => none
  | .ireturn => match st with
    | [.int v] => if z_rok y (.int v) = true then some (.inr (.inl (some (.int v)))) else none
    | _ => none
  | .lreturn => match st with
    | [.long v] => if z_rok y (.long v) = true then some (.inr (.inl (some (.long v)))) else none
    | _ => none
  | .areturn => match st with
    | [.ref a] => if z_rok y (.ref a) = true then some (.inr (.inl (some (.ref a)))) else none
    | [.null] => if z_rok y .null = true then some (.inr (.inl (some .null))) else none
    | _ => none
  | .return_ => match st, (z_mt y).2.2.2.1 with
    | [], none => some (.inr (.inl none))
    | _, _ => none
  | .invokestatic k => if (z_mt k).2.2.2.2.1 ≤ st.length ∧ (z_mt k).2.2.2.2.2 = 99 ∧ z_cat (st.drop (z_mt k).2.2.2.2.1) = true then some (.inr (.inr (k, (st.take (z_mt k).2.2.2.2.1).reverse, st.drop (z_mt k).2.2.2.2.1, nx))) else none
  | .invokevirtual k => match st.drop (z_mt k).2.2.2.2.1 with
    | .ref a :: r => match M[a]? with
      | some (.inl (ci, _)) => if ci = (z_mt k).2.2.2.2.2 ∧ ci < 7 ∧ z_cat r = true then some (.inr (.inr (k, .ref a :: (st.take (z_mt k).2.2.2.2.1).reverse, r, nx))) else none
      | _ => none
    | _ => none
  | .invokespecial k => match st.drop (z_mt k).2.2.2.2.1 with
    | .ref a :: r => if z_cat r = true ∧ (z_mt k).1.name = "<init>" ∧ (z_mt k).2.2.2.1 = none then some (.inr (.inr (k, .ref a :: (st.take (z_mt k).2.2.2.2.1).reverse, r, nx))) else none
    | _ => none
  | _ => none
def z_sl : List Value → ZL
  | [] => []
  | v :: t => if v.category = 2 then some v :: none :: z_sl t else some v :: z_sl t
def z_ent (as : List Value) (n : Nat) : ZL := z_sl as ++ List.replicate (n - (z_sl as).length) none
/-- at most n steps, calls at most d deep: the answer and the cells behind it -/
def z_xm (S : ZS) : Nat → Nat → Nat → Nat → ZL → List Value → ZM → Option (Option Value × ZM)
  | 0, _, _, _, _, _, _ => none
  | n + 1, d, y, pc, ls, st, M => match z_code y pc with
    | none => none
    | some (nx, i) => match z_stp S y i nx ls st M with
      | none => none
      | some (.inl (pc', ls', st', M')) => z_xm S n d y pc' ls' st' M'
      | some (.inr (.inl r)) => some (r, M)
      | some (.inr (.inr (y', as, rest, nx'))) => match d with
        | 0 => none
        | d' + 1 => if (z_sl as).length ≤ (z_mt y').2.2.1 then match z_xm S n d' y' 0 (z_ent as (z_mt y').2.2.1) [] M with
          | none => none
          | some (r, M') => z_xm S n (d' + 1) y nx' ls (r.toList ++ rest) M'
          else none
end
section
/-! the resolved code says what the bytes and the tables say -/
def z_w (w : Cond) : Bool := lw_tbl.contains w && goodWord w
def z_strs : List (Nat × Nat) := [(48, 0), (80, 1), (85, 2)]
def z_cnd (c : Nat) : ClassFile.Cond := match c with
  | 0 => .eq
  | 1 => .ne
  | 2 => .lt
  | 3 => .ge
  | 4 => .gt
  | _ => .le
def z_dq (bs : ByteArray) (pc nx : Nat) (i : Instr) (len : Nat) : Bool := decide (decode bs pc = .ok (i, len)) && decide (nx = pc + len)
def z_fl (own : String) (idx k : Nat) : Bool := decide (k / 32 < 7) && decide (k % 32 < (z_cls (k / 32)).2.2) && z_w (.fieldLink own idx ((z_cls (k / 32)).2.1 (k % 32)).1 ((z_cls (k / 32)).2.1 (k % 32)).2.1 ((z_cls (k / 32)).2.1 (k % 32)).2.2.1)
def z_par (y : MethodName) (n : Nat) : Bool := decide ((parseMethodDescriptor y.desc).map (fun d => d.parameters.length) = some n)
/-- what every method's row of the table says -/
def z_mok (k : Nat) : Bool := decide (k < 168) && z_w (.initialized (z_mt k).1.cls) && decide ((z_mt k).1.cls ≠ "java/lang/invoke/MethodHandle") && decide ((z_mt k).1.cls ≠ "java/lang/invoke/VarHandle") && z_par (z_mt k).1 (z_mt k).2.2.2.2.1 && plainName (z_mt k).1.cls && decide ((z_mt k).2.2.1 ≤ 30)
def z_rel (bs : ByteArray) (own : String) (pc nx : Nat) (j : Instr) : Bool :=
  match j with
  | .iconst n => z_dq bs pc nx (.iconst n) 1 || (match decode bs pc with
    | .ok (.bipush k, 2) => decide (nx = pc + 2) && decide ((Int8.ofInt k).toInt32 = Int32.ofInt n)
    | .ok (.sipush k, 3) => decide (nx = pc + 3) && decide ((Int16.ofInt k).toInt32 = Int32.ofInt n)
    | .ok (.ldc k, 2) => decide (nx = pc + 2) && z_w (.constant own k (Int32.ofInt n))
    | .ok (.ldc_w k, 3) => decide (nx = pc + 3) && z_w (.constant own k (Int32.ofInt n))
    | _ => false)
  | .goto_w n => (match decode bs pc with
    | .ok (.lconst k, 1) => decide (nx = pc + 1) && decide (Int64.ofNat (k : Nat) = Int64.ofInt n)
    | .ok (.ldc2_w k, 3) => decide (nx = pc + 3) && z_w (.constantLong own k (Int64.ofInt n))
    | _ => false)
  | .ldc k => (match decode bs pc with
    | .ok (.ldc q, 2) => decide (nx = pc + 2) && decide (own = RX1) && decide ((q, k) ∈ z_strs)
    | _ => false)
  | .iload k => z_dq bs pc nx (.iload k) 2 || (decide (k < 4) && z_dq bs pc nx (.iload_n (Fin.ofNat 4 k)) 1)
  | .lload k => z_dq bs pc nx (.lload k) 2 || (decide (k < 4) && z_dq bs pc nx (.lload_n (Fin.ofNat 4 k)) 1)
  | .aload k => z_dq bs pc nx (.aload k) 2 || (decide (k < 4) && z_dq bs pc nx (.aload_n (Fin.ofNat 4 k)) 1)
  | .istore k => z_dq bs pc nx (.istore k) 2 || (decide (k < 4) && z_dq bs pc nx (.istore_n (Fin.ofNat 4 k)) 1)
  | .lstore k => z_dq bs pc nx (.lstore k) 2 || (decide (k < 4) && z_dq bs pc nx (.lstore_n (Fin.ofNat 4 k)) 1)
  | .astore k => z_dq bs pc nx (.astore k) 2 || (decide (k < 4) && z_dq bs pc nx (.astore_n (Fin.ofNat 4 k)) 1)
  | .iinc k n => z_dq bs pc nx (.iinc k n) 3
  | .ret t => z_dq bs pc nx (.goto ((t : Int) - (pc : Int))) 3
  | .invokeinterface c t => decide (c < 6) && z_dq bs pc nx (.if_icmp (z_cnd c) ((t : Int) - (pc : Int))) 3
  | .multianewarray c t => decide (c < 6) && z_dq bs pc nx (.ifCond (z_cnd c) ((t : Int) - (pc : Int))) 3
  | .dload t => z_dq bs pc nx (.ifnull ((t : Int) - (pc : Int))) 3
  | .dstore t => z_dq bs pc nx (.ifnonnull ((t : Int) - (pc : Int))) 3
  | .tableswitch d lo hi offs => decide (0 ≤ d) && offs.all (fun o => decide (0 ≤ o)) && (match decode bs pc with
    | .ok (.tableswitch d' lo' hi' offs', _) => decide (lo = lo') && decide (hi = hi') && decide (d' + (pc : Int) = d) && decide (offs'.map (fun o => o + (pc : Int)) = offs)
    | _ => false)
  | .lookupswitch d ps => decide (0 ≤ d) && ps.all (fun o => decide (0 ≤ o.2)) && (match decode bs pc with
    | .ok (.lookupswitch d' ps', _) => (ps'.toList.zip (ps'.toList.drop 1)).all (fun (a, next) => a.1 < next.1) && decide (d' + (pc : Int) = d) && decide (ps'.toList.map (fun o => (o.1, o.2 + (pc : Int))) = ps.toList)
    | _ => false)
  | .getfield k => (match decode bs pc with
    | .ok (.getfield q, 3) => decide (nx = pc + 3) && z_fl own q k
    | _ => false)
  | .putfield k => (match decode bs pc with
    | .ok (.putfield q, 3) => decide (nx = pc + 3) && z_fl own q k && decide (parseFieldDescriptor ((z_cls (k / 32)).2.1 (k % 32)).2.2.1 = some (z_fty (k / 32) (k % 32))) && (!z_fin (k / 32) (k % 32) || decide (((z_cls (k / 32)).2.1 (k % 32)).1 = own))
    | _ => false)
  | .new ci => (match decode bs pc with
    | .ok (.new q, 3) => decide (nx = pc + 3) && z_w (.classLink own q (z_cls ci).1) && z_w (.instantiable (z_cls ci).1 (z_cls ci).2.2) && z_w (.initialized (z_cls ci).1)
    | _ => false)
  | .anewarray t => (match decode bs pc with
    | .ok (.anewarray q, 3) => decide (nx = pc + 3) && ((decide (t = 4) && z_w (.classLink own q RX0)) || (decide (t = 5) && z_w (.classLink own q RX2)))
    | _ => false)
  | .newarray t => z_dq bs pc nx (.newarray t) 2 && (decide (t = .int) || decide (t = .byte) || decide (t = .boolean) || decide (t = .long)) && z_w (.arrayClass (newarray.typeOf t))
  | .monitorenter => (match decode bs pc with
    | .ok (.invokespecial q, 3) => decide (nx = pc + 3) && z_w (.methodLink own q objectInit) && z_w (.instanceMethod objectInit) && z_w (.code objectInit ⟨#[0xb1]⟩ 1 none)
    | _ => false)
  | .athrow => (match decode bs pc with
    | .ok (.invokestatic q, 3) => decide (nx = pc + 3) && z_w (.methodLink own q arraycopyName) && z_w (.native arraycopyName) && z_w (.static arraycopyName) && z_w (.initialized "java/lang/System")
    | _ => false)
  | .dadd => (match decode bs pc with
    | .ok (.invokestatic q, 3) => decide (nx = pc + 3) && z_w (.methodLink own q Lib.Math.max.name) && z_w (.static Lib.Math.max.name) && z_w (.initialized "java/lang/Math")
    | _ => false)
  | .dsub => (match decode bs pc with
    | .ok (.invokestatic q, 3) => decide (nx = pc + 3) && z_w (.methodLink own q Lib.Math.min.name) && z_w (.static Lib.Math.min.name) && z_w (.initialized "java/lang/Math")
    | _ => false)
  | .saload => (match decode bs pc with
    | .ok (.invokevirtual q, 3) => decide (nx = pc + 3) && z_w (.methodLink own q ⟨"java/lang/String", "length", "()I"⟩)
    | _ => false)
  | .sastore => (match decode bs pc with
    | .ok (.invokevirtual q, 3) => decide (nx = pc + 3) && z_w (.methodLink own q ⟨"java/lang/String", "charAt", "(I)C"⟩)
    | _ => false)
  | .invokestatic k => (match decode bs pc with
    | .ok (.invokestatic q, 3) => decide (nx = pc + 3) && z_mok k && z_w (.methodLink own q (z_mt k).1) && z_w (.static (z_mt k).1)
    | _ => false)
  | .invokevirtual k => (match decode bs pc with
    | .ok (.invokevirtual q, 3) => decide (nx = pc + 3) && z_mok k && z_w (.methodLink own q (z_mt k).1) && z_w (.instanceMethod (z_mt k).1) && z_w (.selects (z_mt k).1.cls (z_mt k).1 (z_mt k).1) && decide ((z_cls (z_mt k).2.2.2.2.2).1 = (z_mt k).1.cls)
    | _ => false)
  | .invokespecial k => (match decode bs pc with
    | .ok (.invokespecial q, 3) => decide (nx = pc + 3) && z_mok k && z_w (.methodLink own q (z_mt k).1) && z_w (.instanceMethod (z_mt k).1)
    | _ => false)
  | .ireturn | .lreturn | .areturn | .return_ | .iadd | .isub | .imul | .iand | .ior | .ixor | .idiv | .irem | .ishl | .ishr | .iushr | .ladd | .land | .lor | .lshl | .lshr | .lushr | .lcmp | .i2l | .l2i | .i2b | .dup | .dup2 | .pop | .aconst_null | .iaload | .baload | .laload | .aaload | .iastore | .bastore | .lastore | .aastore | .arraylength => z_dq bs pc nx j 1
  | _ => false
def z_tab (y : Nat) : List (Nat × Nat × Instr) := (z_prog.getD (y / 16) []).getD (y % 16) []
def z_chl (y : Nat) (l : List (Nat × Nat × Instr)) : Bool := l.all (fun q => z_rel (z_mt y).2.1 (z_mt y).1.cls q.1 q.2.1 q.2.2)
def z_chk (y : Nat) : Bool := z_chl y (z_tab y)
def z_gw : List Cond := lw_tbl.filter goodWord
theorem z_w_of {w : Cond} (h : z_w w = true) : w ∈ z_gw := by
  unfold z_w at h
  simp only [Bool.and_eq_true] at h
  exact List.mem_filter.mpr ⟨List.contains_iff_mem.mp h.1, h.2⟩
theorem z_look_mem {l : List (Nat × Nat × Instr)} {pc : Nat} {q : Nat × Instr} (h : z_look l pc = some q) : (pc, q) ∈ l := by
  induction l with
  | nil => cases h
  | cons x t ih =>
    unfold z_look at h
    split at h
    · rename_i hx
      cases h
      exact List.mem_cons.mpr (Or.inl (by rw [← hx]))
    · exact List.mem_cons.mpr (Or.inr (ih h))
theorem z_rel_of {y pc nx : Nat} {i : Instr} (hk : z_chk y = true) (hc : z_code y pc = some (nx, i)) : z_rel (z_mt y).2.1 (z_mt y).1.cls pc nx i = true := List.all_eq_true.mp hk (pc, nx, i) (z_look_mem hc)
theorem z_dq_of {bs : ByteArray} {pc nx len : Nat} {i : Instr} (h : z_dq bs pc nx i len = true) : decode bs pc = .ok (i, len) ∧ nx = pc + len := by
  unfold z_dq at h
  simp only [Bool.and_eq_true, decide_eq_true_eq] at h
  exact h

theorem z_m1 {w : Cond} (h : w ∈ tables_1_1) : w ∈ lw_tbl := List.mem_append_right _ (List.mem_append_left _ h)
theorem z_m2 {w : Cond} (h : w ∈ tables_1_2) : w ∈ lw_tbl := List.mem_append_right _ (List.mem_append_right _ (List.mem_append_left _ h))
theorem z_m3 {w : Cond} (h : w ∈ tables_1_3) : w ∈ lw_tbl := List.mem_append_right _ (List.mem_append_right _ (List.mem_append_right _ (List.mem_append_left _ h)))
theorem z_m4 {w : Cond} (h : w ∈ tables_1_4) : w ∈ lw_tbl := List.mem_append_right _ (List.mem_append_right _ (List.mem_append_right _ (List.mem_append_right _ (List.mem_append_left _ h))))
theorem z_m5 {w : Cond} (h : w ∈ tables_1_5) : w ∈ lw_tbl := List.mem_append_right _ (List.mem_append_right _ (List.mem_append_right _ (List.mem_append_right _ (List.mem_append_right _ (h)))))
set_option maxRecDepth 100000 in
theorem z_cw_X1_readYard : Cond.code yX1_readYard cX1_readYard 1 (some (.boolean)) ∈ lw_tbl := z_m2 (List.mem_of_getElem? (i := 118) rfl)
set_option maxRecDepth 100000 in
theorem z_cw_X1_readItem : Cond.code yX1_readItem cX1_readItem 2 (some (.boolean)) ∈ lw_tbl := z_m2 (List.mem_of_getElem? (i := 61) rfl)
set_option maxRecDepth 100000 in
theorem z_cw_X1_isAtEnd : Cond.code yX1_isAtEnd cX1_isAtEnd 1 (some (.boolean)) ∈ lw_tbl := z_m2 (List.mem_of_getElem? (i := 57) rfl)
set_option maxRecDepth 100000 in
theorem z_cw_X1_begin : Cond.code yX1_begin cX1_begin 1 none ∈ lw_tbl := z_m2 (List.mem_of_getElem? (i := 38) rfl)
set_option maxRecDepth 100000 in
theorem z_cw_X1_append : Cond.code yX1_append cX1_append 2 none ∈ lw_tbl := z_m2 (List.mem_of_getElem? (i := 26) rfl)
set_option maxRecDepth 100000 in
theorem z_cw_X1_init : Cond.code yX1_init cX1_init 1 none ∈ lw_tbl := z_m1 (List.mem_of_getElem? (i := 113) rfl)
set_option maxRecDepth 100000 in
theorem z_cw_X0_joins : Cond.code yX0_joins cX0_joins 3 (some (.boolean)) ∈ lw_tbl := z_m3 (List.mem_of_getElem? (i := 16) rfl)
set_option maxRecDepth 100000 in
theorem z_cw_X0_straightAt : Cond.code yX0_straightAt cX0_straightAt 3 (some (.int)) ∈ lw_tbl := z_m3 (List.mem_of_getElem? (i := 8) rfl)
set_option maxRecDepth 100000 in
theorem z_cw_X0_longestRun : Cond.code yX0_longestRun cX0_longestRun 3 (some (.int)) ∈ lw_tbl := z_m2 (List.mem_of_getElem? (i := 227) rfl)
set_option maxRecDepth 100000 in
theorem z_cw_X0_firstRun : Cond.code yX0_firstRun cX0_firstRun 2 (some (.int)) ∈ lw_tbl := z_m3 (List.mem_of_getElem? (i := 20) rfl)
set_option maxRecDepth 100000 in
theorem z_cw_X0_runUpTo : Cond.code yX0_runUpTo cX0_runUpTo 4 (some (.int)) ∈ lw_tbl := z_m2 (List.mem_of_getElem? (i := 231) rfl)
set_option maxRecDepth 100000 in
theorem z_cw_X0_takeFigures : Cond.code yX0_takeFigures cX0_takeFigures 4 (some (.boolean)) ∈ lw_tbl := z_m3 (List.mem_of_getElem? (i := 182) rfl)
set_option maxRecDepth 100000 in
theorem z_cw_X0_stepAt : Cond.code yX0_stepAt cX0_stepAt 2 (some (.int)) ∈ lw_tbl := z_m2 (List.mem_of_getElem? (i := 175) rfl)
set_option maxRecDepth 100000 in
theorem z_cw_X0_addStep : Cond.code yX0_addStep cX0_addStep 2 (some (.boolean)) ∈ lw_tbl := z_m2 (List.mem_of_getElem? (i := 166) rfl)
set_option maxRecDepth 100000 in
theorem z_cw_X0_copyFrom : Cond.code yX0_copyFrom cX0_copyFrom 2 none ∈ lw_tbl := z_m2 (List.mem_of_getElem? (i := 191) rfl)
set_option maxRecDepth 100000 in
theorem z_cw_X0_init : Cond.code yX0_init cX0_init 1 none ∈ lw_tbl := z_m1 (List.mem_of_getElem? (i := 35) rfl)
theorem z_cwc0 : ∀ q ∈ z_mt0, Cond.code q.1 q.2.1 q.2.2.1 q.2.2.2.1 ∈ lw_tbl := List.forall_mem_cons.mpr ⟨z_cw_X0_init, List.forall_mem_cons.mpr ⟨z_cw_X0_copyFrom, List.forall_mem_cons.mpr ⟨z_cw_X0_addStep, List.forall_mem_cons.mpr ⟨z_cw_X0_stepAt, List.forall_mem_cons.mpr ⟨z_cw_X0_takeFigures, List.forall_mem_cons.mpr ⟨z_cw_X0_runUpTo, List.forall_mem_cons.mpr ⟨z_cw_X0_firstRun, List.forall_mem_cons.mpr ⟨z_cw_X0_longestRun, List.forall_mem_cons.mpr ⟨z_cw_X0_straightAt, List.forall_mem_cons.mpr ⟨z_cw_X0_joins, List.forall_mem_cons.mpr ⟨z_cw_X1_init, List.forall_mem_cons.mpr ⟨z_cw_X1_append, List.forall_mem_cons.mpr ⟨z_cw_X1_begin, List.forall_mem_cons.mpr ⟨z_cw_X1_isAtEnd, List.forall_mem_cons.mpr ⟨z_cw_X1_readItem, List.forall_mem_cons.mpr ⟨z_cw_X1_readYard, fun _ h => absurd h List.not_mem_nil⟩⟩⟩⟩⟩⟩⟩⟩⟩⟩⟩⟩⟩⟩⟩⟩
set_option maxRecDepth 100000 in
theorem z_cw_X2_beginAnew : Cond.code yX2_beginAnew cX2_beginAnew 1 none ∈ lw_tbl := z_m1 (List.mem_of_getElem? (i := 69) rfl)
set_option maxRecDepth 100000 in
theorem z_cw_X2_init : Cond.code yX2_init cX2_init 2 none ∈ lw_tbl := z_m1 (List.mem_of_getElem? (i := 28) rfl)
set_option maxRecDepth 100000 in
theorem z_cw_X1_isFigure : Cond.code yX1_isFigure cX1_isFigure 1 (some (.boolean)) ∈ lw_tbl := z_m2 (List.mem_of_getElem? (i := 53) rfl)
set_option maxRecDepth 100000 in
theorem z_cw_X1_isLetter : Cond.code yX1_isLetter cX1_isLetter 1 (some (.boolean)) ∈ lw_tbl := z_m2 (List.mem_of_getElem? (i := 50) rfl)
set_option maxRecDepth 100000 in
theorem z_cw_X1_byteAt : Cond.code yX1_byteAt cX1_byteAt 2 (some (.int)) ∈ lw_tbl := z_m2 (List.mem_of_getElem? (i := 47) rfl)
set_option maxRecDepth 100000 in
theorem z_cw_X1_takeNumber : Cond.code yX1_takeNumber cX1_takeNumber 2 (some (.boolean)) ∈ lw_tbl := z_m2 (List.mem_of_getElem? (i := 126) rfl)
set_option maxRecDepth 100000 in
theorem z_cw_X1_nextToken : Cond.code yX1_nextToken cX1_nextToken 2 none ∈ lw_tbl := z_m2 (List.mem_of_getElem? (i := 43) rfl)
set_option maxRecDepth 100000 in
theorem z_cw_X1_isWord : Cond.code yX1_isWord cX1_isWord 3 (some (.boolean)) ∈ lw_tbl := z_m2 (List.mem_of_getElem? (i := 66) rfl)
set_option maxRecDepth 100000 in
theorem z_cw_X1_nextSemicolon : Cond.code yX1_nextSemicolon cX1_nextSemicolon 1 (some (.boolean)) ∈ lw_tbl := z_m2 (List.mem_of_getElem? (i := 133) rfl)
set_option maxRecDepth 100000 in
theorem z_cw_X1_nextNumber : Cond.code yX1_nextNumber cX1_nextNumber 3 (some (.boolean)) ∈ lw_tbl := z_m2 (List.mem_of_getElem? (i := 122) rfl)
set_option maxRecDepth 100000 in
theorem z_cw_X1_nextCell : Cond.code yX1_nextCell cX1_nextCell 2 (some (.int)) ∈ lw_tbl := z_m2 (List.mem_of_getElem? (i := 143) rfl)
set_option maxRecDepth 100000 in
theorem z_cw_X1_directionOf : Cond.code yX1_directionOf cX1_directionOf 1 (some (.int)) ∈ lw_tbl := z_m2 (List.mem_of_getElem? (i := 162) rfl)
set_option maxRecDepth 100000 in
theorem z_cw_X1_takeSteps : Cond.code yX1_takeSteps cX1_takeSteps 2 (some (.boolean)) ∈ lw_tbl := z_m2 (List.mem_of_getElem? (i := 159) rfl)
set_option maxRecDepth 100000 in
theorem z_cw_X1_endChain : Cond.code yX1_endChain cX1_endChain 2 (some (.boolean)) ∈ lw_tbl := z_m2 (List.mem_of_getElem? (i := 151) rfl)
set_option maxRecDepth 100000 in
theorem z_cw_X1_endHouse : Cond.code yX1_endHouse cX1_endHouse 2 (some (.boolean)) ∈ lw_tbl := z_m2 (List.mem_of_getElem? (i := 147) rfl)
set_option maxRecDepth 100000 in
theorem z_cw_X1_readOnCell : Cond.code yX1_readOnCell cX1_readOnCell 4 (some (.boolean)) ∈ lw_tbl := z_m2 (List.mem_of_getElem? (i := 137) rfl)
theorem z_cwc1 : ∀ q ∈ z_mt1, Cond.code q.1 q.2.1 q.2.2.1 q.2.2.2.1 ∈ lw_tbl := List.forall_mem_cons.mpr ⟨z_cw_X1_readOnCell, List.forall_mem_cons.mpr ⟨z_cw_X1_endHouse, List.forall_mem_cons.mpr ⟨z_cw_X1_endChain, List.forall_mem_cons.mpr ⟨z_cw_X1_takeSteps, List.forall_mem_cons.mpr ⟨z_cw_X1_directionOf, List.forall_mem_cons.mpr ⟨z_cw_X1_nextCell, List.forall_mem_cons.mpr ⟨z_cw_X1_nextNumber, List.forall_mem_cons.mpr ⟨z_cw_X1_nextSemicolon, List.forall_mem_cons.mpr ⟨z_cw_X1_isWord, List.forall_mem_cons.mpr ⟨z_cw_X1_nextToken, List.forall_mem_cons.mpr ⟨z_cw_X1_takeNumber, List.forall_mem_cons.mpr ⟨z_cw_X1_byteAt, List.forall_mem_cons.mpr ⟨z_cw_X1_isLetter, List.forall_mem_cons.mpr ⟨z_cw_X1_isFigure, List.forall_mem_cons.mpr ⟨z_cw_X2_init, List.forall_mem_cons.mpr ⟨z_cw_X2_beginAnew, fun _ h => absurd h List.not_mem_nil⟩⟩⟩⟩⟩⟩⟩⟩⟩⟩⟩⟩⟩⟩⟩⟩
set_option maxRecDepth 100000 in
theorem z_cw_X3_shortest : Cond.code yX3_shortest cX3_shortest 11 (some (.int)) ∈ lw_tbl := z_m3 (List.mem_of_getElem? (i := 29) rfl)
set_option maxRecDepth 100000 in
theorem z_cw_X3_init : Cond.code yX3_init cX3_init 1 none ∈ lw_tbl := z_m1 (List.mem_of_getElem? (i := 156) rfl)
set_option maxRecDepth 100000 in
theorem z_cw_X2_addChain : Cond.code yX2_addChain cX2_addChain 2 (some (.boolean)) ∈ lw_tbl := z_m2 (List.mem_of_getElem? (i := 187) rfl)
set_option maxRecDepth 100000 in
theorem z_cw_X2_joinsAny : Cond.code yX2_joinsAny cX2_joinsAny 3 (some (.boolean)) ∈ lw_tbl := z_m3 (List.mem_of_getElem? (i := 190) rfl)
set_option maxRecDepth 100000 in
theorem z_cw_X2_walkOver : Cond.code yX2_walkOver cX2_walkOver 5 (some (.boolean)) ∈ lw_tbl := z_m2 (List.mem_of_getElem? (i := 170) rfl)
set_option maxRecDepth 100000 in
theorem z_cw_X2_beside : Cond.code yX2_beside cX2_beside 5 (some (.int)) ∈ lw_tbl := z_m2 (List.mem_of_getElem? (i := 179) rfl)
set_option maxRecDepth 100000 in
theorem z_cw_X2_chainAt : Cond.code yX2_chainAt cX2_chainAt 2 (some (.object "BentYards$Chain")) ∈ lw_tbl := z_m2 (List.mem_of_getElem? (i := 223) rfl)
set_option maxRecDepth 100000 in
theorem z_cw_X2_houseCount : Cond.code yX2_houseCount cX2_houseCount 1 (some (.int)) ∈ lw_tbl := z_m3 (List.mem_of_getElem? (i := 164) rfl)
set_option maxRecDepth 100000 in
theorem z_cw_X2_openCells : Cond.code yX2_openCells cX2_openCells 1 (some (.int)) ∈ lw_tbl := z_m3 (List.mem_of_getElem? (i := 101) rfl)
set_option maxRecDepth 100000 in
theorem z_cw_X2_trodden : Cond.code yX2_trodden cX2_trodden 3 (some (.int)) ∈ lw_tbl := z_m2 (List.mem_of_getElem? (i := 215) rfl)
set_option maxRecDepth 100000 in
theorem z_cw_X2_isOpen : Cond.code yX2_isOpen cX2_isOpen 2 (some (.boolean)) ∈ lw_tbl := z_m3 (List.mem_of_getElem? (i := 159) rfl)
set_option maxRecDepth 100000 in
theorem z_cw_X2_isTrodden : Cond.code yX2_isTrodden cX2_isTrodden 2 (some (.boolean)) ∈ lw_tbl := z_m2 (List.mem_of_getElem? (i := 211) rfl)
set_option maxRecDepth 100000 in
theorem z_cw_X2_isFree : Cond.code yX2_isFree cX2_isFree 2 (some (.boolean)) ∈ lw_tbl := z_m2 (List.mem_of_getElem? (i := 155) rfl)
set_option maxRecDepth 100000 in
theorem z_cw_X2_isHouse : Cond.code yX2_isHouse cX2_isHouse 2 (some (.boolean)) ∈ lw_tbl := z_m2 (List.mem_of_getElem? (i := 207) rfl)
set_option maxRecDepth 100000 in
theorem z_cw_X2_has : Cond.code yX2_has cX2_has 2 (some (.boolean)) ∈ lw_tbl := z_m2 (List.mem_of_getElem? (i := 183) rfl)
set_option maxRecDepth 100000 in
theorem z_cw_X2_copyFrom : Cond.code yX2_copyFrom cX2_copyFrom 3 none ∈ lw_tbl := z_m2 (List.mem_of_getElem? (i := 198) rfl)
theorem z_cwc2 : ∀ q ∈ z_mt2, Cond.code q.1 q.2.1 q.2.2.1 q.2.2.2.1 ∈ lw_tbl := List.forall_mem_cons.mpr ⟨z_cw_X2_copyFrom, List.forall_mem_cons.mpr ⟨z_cw_X2_has, List.forall_mem_cons.mpr ⟨z_cw_X2_isHouse, List.forall_mem_cons.mpr ⟨z_cw_X2_isFree, List.forall_mem_cons.mpr ⟨z_cw_X2_isTrodden, List.forall_mem_cons.mpr ⟨z_cw_X2_isOpen, List.forall_mem_cons.mpr ⟨z_cw_X2_trodden, List.forall_mem_cons.mpr ⟨z_cw_X2_openCells, List.forall_mem_cons.mpr ⟨z_cw_X2_houseCount, List.forall_mem_cons.mpr ⟨z_cw_X2_chainAt, List.forall_mem_cons.mpr ⟨z_cw_X2_beside, List.forall_mem_cons.mpr ⟨z_cw_X2_walkOver, List.forall_mem_cons.mpr ⟨z_cw_X2_joinsAny, List.forall_mem_cons.mpr ⟨z_cw_X2_addChain, List.forall_mem_cons.mpr ⟨z_cw_X3_init, List.forall_mem_cons.mpr ⟨z_cw_X3_shortest, fun _ h => absurd h List.not_mem_nil⟩⟩⟩⟩⟩⟩⟩⟩⟩⟩⟩⟩⟩⟩⟩⟩
set_option maxRecDepth 100000 in
theorem z_cw_X4_longest : Cond.code yX4_longest cX4_longest 3 (some (.int)) ∈ lw_tbl := z_m3 (List.mem_of_getElem? (i := 118) rfl)
set_option maxRecDepth 100000 in
theorem z_cw_X4_harmOfAll : Cond.code yX4_harmOfAll cX4_harmOfAll 3 (some (.int)) ∈ lw_tbl := z_m3 (List.mem_of_getElem? (i := 109) rfl)
set_option maxRecDepth 100000 in
theorem z_cw_X4_harmOf : Cond.code yX4_harmOf cX4_harmOf 2 (some (.int)) ∈ lw_tbl := z_m3 (List.mem_of_getElem? (i := 113) rfl)
set_option maxRecDepth 100000 in
theorem z_cw_X4_lookAlong : Cond.code yX4_lookAlong cX4_lookAlong 8 none ∈ lw_tbl := z_m3 (List.mem_of_getElem? (i := 105) rfl)
set_option maxRecDepth 100000 in
theorem z_cw_X4_look : Cond.code yX4_look cX4_look 3 none ∈ lw_tbl := z_m3 (List.mem_of_getElem? (i := 97) rfl)
set_option maxRecDepth 100000 in
theorem z_cw_X4_init : Cond.code yX4_init cX4_init 1 none ∈ lw_tbl := z_m1 (List.mem_of_getElem? (i := 192) rfl)
set_option maxRecDepth 100000 in
theorem z_cw_X3_after : Cond.code yX3_after cX3_after 7 (some (.int)) ∈ lw_tbl := z_m3 (List.mem_of_getElem? (i := 45) rfl)
set_option maxRecDepth 100000 in
theorem z_cw_X3_startOn : Cond.code yX3_startOn cX3_startOn 1 (some (.int)) ∈ lw_tbl := z_m3 (List.mem_of_getElem? (i := 41) rfl)
set_option maxRecDepth 100000 in
theorem z_cw_X3_lookAt : Cond.code yX3_lookAt cX3_lookAt 5 none ∈ lw_tbl := z_m3 (List.mem_of_getElem? (i := 33) rfl)
set_option maxRecDepth 100000 in
theorem z_cw_X3_differsBy : Cond.code yX3_differsBy cX3_differsBy 6 (some (.int)) ∈ lw_tbl := z_m3 (List.mem_of_getElem? (i := 84) rfl)
set_option maxRecDepth 100000 in
theorem z_cw_X3_fillMended : Cond.code yX3_fillMended cX3_fillMended 6 none ∈ lw_tbl := z_m3 (List.mem_of_getElem? (i := 89) rfl)
set_option maxRecDepth 100000 in
theorem z_cw_X3_fewestFrom : Cond.code yX3_fewestFrom cX3_fewestFrom 6 (some (.int)) ∈ lw_tbl := z_m3 (List.mem_of_getElem? (i := 80) rfl)
set_option maxRecDepth 100000 in
theorem z_cw_X3_mended : Cond.code yX3_mended cX3_mended 6 (some (.int)) ∈ lw_tbl := z_m3 (List.mem_of_getElem? (i := 76) rfl)
set_option maxRecDepth 100000 in
theorem z_cw_X3_goOneStep : Cond.code yX3_goOneStep cX3_goOneStep 6 none ∈ lw_tbl := z_m3 (List.mem_of_getElem? (i := 68) rfl)
set_option maxRecDepth 100000 in
theorem z_cw_X3_howMany : Cond.code yX3_howMany cX3_howMany 10 (some (.long)) ∈ lw_tbl := z_m3 (List.mem_of_getElem? (i := 61) rfl)
set_option maxRecDepth 100000 in
theorem z_cw_X3_fillRow : Cond.code yX3_fillRow cX3_fillRow 5 none ∈ lw_tbl := z_m3 (List.mem_of_getElem? (i := 49) rfl)
theorem z_cwc3 : ∀ q ∈ z_mt3, Cond.code q.1 q.2.1 q.2.2.1 q.2.2.2.1 ∈ lw_tbl := List.forall_mem_cons.mpr ⟨z_cw_X3_fillRow, List.forall_mem_cons.mpr ⟨z_cw_X3_howMany, List.forall_mem_cons.mpr ⟨z_cw_X3_goOneStep, List.forall_mem_cons.mpr ⟨z_cw_X3_mended, List.forall_mem_cons.mpr ⟨z_cw_X3_fewestFrom, List.forall_mem_cons.mpr ⟨z_cw_X3_fillMended, List.forall_mem_cons.mpr ⟨z_cw_X3_differsBy, List.forall_mem_cons.mpr ⟨z_cw_X3_lookAt, List.forall_mem_cons.mpr ⟨z_cw_X3_startOn, List.forall_mem_cons.mpr ⟨z_cw_X3_after, List.forall_mem_cons.mpr ⟨z_cw_X4_init, List.forall_mem_cons.mpr ⟨z_cw_X4_look, List.forall_mem_cons.mpr ⟨z_cw_X4_lookAlong, List.forall_mem_cons.mpr ⟨z_cw_X4_harmOf, List.forall_mem_cons.mpr ⟨z_cw_X4_harmOfAll, List.forall_mem_cons.mpr ⟨z_cw_X4_longest, fun _ h => absurd h List.not_mem_nil⟩⟩⟩⟩⟩⟩⟩⟩⟩⟩⟩⟩⟩⟩⟩⟩
set_option maxRecDepth 100000 in
theorem z_cw_X5_ways : Cond.code yX5_ways cX5_ways 4 (some (.long)) ∈ lw_tbl := z_m3 (List.mem_of_getElem? (i := 56) rfl)
set_option maxRecDepth 100000 in
theorem z_cw_X5_way : Cond.code yX5_way cX5_way 5 (some (.int)) ∈ lw_tbl := z_m3 (List.mem_of_getElem? (i := 24) rfl)
set_option maxRecDepth 100000 in
theorem z_cw_X5_joint : Cond.code yX5_joint cX5_joint 5 (some (.int)) ∈ lw_tbl := z_m3 (List.mem_of_getElem? (i := 12) rfl)
set_option maxRecDepth 100000 in
theorem z_cw_X5_straight : Cond.code yX5_straight cX5_straight 3 (some (.int)) ∈ lw_tbl := z_m3 (List.mem_of_getElem? (i := 4) rfl)
set_option maxRecDepth 100000 in
theorem z_cw_X5_step : Cond.code yX5_step cX5_step 4 (some (.int)) ∈ lw_tbl := z_m2 (List.mem_of_getElem? (i := 239) rfl)
set_option maxRecDepth 100000 in
theorem z_cw_X5_chain : Cond.code yX5_chain cX5_chain 4 (some (.int)) ∈ lw_tbl := z_m2 (List.mem_of_getElem? (i := 219) rfl)
set_option maxRecDepth 100000 in
theorem z_cw_X5_cell : Cond.code yX5_cell cX5_cell 2 (some (.int)) ∈ lw_tbl := z_m2 (List.mem_of_getElem? (i := 202) rfl)
set_option maxRecDepth 100000 in
theorem z_cw_X5_yard : Cond.code yX5_yard cX5_yard 3 (some (.int)) ∈ lw_tbl := z_m2 (List.mem_of_getElem? (i := 34) rfl)
set_option maxRecDepth 100000 in
theorem z_cw_X5_clear : Cond.code yX5_clear cX5_clear 2 (some (.int)) ∈ lw_tbl := z_m2 (List.mem_of_getElem? (i := 30) rfl)
set_option maxRecDepth 100000 in
theorem z_cw_X5_type : Cond.code yX5_type cX5_type 5 (some (.int)) ∈ lw_tbl := z_m2 (List.mem_of_getElem? (i := 22) rfl)
set_option maxRecDepth 100000 in
theorem z_cw_X5_init : Cond.code yX5_init cX5_init 2 none ∈ lw_tbl := z_m1 (List.mem_of_getElem? (i := 20) rfl)
set_option maxRecDepth 100000 in
theorem z_cw_X4_placeHedges : Cond.code yX4_placeHedges cX4_placeHedges 6 (some (.boolean)) ∈ lw_tbl := z_m3 (List.mem_of_getElem? (i := 137) rfl)
set_option maxRecDepth 100000 in
theorem z_cw_X4_breakAll : Cond.code yX4_breakAll cX4_breakAll 3 (some (.boolean)) ∈ lw_tbl := z_m3 (List.mem_of_getElem? (i := 141) rfl)
set_option maxRecDepth 100000 in
theorem z_cw_X4_cellsOf : Cond.code yX4_cellsOf cX4_cellsOf 5 (some (.int)) ∈ lw_tbl := z_m3 (List.mem_of_getElem? (i := 134) rfl)
set_option maxRecDepth 100000 in
theorem z_cw_X4_findStretches : Cond.code yX4_findStretches cX4_findStretches 4 none ∈ lw_tbl := z_m3 (List.mem_of_getElem? (i := 130) rfl)
set_option maxRecDepth 100000 in
theorem z_cw_X4_fewestHedges : Cond.code yX4_fewestHedges cX4_fewestHedges 2 (some (.int)) ∈ lw_tbl := z_m3 (List.mem_of_getElem? (i := 126) rfl)
theorem z_cwc4 : ∀ q ∈ z_mt4, Cond.code q.1 q.2.1 q.2.2.1 q.2.2.2.1 ∈ lw_tbl := List.forall_mem_cons.mpr ⟨z_cw_X4_fewestHedges, List.forall_mem_cons.mpr ⟨z_cw_X4_findStretches, List.forall_mem_cons.mpr ⟨z_cw_X4_cellsOf, List.forall_mem_cons.mpr ⟨z_cw_X4_breakAll, List.forall_mem_cons.mpr ⟨z_cw_X4_placeHedges, List.forall_mem_cons.mpr ⟨z_cw_X5_init, List.forall_mem_cons.mpr ⟨z_cw_X5_type, List.forall_mem_cons.mpr ⟨z_cw_X5_clear, List.forall_mem_cons.mpr ⟨z_cw_X5_yard, List.forall_mem_cons.mpr ⟨z_cw_X5_cell, List.forall_mem_cons.mpr ⟨z_cw_X5_chain, List.forall_mem_cons.mpr ⟨z_cw_X5_step, List.forall_mem_cons.mpr ⟨z_cw_X5_straight, List.forall_mem_cons.mpr ⟨z_cw_X5_joint, List.forall_mem_cons.mpr ⟨z_cw_X5_way, List.forall_mem_cons.mpr ⟨z_cw_X5_ways, fun _ h => absurd h List.not_mem_nil⟩⟩⟩⟩⟩⟩⟩⟩⟩⟩⟩⟩⟩⟩⟩⟩
set_option maxRecDepth 100000 in
theorem z_cw_X5_markAsWall : Cond.code yX5_markAsWall cX5_markAsWall 2 (some (.int)) ∈ lw_tbl := z_m3 (List.mem_of_getElem? (i := 209) rfl)
set_option maxRecDepth 100000 in
theorem z_cw_X5_markAsChain : Cond.code yX5_markAsChain cX5_markAsChain 2 (some (.int)) ∈ lw_tbl := z_m3 (List.mem_of_getElem? (i := 205) rfl)
set_option maxRecDepth 100000 in
theorem z_cw_X5_trace : Cond.code yX5_trace cX5_trace 1 (some (.long)) ∈ lw_tbl := z_m4 (List.mem_of_getElem? (i := 6) rfl)
set_option maxRecDepth 100000 in
theorem z_cw_X5_count : Cond.code yX5_count cX5_count 2 (some (.int)) ∈ lw_tbl := z_m4 (List.mem_of_getElem? (i := 2) rfl)
set_option maxRecDepth 100000 in
theorem z_cw_X5_back : Cond.code yX5_back cX5_back 2 (some (.int)) ∈ lw_tbl := z_m3 (List.mem_of_getElem? (i := 238) rfl)
set_option maxRecDepth 100000 in
theorem z_cw_X5_keep : Cond.code yX5_keep cX5_keep 2 (some (.int)) ∈ lw_tbl := z_m3 (List.mem_of_getElem? (i := 234) rfl)
set_option maxRecDepth 100000 in
theorem z_cw_X5_mark : Cond.code yX5_mark cX5_mark 4 (some (.int)) ∈ lw_tbl := z_m3 (List.mem_of_getElem? (i := 200) rfl)
set_option maxRecDepth 100000 in
theorem z_cw_X5_close : Cond.code yX5_close cX5_close 1 (some (.int)) ∈ lw_tbl := z_m3 (List.mem_of_getElem? (i := 196) rfl)
set_option maxRecDepth 100000 in
theorem z_cw_X5_street : Cond.code yX5_street cX5_street 3 (some (.int)) ∈ lw_tbl := z_m3 (List.mem_of_getElem? (i := 178) rfl)
set_option maxRecDepth 100000 in
theorem z_cw_X5_raze : Cond.code yX5_raze cX5_raze 2 (some (.int)) ∈ lw_tbl := z_m3 (List.mem_of_getElem? (i := 174) rfl)
set_option maxRecDepth 100000 in
theorem z_cw_X5_build : Cond.code yX5_build cX5_build 2 (some (.int)) ∈ lw_tbl := z_m3 (List.mem_of_getElem? (i := 155) rfl)
set_option maxRecDepth 100000 in
theorem z_cw_X5_lot : Cond.code yX5_lot cX5_lot 3 (some (.int)) ∈ lw_tbl := z_m3 (List.mem_of_getElem? (i := 151) rfl)
set_option maxRecDepth 100000 in
theorem z_cw_X5_gusts : Cond.code yX5_gusts cX5_gusts 4 (some (.int)) ∈ lw_tbl := z_m3 (List.mem_of_getElem? (i := 145) rfl)
set_option maxRecDepth 100000 in
theorem z_cw_X5_hedges : Cond.code yX5_hedges cX5_hedges 3 (some (.int)) ∈ lw_tbl := z_m3 (List.mem_of_getElem? (i := 122) rfl)
set_option maxRecDepth 100000 in
theorem z_cw_X5_lines : Cond.code yX5_lines cX5_lines 3 (some (.int)) ∈ lw_tbl := z_m3 (List.mem_of_getElem? (i := 93) rfl)
set_option maxRecDepth 100000 in
theorem z_cw_X5_mend : Cond.code yX5_mend cX5_mend 4 (some (.int)) ∈ lw_tbl := z_m3 (List.mem_of_getElem? (i := 72) rfl)
theorem z_cwc5 : ∀ q ∈ z_mt5, Cond.code q.1 q.2.1 q.2.2.1 q.2.2.2.1 ∈ lw_tbl := List.forall_mem_cons.mpr ⟨z_cw_X5_mend, List.forall_mem_cons.mpr ⟨z_cw_X5_lines, List.forall_mem_cons.mpr ⟨z_cw_X5_hedges, List.forall_mem_cons.mpr ⟨z_cw_X5_gusts, List.forall_mem_cons.mpr ⟨z_cw_X5_lot, List.forall_mem_cons.mpr ⟨z_cw_X5_build, List.forall_mem_cons.mpr ⟨z_cw_X5_raze, List.forall_mem_cons.mpr ⟨z_cw_X5_street, List.forall_mem_cons.mpr ⟨z_cw_X5_close, List.forall_mem_cons.mpr ⟨z_cw_X5_mark, List.forall_mem_cons.mpr ⟨z_cw_X5_keep, List.forall_mem_cons.mpr ⟨z_cw_X5_back, List.forall_mem_cons.mpr ⟨z_cw_X5_count, List.forall_mem_cons.mpr ⟨z_cw_X5_trace, List.forall_mem_cons.mpr ⟨z_cw_X5_markAsChain, List.forall_mem_cons.mpr ⟨z_cw_X5_markAsWall, fun _ h => absurd h List.not_mem_nil⟩⟩⟩⟩⟩⟩⟩⟩⟩⟩⟩⟩⟩⟩⟩⟩
set_option maxRecDepth 100000 in
theorem z_cw_X6_goesOn : Cond.code yX6_goesOn cX6_goesOn 5 (some (.boolean)) ∈ lw_tbl := z_m4 (List.mem_of_getElem? (i := 135) rfl)
set_option maxRecDepth 100000 in
theorem z_cw_X6_stepOf : Cond.code yX6_stepOf cX6_stepOf 1 (some (.int)) ∈ lw_tbl := z_m4 (List.mem_of_getElem? (i := 138) rfl)
set_option maxRecDepth 100000 in
theorem z_cw_X6_off : Cond.code yX6_off cX6_off 6 (some (.int)) ∈ lw_tbl := z_m4 (List.mem_of_getElem? (i := 142) rfl)
set_option maxRecDepth 100000 in
theorem z_cw_X6_number : Cond.code yX6_number cX6_number 3 (some (.int)) ∈ lw_tbl := z_m4 (List.mem_of_getElem? (i := 127) rfl)
set_option maxRecDepth 100000 in
theorem z_cw_X6_due : Cond.code yX6_due cX6_due 3 (some (.int)) ∈ lw_tbl := z_m4 (List.mem_of_getElem? (i := 123) rfl)
set_option maxRecDepth 100000 in
theorem z_cw_X6_next : Cond.code yX6_next cX6_next 3 none ∈ lw_tbl := z_m4 (List.mem_of_getElem? (i := 108) rfl)
set_option maxRecDepth 100000 in
theorem z_cw_X6_here : Cond.code yX6_here cX6_here 1 (some (.int)) ∈ lw_tbl := z_m4 (List.mem_of_getElem? (i := 112) rfl)
set_option maxRecDepth 100000 in
theorem z_cw_X6_clear : Cond.code yX6_clear cX6_clear 2 (some (.int)) ∈ lw_tbl := z_m4 (List.mem_of_getElem? (i := 100) rfl)
set_option maxRecDepth 100000 in
theorem z_cw_X6_type : Cond.code yX6_type cX6_type 5 (some (.int)) ∈ lw_tbl := z_m4 (List.mem_of_getElem? (i := 92) rfl)
set_option maxRecDepth 100000 in
theorem z_cw_X6_in : Cond.code yX6_in cX6_in 3 (some (.boolean)) ∈ lw_tbl := z_m4 (List.mem_of_getElem? (i := 95) rfl)
set_option maxRecDepth 100000 in
theorem z_cw_X6_init : Cond.code yX6_init cX6_init 1 none ∈ lw_tbl := z_m4 (List.mem_of_getElem? (i := 11) rfl)
set_option maxRecDepth 100000 in
theorem z_cw_X5_ofRow : Cond.code yX5_ofRow cX5_ofRow 4 (some (.int)) ∈ lw_tbl := z_m3 (List.mem_of_getElem? (i := 52) rfl)
set_option maxRecDepth 100000 in
theorem z_cw_X5_markAsRope : Cond.code yX5_markAsRope cX5_markAsRope 2 (some (.int)) ∈ lw_tbl := z_m3 (List.mem_of_getElem? (i := 229) rfl)
set_option maxRecDepth 100000 in
theorem z_cw_X5_markAsGlance : Cond.code yX5_markAsGlance cX5_markAsGlance 3 (some (.int)) ∈ lw_tbl := z_m3 (List.mem_of_getElem? (i := 224) rfl)
set_option maxRecDepth 100000 in
theorem z_cw_X5_markAsDoor : Cond.code yX5_markAsDoor cX5_markAsDoor 3 (some (.int)) ∈ lw_tbl := z_m3 (List.mem_of_getElem? (i := 219) rfl)
set_option maxRecDepth 100000 in
theorem z_cw_X5_markAsWay : Cond.code yX5_markAsWay cX5_markAsWay 2 (some (.int)) ∈ lw_tbl := z_m3 (List.mem_of_getElem? (i := 214) rfl)
theorem z_cwc6 : ∀ q ∈ z_mt6, Cond.code q.1 q.2.1 q.2.2.1 q.2.2.2.1 ∈ lw_tbl := List.forall_mem_cons.mpr ⟨z_cw_X5_markAsWay, List.forall_mem_cons.mpr ⟨z_cw_X5_markAsDoor, List.forall_mem_cons.mpr ⟨z_cw_X5_markAsGlance, List.forall_mem_cons.mpr ⟨z_cw_X5_markAsRope, List.forall_mem_cons.mpr ⟨z_cw_X5_ofRow, List.forall_mem_cons.mpr ⟨z_cw_X6_init, List.forall_mem_cons.mpr ⟨z_cw_X6_in, List.forall_mem_cons.mpr ⟨z_cw_X6_type, List.forall_mem_cons.mpr ⟨z_cw_X6_clear, List.forall_mem_cons.mpr ⟨z_cw_X6_here, List.forall_mem_cons.mpr ⟨z_cw_X6_next, List.forall_mem_cons.mpr ⟨z_cw_X6_due, List.forall_mem_cons.mpr ⟨z_cw_X6_number, List.forall_mem_cons.mpr ⟨z_cw_X6_off, List.forall_mem_cons.mpr ⟨z_cw_X6_stepOf, List.forall_mem_cons.mpr ⟨z_cw_X6_goesOn, fun _ h => absurd h List.not_mem_nil⟩⟩⟩⟩⟩⟩⟩⟩⟩⟩⟩⟩⟩⟩⟩⟩
set_option maxRecDepth 100000 in
theorem z_cw_X6_longest : Cond.code yX6_longest cX6_longest 4 (some (.int)) ∈ lw_tbl := z_m4 (List.mem_of_getElem? (i := 190) rfl)
set_option maxRecDepth 100000 in
theorem z_cw_X6_runAt : Cond.code yX6_runAt cX6_runAt 4 (some (.int)) ∈ lw_tbl := z_m4 (List.mem_of_getElem? (i := 194) rfl)
set_option maxRecDepth 100000 in
theorem z_cw_X6_cell : Cond.code yX6_cell cX6_cell 2 (some (.int)) ∈ lw_tbl := z_m4 (List.mem_of_getElem? (i := 150) rfl)
set_option maxRecDepth 100000 in
theorem z_cw_X6_onChains : Cond.code yX6_onChains cX6_onChains 5 (some (.int)) ∈ lw_tbl := z_m4 (List.mem_of_getElem? (i := 166) rfl)
set_option maxRecDepth 100000 in
theorem z_cw_X6_lastCell : Cond.code yX6_lastCell cX6_lastCell 4 (some (.int)) ∈ lw_tbl := z_m4 (List.mem_of_getElem? (i := 186) rfl)
set_option maxRecDepth 100000 in
theorem z_cw_X6_steps : Cond.code yX6_steps cX6_steps 2 (some (.int)) ∈ lw_tbl := z_m4 (List.mem_of_getElem? (i := 170) rfl)
set_option maxRecDepth 100000 in
theorem z_cw_X6_stepIn : Cond.code yX6_stepIn cX6_stepIn 3 (some (.int)) ∈ lw_tbl := z_m4 (List.mem_of_getElem? (i := 174) rfl)
set_option maxRecDepth 100000 in
theorem z_cw_X6_isChain : Cond.code yX6_isChain cX6_isChain 2 (some (.boolean)) ∈ lw_tbl := z_m4 (List.mem_of_getElem? (i := 182) rfl)
set_option maxRecDepth 100000 in
theorem z_cw_X6_isFree : Cond.code yX6_isFree cX6_isFree 2 (some (.boolean)) ∈ lw_tbl := z_m4 (List.mem_of_getElem? (i := 226) rfl)
set_option maxRecDepth 100000 in
theorem z_cw_X6_isHouse : Cond.code yX6_isHouse cX6_isHouse 2 (some (.boolean)) ∈ lw_tbl := z_m4 (List.mem_of_getElem? (i := 162) rfl)
set_option maxRecDepth 100000 in
theorem z_cw_X6_isCell : Cond.code yX6_isCell cX6_isCell 2 (some (.boolean)) ∈ lw_tbl := z_m4 (List.mem_of_getElem? (i := 154) rfl)
set_option maxRecDepth 100000 in
theorem z_cw_X6_cells : Cond.code yX6_cells cX6_cells 1 (some (.int)) ∈ lw_tbl := z_m4 (List.mem_of_getElem? (i := 158) rfl)
set_option maxRecDepth 100000 in
theorem z_cw_X6_copy : Cond.code yX6_copy cX6_copy 4 none ∈ lw_tbl := z_m4 (List.mem_of_getElem? (i := 146) rfl)
set_option maxRecDepth 100000 in
theorem z_cw_X6_yard : Cond.code yX6_yard cX6_yard 2 (some (.int)) ∈ lw_tbl := z_m4 (List.mem_of_getElem? (i := 104) rfl)
set_option maxRecDepth 100000 in
theorem z_cw_X6_readItem : Cond.code yX6_readItem cX6_readItem 5 none ∈ lw_tbl := z_m4 (List.mem_of_getElem? (i := 119) rfl)
set_option maxRecDepth 100000 in
theorem z_cw_X6_readChain : Cond.code yX6_readChain cX6_readChain 5 none ∈ lw_tbl := z_m4 (List.mem_of_getElem? (i := 131) rfl)
theorem z_cwc7 : ∀ q ∈ z_mt7, Cond.code q.1 q.2.1 q.2.2.1 q.2.2.2.1 ∈ lw_tbl := List.forall_mem_cons.mpr ⟨z_cw_X6_readChain, List.forall_mem_cons.mpr ⟨z_cw_X6_readItem, List.forall_mem_cons.mpr ⟨z_cw_X6_yard, List.forall_mem_cons.mpr ⟨z_cw_X6_copy, List.forall_mem_cons.mpr ⟨z_cw_X6_cells, List.forall_mem_cons.mpr ⟨z_cw_X6_isCell, List.forall_mem_cons.mpr ⟨z_cw_X6_isHouse, List.forall_mem_cons.mpr ⟨z_cw_X6_isFree, List.forall_mem_cons.mpr ⟨z_cw_X6_isChain, List.forall_mem_cons.mpr ⟨z_cw_X6_stepIn, List.forall_mem_cons.mpr ⟨z_cw_X6_steps, List.forall_mem_cons.mpr ⟨z_cw_X6_lastCell, List.forall_mem_cons.mpr ⟨z_cw_X6_onChains, List.forall_mem_cons.mpr ⟨z_cw_X6_cell, List.forall_mem_cons.mpr ⟨z_cw_X6_runAt, List.forall_mem_cons.mpr ⟨z_cw_X6_longest, fun _ h => absurd h List.not_mem_nil⟩⟩⟩⟩⟩⟩⟩⟩⟩⟩⟩⟩⟩⟩⟩⟩
set_option maxRecDepth 100000 in
theorem z_cw_X6_findLine : Cond.code yX6_findLine cX6_findLine 8 none ∈ lw_tbl := z_m5 (List.mem_of_getElem? (i := 31) rfl)
set_option maxRecDepth 100000 in
theorem z_cw_X6_openNow : Cond.code yX6_openNow cX6_openNow 1 (some (.int)) ∈ lw_tbl := z_m5 (List.mem_of_getElem? (i := 19) rfl)
set_option maxRecDepth 100000 in
theorem z_cw_X6_mend : Cond.code yX6_mend cX6_mend 7 (some (.int)) ∈ lw_tbl := z_m5 (List.mem_of_getElem? (i := 7) rfl)
set_option maxRecDepth 100000 in
theorem z_cw_X6_findMend : Cond.code yX6_findMend cX6_findMend 9 none ∈ lw_tbl := z_m5 (List.mem_of_getElem? (i := 11) rfl)
set_option maxRecDepth 100000 in
theorem z_cw_X6_ways : Cond.code yX6_ways cX6_ways 7 (some (.long)) ∈ lw_tbl := z_m5 (List.mem_of_getElem? (i := 2) rfl)
set_option maxRecDepth 100000 in
theorem z_cw_X6_way : Cond.code yX6_way cX6_way 8 (some (.int)) ∈ lw_tbl := z_m4 (List.mem_of_getElem? (i := 222) rfl)
set_option maxRecDepth 100000 in
theorem z_cw_X6_stepsOf : Cond.code yX6_stepsOf cX6_stepsOf 3 (some (.int)) ∈ lw_tbl := z_m4 (List.mem_of_getElem? (i := 230) rfl)
set_option maxRecDepth 100000 in
theorem z_cw_X6_findSteps : Cond.code yX6_findSteps cX6_findSteps 6 none ∈ lw_tbl := z_m4 (List.mem_of_getElem? (i := 234) rfl)
set_option maxRecDepth 100000 in
theorem z_cw_X6_after : Cond.code yX6_after cX6_after 6 (some (.int)) ∈ lw_tbl := z_m4 (List.mem_of_getElem? (i := 238) rfl)
set_option maxRecDepth 100000 in
theorem z_cw_X6_joint : Cond.code yX6_joint cX6_joint 3 (some (.int)) ∈ lw_tbl := z_m4 (List.mem_of_getElem? (i := 210) rfl)
set_option maxRecDepth 100000 in
theorem z_cw_X6_isJoint : Cond.code yX6_isJoint cX6_isJoint 4 (some (.boolean)) ∈ lw_tbl := z_m4 (List.mem_of_getElem? (i := 214) rfl)
set_option maxRecDepth 100000 in
theorem z_cw_X6_firstRun : Cond.code yX6_firstRun cX6_firstRun 3 (some (.int)) ∈ lw_tbl := z_m4 (List.mem_of_getElem? (i := 218) rfl)
set_option maxRecDepth 100000 in
theorem z_cw_X6_straight : Cond.code yX6_straight cX6_straight 2 (some (.int)) ∈ lw_tbl := z_m4 (List.mem_of_getElem? (i := 202) rfl)
set_option maxRecDepth 100000 in
theorem z_cw_X6_straightOf : Cond.code yX6_straightOf cX6_straightOf 3 (some (.int)) ∈ lw_tbl := z_m4 (List.mem_of_getElem? (i := 206) rfl)
set_option maxRecDepth 100000 in
theorem z_cw_X6_step : Cond.code yX6_step cX6_step 3 (some (.int)) ∈ lw_tbl := z_m4 (List.mem_of_getElem? (i := 198) rfl)
set_option maxRecDepth 100000 in
theorem z_cw_X6_chain : Cond.code yX6_chain cX6_chain 3 (some (.int)) ∈ lw_tbl := z_m4 (List.mem_of_getElem? (i := 178) rfl)
theorem z_cwc8 : ∀ q ∈ z_mt8, Cond.code q.1 q.2.1 q.2.2.1 q.2.2.2.1 ∈ lw_tbl := List.forall_mem_cons.mpr ⟨z_cw_X6_chain, List.forall_mem_cons.mpr ⟨z_cw_X6_step, List.forall_mem_cons.mpr ⟨z_cw_X6_straightOf, List.forall_mem_cons.mpr ⟨z_cw_X6_straight, List.forall_mem_cons.mpr ⟨z_cw_X6_firstRun, List.forall_mem_cons.mpr ⟨z_cw_X6_isJoint, List.forall_mem_cons.mpr ⟨z_cw_X6_joint, List.forall_mem_cons.mpr ⟨z_cw_X6_after, List.forall_mem_cons.mpr ⟨z_cw_X6_findSteps, List.forall_mem_cons.mpr ⟨z_cw_X6_stepsOf, List.forall_mem_cons.mpr ⟨z_cw_X6_way, List.forall_mem_cons.mpr ⟨z_cw_X6_ways, List.forall_mem_cons.mpr ⟨z_cw_X6_findMend, List.forall_mem_cons.mpr ⟨z_cw_X6_mend, List.forall_mem_cons.mpr ⟨z_cw_X6_openNow, List.forall_mem_cons.mpr ⟨z_cw_X6_findLine, fun _ h => absurd h List.not_mem_nil⟩⟩⟩⟩⟩⟩⟩⟩⟩⟩⟩⟩⟩⟩⟩⟩
set_option maxRecDepth 100000 in
theorem z_cw_X6_close : Cond.code yX6_close cX6_close 1 (some (.int)) ∈ lw_tbl := z_m5 (List.mem_of_getElem? (i := 85) rfl)
set_option maxRecDepth 100000 in
theorem z_cw_X6_street : Cond.code yX6_street cX6_street 5 (some (.int)) ∈ lw_tbl := z_m5 (List.mem_of_getElem? (i := 69) rfl)
set_option maxRecDepth 100000 in
theorem z_cw_X6_isBent : Cond.code yX6_isBent cX6_isBent 7 (some (.boolean)) ∈ lw_tbl := z_m5 (List.mem_of_getElem? (i := 77) rfl)
set_option maxRecDepth 100000 in
theorem z_cw_X6_toldRun : Cond.code yX6_toldRun cX6_toldRun 4 (some (.int)) ∈ lw_tbl := z_m5 (List.mem_of_getElem? (i := 81) rfl)
set_option maxRecDepth 100000 in
theorem z_cw_X6_isStreet : Cond.code yX6_isStreet cX6_isStreet 6 (some (.boolean)) ∈ lw_tbl := z_m5 (List.mem_of_getElem? (i := 73) rfl)
set_option maxRecDepth 100000 in
theorem z_cw_X6_raze : Cond.code yX6_raze cX6_raze 2 (some (.int)) ∈ lw_tbl := z_m5 (List.mem_of_getElem? (i := 65) rfl)
set_option maxRecDepth 100000 in
theorem z_cw_X6_build : Cond.code yX6_build cX6_build 2 (some (.int)) ∈ lw_tbl := z_m5 (List.mem_of_getElem? (i := 56) rfl)
set_option maxRecDepth 100000 in
theorem z_cw_X6_houses : Cond.code yX6_houses cX6_houses 3 (some (.int)) ∈ lw_tbl := z_m5 (List.mem_of_getElem? (i := 61) rfl)
set_option maxRecDepth 100000 in
theorem z_cw_X6_lot : Cond.code yX6_lot cX6_lot 3 (some (.int)) ∈ lw_tbl := z_m5 (List.mem_of_getElem? (i := 52) rfl)
set_option maxRecDepth 100000 in
theorem z_cw_X6_gusts : Cond.code yX6_gusts cX6_gusts 4 (some (.int)) ∈ lw_tbl := z_m5 (List.mem_of_getElem? (i := 47) rfl)
set_option maxRecDepth 100000 in
theorem z_cw_X6_hedges : Cond.code yX6_hedges cX6_hedges 3 (some (.int)) ∈ lw_tbl := z_m5 (List.mem_of_getElem? (i := 39) rfl)
set_option maxRecDepth 100000 in
theorem z_cw_X6_findHedges : Cond.code yX6_findHedges cX6_findHedges 7 (some (.boolean)) ∈ lw_tbl := z_m5 (List.mem_of_getElem? (i := 43) rfl)
set_option maxRecDepth 100000 in
theorem z_cw_X6_lines : Cond.code yX6_lines cX6_lines 5 (some (.int)) ∈ lw_tbl := z_m5 (List.mem_of_getElem? (i := 15) rfl)
set_option maxRecDepth 100000 in
theorem z_cw_X6_harmBy : Cond.code yX6_harmBy cX6_harmBy 4 (some (.int)) ∈ lw_tbl := z_m5 (List.mem_of_getElem? (i := 23) rfl)
set_option maxRecDepth 100000 in
theorem z_cw_X6_harmOf : Cond.code yX6_harmOf cX6_harmOf 2 (some (.int)) ∈ lw_tbl := z_m5 (List.mem_of_getElem? (i := 35) rfl)
set_option maxRecDepth 100000 in
theorem z_cw_X6_findLines : Cond.code yX6_findLines cX6_findLines 4 none ∈ lw_tbl := z_m5 (List.mem_of_getElem? (i := 27) rfl)
theorem z_cwc9 : ∀ q ∈ z_mt9, Cond.code q.1 q.2.1 q.2.2.1 q.2.2.2.1 ∈ lw_tbl := List.forall_mem_cons.mpr ⟨z_cw_X6_findLines, List.forall_mem_cons.mpr ⟨z_cw_X6_harmOf, List.forall_mem_cons.mpr ⟨z_cw_X6_harmBy, List.forall_mem_cons.mpr ⟨z_cw_X6_lines, List.forall_mem_cons.mpr ⟨z_cw_X6_findHedges, List.forall_mem_cons.mpr ⟨z_cw_X6_hedges, List.forall_mem_cons.mpr ⟨z_cw_X6_gusts, List.forall_mem_cons.mpr ⟨z_cw_X6_lot, List.forall_mem_cons.mpr ⟨z_cw_X6_houses, List.forall_mem_cons.mpr ⟨z_cw_X6_build, List.forall_mem_cons.mpr ⟨z_cw_X6_raze, List.forall_mem_cons.mpr ⟨z_cw_X6_isStreet, List.forall_mem_cons.mpr ⟨z_cw_X6_toldRun, List.forall_mem_cons.mpr ⟨z_cw_X6_isBent, List.forall_mem_cons.mpr ⟨z_cw_X6_street, List.forall_mem_cons.mpr ⟨z_cw_X6_close, fun _ h => absurd h List.not_mem_nil⟩⟩⟩⟩⟩⟩⟩⟩⟩⟩⟩⟩⟩⟩⟩⟩
set_option maxRecDepth 100000 in
theorem z_cw_J7_fill_53178 : Cond.code yJ7_fill_53178 cJ7_fill_53178 4 none ∈ lw_tbl := z_m3 (List.mem_of_getElem? (i := 38) rfl)
set_option maxRecDepth 100000 in
theorem z_cw_J7_fill_d0a16 : Cond.code yJ7_fill_d0a16 cJ7_fill_d0a16 5 none ∈ lw_tbl := z_m3 (List.mem_of_getElem? (i := 64) rfl)
set_option maxRecDepth 100000 in
theorem z_cw_J6_bitCount_0f7a4 : Cond.code yJ6_bitCount_0f7a4 cJ6_bitCount_0f7a4 1 (some (.int)) ∈ lw_tbl := z_m3 (List.mem_of_getElem? (i := 167) rfl)
set_option maxRecDepth 100000 in
theorem z_cw_X6_trace : Cond.code yX6_trace cX6_trace 1 (some (.long)) ∈ lw_tbl := z_m5 (List.mem_of_getElem? (i := 111) rfl)
set_option maxRecDepth 100000 in
theorem z_cw_X6_count : Cond.code yX6_count cX6_count 2 (some (.int)) ∈ lw_tbl := z_m5 (List.mem_of_getElem? (i := 107) rfl)
set_option maxRecDepth 100000 in
theorem z_cw_X6_back : Cond.code yX6_back cX6_back 2 (some (.int)) ∈ lw_tbl := z_m5 (List.mem_of_getElem? (i := 103) rfl)
set_option maxRecDepth 100000 in
theorem z_cw_X6_keep : Cond.code yX6_keep cX6_keep 2 (some (.int)) ∈ lw_tbl := z_m5 (List.mem_of_getElem? (i := 99) rfl)
set_option maxRecDepth 100000 in
theorem z_cw_X6_mark : Cond.code yX6_mark cX6_mark 5 (some (.int)) ∈ lw_tbl := z_m5 (List.mem_of_getElem? (i := 89) rfl)
theorem z_cwc10 : ∀ q ∈ z_mt10.take 8, Cond.code q.1 q.2.1 q.2.2.1 q.2.2.2.1 ∈ lw_tbl := List.forall_mem_cons.mpr ⟨z_cw_X6_mark, List.forall_mem_cons.mpr ⟨z_cw_X6_keep, List.forall_mem_cons.mpr ⟨z_cw_X6_back, List.forall_mem_cons.mpr ⟨z_cw_X6_count, List.forall_mem_cons.mpr ⟨z_cw_X6_trace, List.forall_mem_cons.mpr ⟨z_cw_J6_bitCount_0f7a4, List.forall_mem_cons.mpr ⟨z_cw_J7_fill_d0a16, List.forall_mem_cons.mpr ⟨z_cw_J7_fill_53178, fun _ h => absurd h List.not_mem_nil⟩⟩⟩⟩⟩⟩⟩⟩
theorem z_cwk : ∀ k, k < 168 → Cond.code (z_mt k).1 (z_mt k).2.1 (z_mt k).2.2.1 (z_mt k).2.2.2.1 ∈ lw_tbl := fun k hk => match k, hk with
  | 0, _ => z_cw_X0_init
  | 1, _ => z_cw_X0_copyFrom
  | 2, _ => z_cw_X0_addStep
  | 3, _ => z_cw_X0_stepAt
  | 4, _ => z_cw_X0_takeFigures
  | 5, _ => z_cw_X0_runUpTo
  | 6, _ => z_cw_X0_firstRun
  | 7, _ => z_cw_X0_longestRun
  | 8, _ => z_cw_X0_straightAt
  | 9, _ => z_cw_X0_joins
  | 10, _ => z_cw_X1_init
  | 11, _ => z_cw_X1_append
  | 12, _ => z_cw_X1_begin
  | 13, _ => z_cw_X1_isAtEnd
  | 14, _ => z_cw_X1_readItem
  | 15, _ => z_cw_X1_readYard
  | 16, _ => z_cw_X1_readOnCell
  | 17, _ => z_cw_X1_endHouse
  | 18, _ => z_cw_X1_endChain
  | 19, _ => z_cw_X1_takeSteps
  | 20, _ => z_cw_X1_directionOf
  | 21, _ => z_cw_X1_nextCell
  | 22, _ => z_cw_X1_nextNumber
  | 23, _ => z_cw_X1_nextSemicolon
  | 24, _ => z_cw_X1_isWord
  | 25, _ => z_cw_X1_nextToken
  | 26, _ => z_cw_X1_takeNumber
  | 27, _ => z_cw_X1_byteAt
  | 28, _ => z_cw_X1_isLetter
  | 29, _ => z_cw_X1_isFigure
  | 30, _ => z_cw_X2_init
  | 31, _ => z_cw_X2_beginAnew
  | 32, _ => z_cw_X2_copyFrom
  | 33, _ => z_cw_X2_has
  | 34, _ => z_cw_X2_isHouse
  | 35, _ => z_cw_X2_isFree
  | 36, _ => z_cw_X2_isTrodden
  | 37, _ => z_cw_X2_isOpen
  | 38, _ => z_cw_X2_trodden
  | 39, _ => z_cw_X2_openCells
  | 40, _ => z_cw_X2_houseCount
  | 41, _ => z_cw_X2_chainAt
  | 42, _ => z_cw_X2_beside
  | 43, _ => z_cw_X2_walkOver
  | 44, _ => z_cw_X2_joinsAny
  | 45, _ => z_cw_X2_addChain
  | 46, _ => z_cw_X3_init
  | 47, _ => z_cw_X3_shortest
  | 48, _ => z_cw_X3_fillRow
  | 49, _ => z_cw_X3_howMany
  | 50, _ => z_cw_X3_goOneStep
  | 51, _ => z_cw_X3_mended
  | 52, _ => z_cw_X3_fewestFrom
  | 53, _ => z_cw_X3_fillMended
  | 54, _ => z_cw_X3_differsBy
  | 55, _ => z_cw_X3_lookAt
  | 56, _ => z_cw_X3_startOn
  | 57, _ => z_cw_X3_after
  | 58, _ => z_cw_X4_init
  | 59, _ => z_cw_X4_look
  | 60, _ => z_cw_X4_lookAlong
  | 61, _ => z_cw_X4_harmOf
  | 62, _ => z_cw_X4_harmOfAll
  | 63, _ => z_cw_X4_longest
  | 64, _ => z_cw_X4_fewestHedges
  | 65, _ => z_cw_X4_findStretches
  | 66, _ => z_cw_X4_cellsOf
  | 67, _ => z_cw_X4_breakAll
  | 68, _ => z_cw_X4_placeHedges
  | 69, _ => z_cw_X5_init
  | 70, _ => z_cw_X5_type
  | 71, _ => z_cw_X5_clear
  | 72, _ => z_cw_X5_yard
  | 73, _ => z_cw_X5_cell
  | 74, _ => z_cw_X5_chain
  | 75, _ => z_cw_X5_step
  | 76, _ => z_cw_X5_straight
  | 77, _ => z_cw_X5_joint
  | 78, _ => z_cw_X5_way
  | 79, _ => z_cw_X5_ways
  | 80, _ => z_cw_X5_mend
  | 81, _ => z_cw_X5_lines
  | 82, _ => z_cw_X5_hedges
  | 83, _ => z_cw_X5_gusts
  | 84, _ => z_cw_X5_lot
  | 85, _ => z_cw_X5_build
  | 86, _ => z_cw_X5_raze
  | 87, _ => z_cw_X5_street
  | 88, _ => z_cw_X5_close
  | 89, _ => z_cw_X5_mark
  | 90, _ => z_cw_X5_keep
  | 91, _ => z_cw_X5_back
  | 92, _ => z_cw_X5_count
  | 93, _ => z_cw_X5_trace
  | 94, _ => z_cw_X5_markAsChain
  | 95, _ => z_cw_X5_markAsWall
  | 96, _ => z_cw_X5_markAsWay
  | 97, _ => z_cw_X5_markAsDoor
  | 98, _ => z_cw_X5_markAsGlance
  | 99, _ => z_cw_X5_markAsRope
  | 100, _ => z_cw_X5_ofRow
  | 101, _ => z_cw_X6_init
  | 102, _ => z_cw_X6_in
  | 103, _ => z_cw_X6_type
  | 104, _ => z_cw_X6_clear
  | 105, _ => z_cw_X6_here
  | 106, _ => z_cw_X6_next
  | 107, _ => z_cw_X6_due
  | 108, _ => z_cw_X6_number
  | 109, _ => z_cw_X6_off
  | 110, _ => z_cw_X6_stepOf
  | 111, _ => z_cw_X6_goesOn
  | 112, _ => z_cw_X6_readChain
  | 113, _ => z_cw_X6_readItem
  | 114, _ => z_cw_X6_yard
  | 115, _ => z_cw_X6_copy
  | 116, _ => z_cw_X6_cells
  | 117, _ => z_cw_X6_isCell
  | 118, _ => z_cw_X6_isHouse
  | 119, _ => z_cw_X6_isFree
  | 120, _ => z_cw_X6_isChain
  | 121, _ => z_cw_X6_stepIn
  | 122, _ => z_cw_X6_steps
  | 123, _ => z_cw_X6_lastCell
  | 124, _ => z_cw_X6_onChains
  | 125, _ => z_cw_X6_cell
  | 126, _ => z_cw_X6_runAt
  | 127, _ => z_cw_X6_longest
  | 128, _ => z_cw_X6_chain
  | 129, _ => z_cw_X6_step
  | 130, _ => z_cw_X6_straightOf
  | 131, _ => z_cw_X6_straight
  | 132, _ => z_cw_X6_firstRun
  | 133, _ => z_cw_X6_isJoint
  | 134, _ => z_cw_X6_joint
  | 135, _ => z_cw_X6_after
  | 136, _ => z_cw_X6_findSteps
  | 137, _ => z_cw_X6_stepsOf
  | 138, _ => z_cw_X6_way
  | 139, _ => z_cw_X6_ways
  | 140, _ => z_cw_X6_findMend
  | 141, _ => z_cw_X6_mend
  | 142, _ => z_cw_X6_openNow
  | 143, _ => z_cw_X6_findLine
  | 144, _ => z_cw_X6_findLines
  | 145, _ => z_cw_X6_harmOf
  | 146, _ => z_cw_X6_harmBy
  | 147, _ => z_cw_X6_lines
  | 148, _ => z_cw_X6_findHedges
  | 149, _ => z_cw_X6_hedges
  | 150, _ => z_cw_X6_gusts
  | 151, _ => z_cw_X6_lot
  | 152, _ => z_cw_X6_houses
  | 153, _ => z_cw_X6_build
  | 154, _ => z_cw_X6_raze
  | 155, _ => z_cw_X6_isStreet
  | 156, _ => z_cw_X6_toldRun
  | 157, _ => z_cw_X6_isBent
  | 158, _ => z_cw_X6_street
  | 159, _ => z_cw_X6_close
  | 160, _ => z_cw_X6_mark
  | 161, _ => z_cw_X6_keep
  | 162, _ => z_cw_X6_back
  | 163, _ => z_cw_X6_count
  | 164, _ => z_cw_X6_trace
  | 165, _ => z_cw_J6_bitCount_0f7a4
  | 166, _ => z_cw_J7_fill_d0a16
  | 167, _ => z_cw_J7_fill_53178
  | n + 168, h => absurd h (by omega)
set_option maxRecDepth 100000 in
theorem z_cw_J0_length_8abf5 : Cond.code yJ0_length_8abf5 cJ0_length_8abf5 1 (some (.int)) ∈ lw_tbl := z_m2 (List.mem_of_getElem? (i := 70) rfl)
set_option maxRecDepth 100000 in
theorem z_cw_J0_charAt_5068e : Cond.code yJ0_charAt_5068e cJ0_charAt_5068e 2 (some (.char)) ∈ lw_tbl := z_m2 (List.mem_of_getElem? (i := 80) rfl)
set_option maxRecDepth 100000 in
theorem z_cw_J0_coder_7d493 : Cond.code yJ0_coder_7d493 cJ0_coder_7d493 1 (some (.byte)) ∈ lw_tbl := z_m2 (List.mem_of_getElem? (i := 74) rfl)
set_option maxRecDepth 100000 in
theorem z_cw_J0_isLatin1_aae02 : Cond.code yJ0_isLatin1_aae02 cJ0_isLatin1_aae02 1 (some (.boolean)) ∈ lw_tbl := z_m2 (List.mem_of_getElem? (i := 84) rfl)
set_option maxRecDepth 100000 in
theorem z_cw_J0_checkIndex_df160 : Cond.code yJ0_checkIndex_df160 cJ0_checkIndex_df160 2 none ∈ lw_tbl := z_m2 (List.mem_of_getElem? (i := 90) rfl)
set_option maxRecDepth 100000 in
theorem z_cw_J1_charAt_3b067 : Cond.code yJ1_charAt_3b067 cJ1_charAt_3b067 2 (some (.char)) ∈ lw_tbl := z_m2 (List.mem_of_getElem? (i := 87) rfl)
set_option maxRecDepth 100000 in
theorem z_cw_J3_checkIndex_8e157 : Cond.code yJ3_checkIndex_8e157 cJ3_checkIndex_8e157 3 (some (.int)) ∈ lw_tbl := z_m2 (List.mem_of_getElem? (i := 95) rfl)
set_option maxRecDepth 100000 in
theorem z_cw_max : Cond.code Lib.Math.max.name Lib.Math.max.code 2 (some .int) ∈ lw_tbl := z_m2 (List.mem_of_getElem? (i := 235) rfl)
set_option maxRecDepth 100000 in
theorem z_cw_min : Cond.code Lib.Math.min.name Lib.Math.min.code 2 (some .int) ∈ lw_tbl := z_m2 (List.mem_of_getElem? (i := 129) rfl)
end
section
/-! from the small machine to the machine: what a state of the one is in the other -/
def z_ad (b : Nat) (sp : Nat → Nat) (k : Nat) : Nat := if k < 1000 then b + k else sp (k - 1000)
def z_v (ad : Nat → Nat) (v : Value) : Value := match v with
  | .ref k => .ref (ad k)
  | w => w
def z_e (ad : Nat → Nat) (cA : Nat → ClassId) (e : ZE) : va_E := match e with
  | .inl o => .inr (o.1, o.2.map (z_v ad))
  | .inr (t, n, .inl f) => .inl (cA t, n, .inl f)
  | .inr (t, n, .inr (.inl f)) => .inl (cA t, n, .inr (.inl f))
  | .inr (t, n, .inr (.inr f)) => .inl (cA t, n, .inr (.inr (.inr (.inr (fun j => (f j).map ad)))))
def z_ws (b : Nat) (sp : Nat → Nat) (cA : Nat → ClassId) (M : ZM) : va_W := M.mapIdx (fun k e => (b + k, z_e (z_ad b sp) cA e))
def z_A (b : Nat) : Nat → Prop := fun q => b ≤ q
theorem z_ws_get (b : Nat) (sp : Nat → Nat) (cA : Nat → ClassId) (M : ZM) (k : Nat) : (z_ws b sp cA M)[k]? = (M[k]?).map (fun e => (b + k, z_e (z_ad b sp) cA e)) := by
  unfold z_ws
  rw [List.getElem?_mapIdx]
theorem z_ws_at {b : Nat} {sp : Nat → Nat} {cA : Nat → ClassId} {M : ZM} {k : Nat} {e : ZE} (h : M[k]? = some e) : (z_ws b sp cA M)[k]? = some (b + k, z_e (z_ad b sp) cA e) := by
  rw [z_ws_get, h]
  rfl
theorem z_ws_set (b : Nat) (sp : Nat → Nat) (cA : Nat → ClassId) (M : ZM) (k : Nat) (e : ZE) : z_ws b sp cA (M.set k e) = (z_ws b sp cA M).set k (b + k, z_e (z_ad b sp) cA e) := by
  unfold z_ws
  rw [List.mapIdx_set]
theorem z_ws_app (b : Nat) (sp : Nat → Nat) (cA : Nat → ClassId) (M : ZM) (e : ZE) : z_ws b sp cA (M ++ [e]) = z_ws b sp cA M ++ [(b + M.length, z_e (z_ad b sp) cA e)] := by
  unfold z_ws
  rw [List.mapIdx_append]
  simp
theorem z_D (b : Nat) (sp : Nat → Nat) (cA : Nat → ClassId) (M : ZM) : va_D (z_A b) (z_ws b sp cA M) := by
  refine ⟨fun i j p q hi hj hpq => ?_, fun k q hk => ?_⟩
  · rw [z_ws_get] at hi hj
    cases h1 : M[i]? with
    | none => rw [h1] at hi; cases hi
    | some e1 =>
      cases h2 : M[j]? with
      | none => rw [h2] at hj; cases hj
      | some e2 =>
        rw [h1] at hi
        rw [h2] at hj
        cases hi
        cases hj
        have h3 : b + i = b + j := hpq
        omega
  · rw [z_ws_get] at hk
    cases h1 : M[k]? with
    | none => rw [h1] at hk; cases hk
    | some e1 =>
      rw [h1] at hk
      cases hk
      exact Nat.le_add_right b k
/-- the cells of the small machine are the heap's last ones -/
def z_wd (b : Nat) (sp : Nat → Nat) (cA : Nat → ClassId) (D : va_G) (M : ZM) (H : Heap) : Prop := M.length ≤ 900 ∧ va_P D vwCl (z_ws b sp cA M) H
def z_has (ad : Nat → Nat) (ls : Array Slot) (n : Nat) (L : ZL) : Prop := ls.size = n ∧ lv_wf ls ∧ L.length = n ∧ ∀ (i : Nat) (v : Value), L[i]? = some (some v) → ls[i]? = some (.val (z_v ad v))
def z_asc (ad : Nat → Nat) (L : ZL) : List (Nat × Value) := (List.range L.length).filterMap (fun i => match L[i]? with
  | some (some v) => some (i, z_v ad v)
  | _ => none)
theorem z_asc_mem {ad : Nat → Nat} {L : ZL} {q : Nat × Value} : q ∈ z_asc ad L ↔ ∃ v, L[q.1]? = some (some v) ∧ q.2 = z_v ad v := by
  unfold z_asc
  rw [List.mem_filterMap]
  constructor
  · rintro ⟨i, hi, h⟩
    split at h
    · rename_i v hv
      cases h
      exact ⟨v, hv, rfl⟩
    · cases h
  · rintro ⟨v, hv, h⟩
    refine ⟨q.1, List.mem_range.mpr (List.getElem?_eq_some_iff.mp hv).1, ?_⟩
    rw [hv]
    show some (q.1, z_v ad v) = some q
    rw [← h]
theorem z_has.lv {ad : Nat → Nat} {ls : Array Slot} {n : Nat} {L : ZL} (h : z_has ad ls n L) : lv_has ls n (z_asc ad L) := by
  refine ⟨h.1, h.2.1, fun q hq => ?_⟩
  obtain ⟨v, h1, h2⟩ := z_asc_mem.mp hq
  rw [h2]
  exact h.2.2.2 _ _ h1
theorem z_v_cat (ad : Nat → Nat) (v : Value) : (z_v ad v).category = v.category := by cases v <;> rfl
theorem z_cut_len (L : ZL) (i : Nat) : (z_cut L i).length = L.length := by
  unfold z_cut
  split
  · rfl
  · split
    · split
      · exact List.length_set
      · rfl
    · rfl
theorem z_cut_at {L : ZL} {i j : Nat} {v : Value} (h : (z_cut L i)[j]? = some (some v)) : L[j]? = some (some v) ∧ ¬ (j + 1 = i ∧ v.category = 2) := by
  unfold z_cut at h
  split at h
  · exact ⟨h, fun g => by omega⟩
  · rename_i k
    split at h
    · rename_i w hw
      split at h
      · rename_i hc
        rw [List.getElem?_set] at h
        split at h
        · split at h
          · cases h
          · cases h
        · rename_i hne
          exact ⟨h, fun g => hne (by omega)⟩
      · rename_i hc
        refine ⟨h, fun g => hc ?_⟩
        have : j = k := by omega
        subst this
        rw [hw] at h
        cases h
        exact g.2
    · rename_i hno
      refine ⟨h, fun g => ?_⟩
      have : j = k := by omega
      subst this
      exact hno v h
theorem z_has.st1 {ad : Nat → Nat} {ls : Array Slot} {n i : Nat} {L : ZL} {v w : Value} (hw : z_v ad v = w) (hL : L.length = n) (h : lv_has ls n ((i, w) :: (z_asc ad L).filter (fun q => !(q.1 == i) && !(q.1 + 1 == i && q.2.category == 2)))) : z_has ad ls n (z_st1 L i v) := by
  refine ⟨h.1, h.2.1, ?_, fun j x hj => ?_⟩
  · unfold z_st1
    rw [List.length_set, z_cut_len, hL]
  · unfold z_st1 at hj
    rw [List.getElem?_set] at hj
    split at hj
    · rename_i he
      split at hj
      · cases hj
        subst he
        rw [hw]
        exact h.2.2 (i, w) List.mem_cons_self
      · cases hj
    · rename_i hne
      obtain ⟨h1, h2⟩ := z_cut_at hj
      refine h.2.2 (j, z_v ad x) (List.mem_cons_of_mem _ (List.mem_filter.mpr ⟨z_asc_mem.mpr ⟨x, h1, rfl⟩, ?_⟩))
      simp only [Bool.and_eq_true, Bool.not_eq_true', beq_eq_false_iff_ne, Bool.and_eq_false_iff, z_v_cat]
      refine ⟨fun g => hne g.symm, ?_⟩
      by_cases hx : j + 1 = i
      · exact Or.inr (fun g => h2 ⟨hx, g⟩)
      · exact Or.inl hx
theorem z_has.st2 {ad : Nat → Nat} {ls : Array Slot} {n i : Nat} {L : ZL} {v w : Value} (hw : z_v ad v = w) (hL : L.length = n) (h : lv_has ls n ((i, w) :: (z_asc ad L).filter (fun q => !(q.1 == i) && (!(q.1 == i + 1) && !(q.1 + 1 == i && q.2.category == 2))))) : z_has ad ls n (z_st2 L i v) := by
  refine ⟨h.1, h.2.1, ?_, fun j x hj => ?_⟩
  · unfold z_st2
    rw [List.length_set, List.length_set, z_cut_len, hL]
  · unfold z_st2 at hj
    rw [List.getElem?_set] at hj
    split at hj
    · rename_i he
      split at hj
      · cases hj
        subst he
        rw [hw]
        exact h.2.2 (i, w) List.mem_cons_self
      · cases hj
    · rename_i hne
      rw [List.getElem?_set] at hj
      split at hj
      · split at hj
        · cases hj
        · cases hj
      · rename_i hne2
        obtain ⟨h1, h2⟩ := z_cut_at hj
        refine h.2.2 (j, z_v ad x) (List.mem_cons_of_mem _ (List.mem_filter.mpr ⟨z_asc_mem.mpr ⟨x, h1, rfl⟩, ?_⟩))
        simp only [Bool.and_eq_true, Bool.not_eq_true', beq_eq_false_iff_ne, Bool.and_eq_false_iff, z_v_cat]
        refine ⟨fun g => hne g.symm, fun g => hne2 g.symm, ?_⟩
        by_cases hx : j + 1 = i
        · exact Or.inr (fun g => h2 ⟨hx, g⟩)
        · exact Or.inl hx
def z_tys (cA : Nat → ClassId) : List (ClassId × FieldType) := [(cA 0, .int), (cA 1, .byte), (cA 2, .boolean), (cA 3, .long), (cA 4, .object RX0), (cA 5, .object RX2)]
/-- how many slots the cells have -/
def z_sz1 (e : ZE) : Nat := match e with
  | .inl o => (z_cls o.1).2.2
  | .inr a => a.2.1
def z_sz : ZM → Nat
  | [] => 0
  | e :: t => z_sz1 e + z_sz t
theorem z_sz_app (M : ZM) (e : ZE) : z_sz (M ++ [e]) = z_sz M + z_sz1 e := by
  induction M with
  | nil => show z_sz1 e + 0 = 0 + z_sz1 e; omega
  | cons x t ih => show z_sz1 x + z_sz (t ++ [e]) = z_sz1 x + z_sz t + z_sz1 e; omega
theorem z_sz_set : ∀ (M : ZM) (k : Nat) (e x : ZE), M[k]? = some x → z_sz1 e = z_sz1 x → z_sz (M.set k e) = z_sz M := by
  intro M
  induction M with
  | nil => intro k e x h _; cases h
  | cons y t ih =>
    intro k e x h he
    cases k with
    | zero =>
      cases h
      show z_sz1 e + z_sz t = z_sz1 y + z_sz t
      omega
    | succ k =>
      show z_sz1 y + z_sz (t.set k e) = z_sz1 y + z_sz t
      rw [ih k e x h he]
end
section
/-- the three words of the text, by their places -/
def z_byts : List (List Int32) := [z_wch 0, z_wch 1, z_wch 2]
/-- what lies below the cells: the script, the words -/
def z_sp (b : Nat) (sp : Nat → Nat) (S : ZS) (s : State) (H : Heap) : Prop := (∀ k, k < 4 → sp k < b) ∧ va_X (sp 0) S.1 S.2 s H ∧ (∃ adV, vk_S 3 [4, 5, 5] z_byts (fun i => sp (i + 1)) adV (z_A b) s H) ∧ (∀ q ∈ z_strs, ∃ tx, vk_R RX1 q.1 tx (sp (q.2 + 1)) s) ∧ va_AO RX0 s ∧ va_AO RX2 s ∧ va_Z "java/lang/String" "COMPACT_STRINGS" "Z" (.int 1) (z_A b) s H ∧ va_Zq "jdk/internal/util/Preconditions" "SIOOBE_FORMATTER" "Ljava/util/function/BiFunction;" (z_A b) s H
/-- a method's run: the machine, its code, the tables -/
def z_cx (b : Nat) (sp : Nat → Nat) (cA : Nat → ClassId) (D : va_G) (S : ZS) (p : Program) (R : Room) (s : State) (m : MethodId) (args : Array Value) (meth : Method) (c : Code) (y m0 : Nat) : Prop :=
  p.tables.exec = Jvm.exec ∧ c.code = (z_mt y).2.1 ∧ c.maxLocals = (z_mt y).2.2.1 ∧ s.vm.findClass (z_mt y).1.cls = some m.cls ∧ (∀ w ∈ z_gw, w.before args s = true) ∧ va_K D vwCl (z_tys cA) s ∧ z_sp b sp S s s.heap ∧ s.heap.size = b + m0 ∧ ((z_mt y).1.name = "<init>" → meth.name = "<init>") ∧ z_chk y = true ∧ 6 ≤ R.frames ∧ 300 ≤ R.locals
/-- from every state of the machine that is this one of the small machine -/
def z_K (b : Nat) (sp : Nat → Nat) (cA : Nat → ClassId) (D : va_G) (p : Program) (l : Launch) (e : Env) (R : Room) (s : State) (m : MethodId) (args : Array Value) (below : List Frame) (meth : Method) (c : Code) (Q : State → Prop) (y m0 z0 : Nat) (pc : Nat) (ls : ZL) (st : List Value) (M : ZM) : Prop :=
  ∀ (H : Heap) (locs : List Loc) (lsC : Array Slot), z_wd b sp cA D M H → z_has (z_ad b sp) lsC (z_mt y).2.2.1 ls → va_S (z_A b) s.heap H locs → W p l e R s m args below meth c H locs (M.length - m0) (z_sz M - z0) Q (F0 m pc lsC (st.map (z_v (z_ad b sp))))
theorem z_fin4 {k : Nat} (h : k < 4) : ((Fin.ofNat 4 k : Fin 4) : Nat) = k := Nat.mod_eq_of_lt h
theorem z_ad_lo {b : Nat} {sp : Nat → Nat} {k : Nat} (h : k < 1000) : z_ad b sp k = b + k := if_pos h
theorem z_in_of {i : Int32} {n : Nat} (h : z_in i n = true) : vp_in i n := by
  unfold z_in at h
  unfold vp_in
  simp only [Bool.not_eq_true', Bool.or_eq_false_iff, decide_eq_false_iff_not] at h
  exact fun g => g.elim h.1 h.2
theorem z_cat_of {st : List Value} {ad : Nat → Nat} (h : z_cat st = true) : ((st.map (z_v ad)).map fun v => v.category).sum ≤ 8 := by
  have h1 : (st.map (z_v ad)).map (fun v => v.category) = st.map (fun v => v.category) := by
    rw [List.map_map]
    exact List.map_congr_left (fun v _ => z_v_cat ad v)
  rw [h1]
  exact of_decide_eq_true h
section ZST
variable {b : Nat} {sp : Nat → Nat} {cA : Nat → ClassId} {D : va_G} {S : ZS} {p : Program} {l : Launch} {e : Env} {R : Room} {s : State} {m : MethodId} {args : Array Value} {below : List Frame} {meth : Method} {c : Code} {Q : State → Prop} {y m0 z0 : Nat}
variable {pc nx : Nat} {ls : ZL} {st : List Value} {M : ZM}

theorem z_s_iconst (C : z_cx b sp cA D S p R s m args meth c y m0) {n : Int} (hc : z_code y pc = some (nx, .iconst n)) (k : z_K b sp cA D p l e R s m args below meth c Q y m0 z0 nx ls (.int (Int32.ofInt n) :: st) M) : z_K b sp cA D p l e R s m args below meth c Q y m0 z0 pc ls st M := by
  intro H locs lsC hW hL hS
  obtain ⟨hx, hb, hml, hown, hts, hK, hsp, hbs, hini, hck, hfr, hlo⟩ := C
  have hr := z_rel_of hck hc
  have hk := k H locs lsC hW hL hS
  simp only [z_rel, Bool.or_eq_true] at hr
  rcases hr with hr | hr
  · obtain ⟨hd, rfl⟩ := z_dq_of hr
    exact lv_iconst hx hb hd rfl hk
  · split at hr
    · rename_i q hq
      simp only [Bool.and_eq_true, decide_eq_true_eq] at hr
      obtain ⟨rfl, hv⟩ := hr
      exact lv_bipush hx hb hq hv hk
    · rename_i q hq
      simp only [Bool.and_eq_true, decide_eq_true_eq] at hr
      obtain ⟨rfl, hv⟩ := hr
      exact lv_sipush hx hb hq hv hk
    · rename_i q hq
      simp only [Bool.and_eq_true, decide_eq_true_eq] at hr
      obtain ⟨rfl, hv⟩ := hr
      exact lv_ldc hx hb hown (hts _ (z_w_of hv)) hq hk
    · rename_i q hq
      simp only [Bool.and_eq_true, decide_eq_true_eq] at hr
      obtain ⟨rfl, hv⟩ := hr
      exact lv_ldcw hx hb hown (hts _ (z_w_of hv)) hq hk
    · cases hr
theorem z_s_lcon (C : z_cx b sp cA D S p R s m args meth c y m0) {n : Int} (hc : z_code y pc = some (nx, .goto_w n)) (k : z_K b sp cA D p l e R s m args below meth c Q y m0 z0 nx ls (.long (Int64.ofInt n) :: st) M) : z_K b sp cA D p l e R s m args below meth c Q y m0 z0 pc ls st M := by
  intro H locs lsC hW hL hS
  obtain ⟨hx, hb, hml, hown, hts, hK, hsp, hbs, hini, hck, hfr, hlo⟩ := C
  have hr := z_rel_of hck hc
  have hk := k H locs lsC hW hL hS
  simp only [z_rel] at hr
  split at hr
  · rename_i q hq
    simp only [Bool.and_eq_true, decide_eq_true_eq] at hr
    obtain ⟨rfl, hv⟩ := hr
    exact lv_lconst hx hb hq hv hk
  · rename_i q hq
    simp only [Bool.and_eq_true, decide_eq_true_eq] at hr
    obtain ⟨rfl, hv⟩ := hr
    exact lv_ldc2 hx hb hown (hts _ (z_w_of hv)) hq hk
  · cases hr
theorem z_s_null (C : z_cx b sp cA D S p R s m args meth c y m0) (hc : z_code y pc = some (nx, .aconst_null)) (k : z_K b sp cA D p l e R s m args below meth c Q y m0 z0 nx ls (.null :: st) M) : z_K b sp cA D p l e R s m args below meth c Q y m0 z0 pc ls st M := by
  intro H locs lsC hW hL hS
  obtain ⟨hx, hb, hml, hown, hts, hK, hsp, hbs, hini, hck, hfr, hlo⟩ := C
  have hr := z_rel_of hck hc
  obtain ⟨hd, rfl⟩ := z_dq_of hr
  exact lv_null hx hb hd (k H locs lsC hW hL hS)
theorem z_s_ldc (C : z_cx b sp cA D S p R s m args meth c y m0) {n : Nat} (hn : n < 3) (hc : z_code y pc = some (nx, .ldc n)) (k : z_K b sp cA D p l e R s m args below meth c Q y m0 z0 nx ls (.ref (1001 + n) :: st) M) : z_K b sp cA D p l e R s m args below meth c Q y m0 z0 pc ls st M := by
  intro H locs lsC hW hL hS
  obtain ⟨hx, hb, hml, hown, hts, hK, hsp, hbs, hini, hck, hfr, hlo⟩ := C
  have hr := z_rel_of hck hc
  have hk := k H locs lsC hW hL hS
  simp only [z_rel] at hr
  split at hr
  · rename_i q hq
    simp only [Bool.and_eq_true, decide_eq_true_eq] at hr
    obtain ⟨⟨rfl, ho⟩, hv⟩ := hr
    obtain ⟨tx, hR⟩ := hsp.2.2.2.1 _ hv
    have h1 : z_ad b sp (1001 + n) = sp (n + 1) := by
      unfold z_ad
      rw [if_neg (by omega), show 1001 + n - 1000 = n + 1 by omega]
    have hk : W p l e R s m args below meth c H locs (M.length - m0) (z_sz M - z0) Q (F0 m (pc + 2) lsC (.ref (z_ad b sp (1001 + n)) :: st.map (z_v (z_ad b sp)))) := hk
    rw [h1] at hk
    exact va_ldcS hx hb (ho ▸ hown) hR hq hk
  · cases hr
theorem z_s_iload (C : z_cx b sp cA D S p R s m args meth c y m0) {n : Nat} {x : Int32} (hl : ls[n]? = some (some (.int x))) (hc : z_code y pc = some (nx, .iload n)) (k : z_K b sp cA D p l e R s m args below meth c Q y m0 z0 nx ls (.int x :: st) M) : z_K b sp cA D p l e R s m args below meth c Q y m0 z0 pc ls st M := by
  intro H locs lsC hW hL hS
  obtain ⟨hx, hb, hml, hown, hts, hK, hsp, hbs, hini, hck, hfr, hlo⟩ := C
  have hr := z_rel_of hck hc
  have hk := k H locs lsC hW hL hS
  have hv := hL.2.2.2 _ _ hl
  simp only [z_rel, Bool.or_eq_true, Bool.and_eq_true, decide_eq_true_eq] at hr
  rcases hr with hr | ⟨h4, hr⟩
  · obtain ⟨hd, rfl⟩ := z_dq_of hr
    exact lv_iload hx hb hd hv hk
  · obtain ⟨hd, rfl⟩ := z_dq_of hr
    exact lv_iload_n hx hb hd (z_fin4 h4) hv hk
theorem z_s_lload (C : z_cx b sp cA D S p R s m args meth c y m0) {n : Nat} {x : Int64} (hl : ls[n]? = some (some (.long x))) (hc : z_code y pc = some (nx, .lload n)) (k : z_K b sp cA D p l e R s m args below meth c Q y m0 z0 nx ls (.long x :: st) M) : z_K b sp cA D p l e R s m args below meth c Q y m0 z0 pc ls st M := by
  intro H locs lsC hW hL hS
  obtain ⟨hx, hb, hml, hown, hts, hK, hsp, hbs, hini, hck, hfr, hlo⟩ := C
  have hr := z_rel_of hck hc
  have hk := k H locs lsC hW hL hS
  have hv := hL.2.2.2 _ _ hl
  simp only [z_rel, Bool.or_eq_true, Bool.and_eq_true, decide_eq_true_eq] at hr
  rcases hr with hr | ⟨h4, hr⟩
  · obtain ⟨hd, rfl⟩ := z_dq_of hr
    exact lv_lload hx hb hd hv hk
  · obtain ⟨hd, rfl⟩ := z_dq_of hr
    exact lv_lload_n hx hb hd (z_fin4 h4) hv hk
theorem z_s_aload (C : z_cx b sp cA D S p R s m args meth c y m0) {n : Nat} {x : Nat} (hl : ls[n]? = some (some (.ref x))) (hc : z_code y pc = some (nx, .aload n)) (k : z_K b sp cA D p l e R s m args below meth c Q y m0 z0 nx ls (.ref x :: st) M) : z_K b sp cA D p l e R s m args below meth c Q y m0 z0 pc ls st M := by
  intro H locs lsC hW hL hS
  obtain ⟨hx, hb, hml, hown, hts, hK, hsp, hbs, hini, hck, hfr, hlo⟩ := C
  have hr := z_rel_of hck hc
  have hk := k H locs lsC hW hL hS
  have hv := hL.2.2.2 _ _ hl
  simp only [z_rel, Bool.or_eq_true, Bool.and_eq_true, decide_eq_true_eq] at hr
  rcases hr with hr | ⟨h4, hr⟩
  · obtain ⟨hd, rfl⟩ := z_dq_of hr
    exact lv_aload hx hb hd hv hk
  · obtain ⟨hd, rfl⟩ := z_dq_of hr
    exact lv_aload_n hx hb hd (z_fin4 h4) hv hk
theorem z_s_aloadN (C : z_cx b sp cA D S p R s m args meth c y m0) {n : Nat} (hl : ls[n]? = some (some (.null))) (hc : z_code y pc = some (nx, .aload n)) (k : z_K b sp cA D p l e R s m args below meth c Q y m0 z0 nx ls (.null :: st) M) : z_K b sp cA D p l e R s m args below meth c Q y m0 z0 pc ls st M := by
  intro H locs lsC hW hL hS
  obtain ⟨hx, hb, hml, hown, hts, hK, hsp, hbs, hini, hck, hfr, hlo⟩ := C
  have hr := z_rel_of hck hc
  have hk := k H locs lsC hW hL hS
  have hv := hL.2.2.2 _ _ hl
  simp only [z_rel, Bool.or_eq_true, Bool.and_eq_true, decide_eq_true_eq] at hr
  rcases hr with hr | ⟨h4, hr⟩
  · obtain ⟨hd, rfl⟩ := z_dq_of hr
    exact lv_aloadN hx hb hd hv hk
  · obtain ⟨hd, rfl⟩ := z_dq_of hr
    exact lv_aload_nN hx hb hd (z_fin4 h4) hv hk
theorem z_s_istore (C : z_cx b sp cA D S p R s m args meth c y m0) {n : Nat} {x : Int32} (hl : n < ls.length) (hc : z_code y pc = some (nx, .istore n)) (k : z_K b sp cA D p l e R s m args below meth c Q y m0 z0 nx (z_st1 ls n (.int x)) st M) : z_K b sp cA D p l e R s m args below meth c Q y m0 z0 pc ls (.int x :: st) M := by
  intro H locs lsC hW hL hS
  obtain ⟨hx, hb, hml, hown, hts, hK, hsp, hbs, hini, hck, hfr, hlo⟩ := C
  have hr := z_rel_of hck hc
  rw [hL.2.2.1] at hl
  simp only [z_rel, Bool.or_eq_true, Bool.and_eq_true, decide_eq_true_eq] at hr
  rcases hr with hr | ⟨h4, hr⟩
  · obtain ⟨hd, rfl⟩ := z_dq_of hr
    exact lv_istore hx hb hd hL.lv hl rfl (fun ls' h' => k H locs ls' hW (z_has.st1 rfl hL.2.2.1 h') hS)
  · obtain ⟨hd, rfl⟩ := z_dq_of hr
    exact lv_istore_n hx hb hd (z_fin4 h4) hL.lv hl rfl (fun ls' h' => k H locs ls' hW (z_has.st1 rfl hL.2.2.1 h') hS)
theorem z_s_lstore (C : z_cx b sp cA D S p R s m args meth c y m0) {n : Nat} {x : Int64} (hl : n + 1 < ls.length) (hc : z_code y pc = some (nx, .lstore n)) (k : z_K b sp cA D p l e R s m args below meth c Q y m0 z0 nx (z_st2 ls n (.long x)) st M) : z_K b sp cA D p l e R s m args below meth c Q y m0 z0 pc ls (.long x :: st) M := by
  intro H locs lsC hW hL hS
  obtain ⟨hx, hb, hml, hown, hts, hK, hsp, hbs, hini, hck, hfr, hlo⟩ := C
  have hr := z_rel_of hck hc
  rw [hL.2.2.1] at hl
  simp only [z_rel, Bool.or_eq_true, Bool.and_eq_true, decide_eq_true_eq] at hr
  rcases hr with hr | ⟨h4, hr⟩
  · obtain ⟨hd, rfl⟩ := z_dq_of hr
    exact lv_lstore hx hb hd hL.lv hl rfl (fun ls' h' => k H locs ls' hW (z_has.st2 rfl hL.2.2.1 h') hS)
  · obtain ⟨hd, rfl⟩ := z_dq_of hr
    exact lv_lstore_n hx hb hd (z_fin4 h4) hL.lv hl rfl (fun ls' h' => k H locs ls' hW (z_has.st2 rfl hL.2.2.1 h') hS)
theorem z_s_astore (C : z_cx b sp cA D S p R s m args meth c y m0) {n : Nat} {x : Nat} (hl : n < ls.length) (hc : z_code y pc = some (nx, .astore n)) (k : z_K b sp cA D p l e R s m args below meth c Q y m0 z0 nx (z_st1 ls n (.ref x)) st M) : z_K b sp cA D p l e R s m args below meth c Q y m0 z0 pc ls (.ref x :: st) M := by
  intro H locs lsC hW hL hS
  obtain ⟨hx, hb, hml, hown, hts, hK, hsp, hbs, hini, hck, hfr, hlo⟩ := C
  have hr := z_rel_of hck hc
  rw [hL.2.2.1] at hl
  simp only [z_rel, Bool.or_eq_true, Bool.and_eq_true, decide_eq_true_eq] at hr
  rcases hr with hr | ⟨h4, hr⟩
  · obtain ⟨hd, rfl⟩ := z_dq_of hr
    exact lv_astore hx hb hd hL.lv hl rfl (fun ls' h' => k H locs ls' hW (z_has.st1 rfl hL.2.2.1 h') hS)
  · obtain ⟨hd, rfl⟩ := z_dq_of hr
    exact lv_astore_n hx hb hd (z_fin4 h4) hL.lv hl rfl (fun ls' h' => k H locs ls' hW (z_has.st1 rfl hL.2.2.1 h') hS)
theorem z_s_astoreN (C : z_cx b sp cA D S p R s m args meth c y m0) {n : Nat} (hl : n < ls.length) (hc : z_code y pc = some (nx, .astore n)) (k : z_K b sp cA D p l e R s m args below meth c Q y m0 z0 nx (z_st1 ls n (.null)) st M) : z_K b sp cA D p l e R s m args below meth c Q y m0 z0 pc ls (.null :: st) M := by
  intro H locs lsC hW hL hS
  obtain ⟨hx, hb, hml, hown, hts, hK, hsp, hbs, hini, hck, hfr, hlo⟩ := C
  have hr := z_rel_of hck hc
  rw [hL.2.2.1] at hl
  simp only [z_rel, Bool.or_eq_true, Bool.and_eq_true, decide_eq_true_eq] at hr
  rcases hr with hr | ⟨h4, hr⟩
  · obtain ⟨hd, rfl⟩ := z_dq_of hr
    exact lv_astoreN hx hb hd hL.lv hl rfl (fun ls' h' => k H locs ls' hW (z_has.st1 rfl hL.2.2.1 h') hS)
  · obtain ⟨hd, rfl⟩ := z_dq_of hr
    exact lv_astore_nN hx hb hd (z_fin4 h4) hL.lv hl rfl (fun ls' h' => k H locs ls' hW (z_has.st1 rfl hL.2.2.1 h') hS)
theorem z_s_iinc (C : z_cx b sp cA D S p R s m args meth c y m0) {n : Nat} {v : Int} {x : Int32} (hl : ls[n]? = some (some (.int x))) (hc : z_code y pc = some (nx, .iinc n v)) (k : z_K b sp cA D p l e R s m args below meth c Q y m0 z0 nx (z_st1 ls n (.int (x + Int32.ofInt v))) st M) : z_K b sp cA D p l e R s m args below meth c Q y m0 z0 pc ls st M := by
  intro H locs lsC hW hL hS
  obtain ⟨hx, hb, hml, hown, hts, hK, hsp, hbs, hini, hck, hfr, hlo⟩ := C
  have hr := z_rel_of hck hc
  obtain ⟨hd, rfl⟩ := z_dq_of hr
  have hn : n < (z_mt y).2.2.1 := by
    rw [← hL.2.2.1]
    exact (List.getElem?_eq_some_iff.mp hl).1
  obtain ⟨i, hi⟩ := List.getElem?_of_mem (z_asc_mem.mpr ⟨_, hl, rfl⟩ : ((n, z_v (z_ad b sp) (.int x)) : Nat × Value) ∈ z_asc (z_ad b sp) ls)
  exact lv_iinc hx hb hd hL.lv (k := i) hi rfl hn rfl (fun ls' h' => k H locs ls' hW (z_has.st1 rfl hL.2.2.1 h') hS)
theorem z_s_iadd (C : z_cx b sp cA D S p R s m args meth c y m0) {a1 a2 : Int32} (hc : z_code y pc = some (nx, .iadd)) (k : z_K b sp cA D p l e R s m args below meth c Q y m0 z0 nx ls (.int (a2 + a1) :: st) M) : z_K b sp cA D p l e R s m args below meth c Q y m0 z0 pc ls (.int a1 :: .int a2 :: st) M := by
  intro H locs lsC hW hL hS
  obtain ⟨hx, hb, hml, hown, hts, hK, hsp, hbs, hini, hck, hfr, hlo⟩ := C
  have hr := z_rel_of hck hc
  obtain ⟨hd, rfl⟩ := z_dq_of hr
  exact lv_iadd hx hb hd (k H locs lsC hW hL hS)
theorem z_s_isub (C : z_cx b sp cA D S p R s m args meth c y m0) {a1 a2 : Int32} (hc : z_code y pc = some (nx, .isub)) (k : z_K b sp cA D p l e R s m args below meth c Q y m0 z0 nx ls (.int (a2 - a1) :: st) M) : z_K b sp cA D p l e R s m args below meth c Q y m0 z0 pc ls (.int a1 :: .int a2 :: st) M := by
  intro H locs lsC hW hL hS
  obtain ⟨hx, hb, hml, hown, hts, hK, hsp, hbs, hini, hck, hfr, hlo⟩ := C
  have hr := z_rel_of hck hc
  obtain ⟨hd, rfl⟩ := z_dq_of hr
  exact lv_isub hx hb hd (k H locs lsC hW hL hS)
theorem z_s_imul (C : z_cx b sp cA D S p R s m args meth c y m0) {a1 a2 : Int32} (hc : z_code y pc = some (nx, .imul)) (k : z_K b sp cA D p l e R s m args below meth c Q y m0 z0 nx ls (.int (a2 * a1) :: st) M) : z_K b sp cA D p l e R s m args below meth c Q y m0 z0 pc ls (.int a1 :: .int a2 :: st) M := by
  intro H locs lsC hW hL hS
  obtain ⟨hx, hb, hml, hown, hts, hK, hsp, hbs, hini, hck, hfr, hlo⟩ := C
  have hr := z_rel_of hck hc
  obtain ⟨hd, rfl⟩ := z_dq_of hr
  exact lv_imul hx hb hd (k H locs lsC hW hL hS)
theorem z_s_iand (C : z_cx b sp cA D S p R s m args meth c y m0) {a1 a2 : Int32} (hc : z_code y pc = some (nx, .iand)) (k : z_K b sp cA D p l e R s m args below meth c Q y m0 z0 nx ls (.int (a2 &&& a1) :: st) M) : z_K b sp cA D p l e R s m args below meth c Q y m0 z0 pc ls (.int a1 :: .int a2 :: st) M := by
  intro H locs lsC hW hL hS
  obtain ⟨hx, hb, hml, hown, hts, hK, hsp, hbs, hini, hck, hfr, hlo⟩ := C
  have hr := z_rel_of hck hc
  obtain ⟨hd, rfl⟩ := z_dq_of hr
  exact lv_iand hx hb hd (k H locs lsC hW hL hS)
theorem z_s_ior (C : z_cx b sp cA D S p R s m args meth c y m0) {a1 a2 : Int32} (hc : z_code y pc = some (nx, .ior)) (k : z_K b sp cA D p l e R s m args below meth c Q y m0 z0 nx ls (.int (a2 ||| a1) :: st) M) : z_K b sp cA D p l e R s m args below meth c Q y m0 z0 pc ls (.int a1 :: .int a2 :: st) M := by
  intro H locs lsC hW hL hS
  obtain ⟨hx, hb, hml, hown, hts, hK, hsp, hbs, hini, hck, hfr, hlo⟩ := C
  have hr := z_rel_of hck hc
  obtain ⟨hd, rfl⟩ := z_dq_of hr
  exact lv_ior hx hb hd (k H locs lsC hW hL hS)
theorem z_s_ixor (C : z_cx b sp cA D S p R s m args meth c y m0) {a1 a2 : Int32} (hc : z_code y pc = some (nx, .ixor)) (k : z_K b sp cA D p l e R s m args below meth c Q y m0 z0 nx ls (.int (a2 ^^^ a1) :: st) M) : z_K b sp cA D p l e R s m args below meth c Q y m0 z0 pc ls (.int a1 :: .int a2 :: st) M := by
  intro H locs lsC hW hL hS
  obtain ⟨hx, hb, hml, hown, hts, hK, hsp, hbs, hini, hck, hfr, hlo⟩ := C
  have hr := z_rel_of hck hc
  obtain ⟨hd, rfl⟩ := z_dq_of hr
  exact lv_ixor hx hb hd (k H locs lsC hW hL hS)
theorem z_s_ishl (C : z_cx b sp cA D S p R s m args meth c y m0) {a1 a2 : Int32} (hc : z_code y pc = some (nx, .ishl)) (k : z_K b sp cA D p l e R s m args below meth c Q y m0 z0 nx ls (.int (a2 <<< (a1 &&& 31)) :: st) M) : z_K b sp cA D p l e R s m args below meth c Q y m0 z0 pc ls (.int a1 :: .int a2 :: st) M := by
  intro H locs lsC hW hL hS
  obtain ⟨hx, hb, hml, hown, hts, hK, hsp, hbs, hini, hck, hfr, hlo⟩ := C
  have hr := z_rel_of hck hc
  obtain ⟨hd, rfl⟩ := z_dq_of hr
  exact lv_ishl hx hb hd (k H locs lsC hW hL hS)
theorem z_s_ishr (C : z_cx b sp cA D S p R s m args meth c y m0) {a1 a2 : Int32} (hc : z_code y pc = some (nx, .ishr)) (k : z_K b sp cA D p l e R s m args below meth c Q y m0 z0 nx ls (.int (a2 >>> (a1 &&& 31)) :: st) M) : z_K b sp cA D p l e R s m args below meth c Q y m0 z0 pc ls (.int a1 :: .int a2 :: st) M := by
  intro H locs lsC hW hL hS
  obtain ⟨hx, hb, hml, hown, hts, hK, hsp, hbs, hini, hck, hfr, hlo⟩ := C
  have hr := z_rel_of hck hc
  obtain ⟨hd, rfl⟩ := z_dq_of hr
  exact lv_ishr hx hb hd (k H locs lsC hW hL hS)
theorem z_s_iushr (C : z_cx b sp cA D S p R s m args meth c y m0) {a1 a2 : Int32} (hc : z_code y pc = some (nx, .iushr)) (k : z_K b sp cA D p l e R s m args below meth c Q y m0 z0 nx ls (.int ((a2.toUInt32 >>> (a1.toUInt32 &&& Int32.toUInt32 31)).toInt32) :: st) M) : z_K b sp cA D p l e R s m args below meth c Q y m0 z0 pc ls (.int a1 :: .int a2 :: st) M := by
  intro H locs lsC hW hL hS
  obtain ⟨hx, hb, hml, hown, hts, hK, hsp, hbs, hini, hck, hfr, hlo⟩ := C
  have hr := z_rel_of hck hc
  obtain ⟨hd, rfl⟩ := z_dq_of hr
  exact lv_iushr hx hb hd rfl (k H locs lsC hW hL hS)
theorem z_s_idiv (C : z_cx b sp cA D S p R s m args meth c y m0) {a1 a2 : Int32} (hne : ¬ a1 = 0) (hc : z_code y pc = some (nx, .idiv)) (k : z_K b sp cA D p l e R s m args below meth c Q y m0 z0 nx ls (.int (a2 / a1) :: st) M) : z_K b sp cA D p l e R s m args below meth c Q y m0 z0 pc ls (.int a1 :: .int a2 :: st) M := by
  intro H locs lsC hW hL hS
  obtain ⟨hx, hb, hml, hown, hts, hK, hsp, hbs, hini, hck, hfr, hlo⟩ := C
  have hr := z_rel_of hck hc
  obtain ⟨hd, rfl⟩ := z_dq_of hr
  exact lv_idiv hx hb hd hne (k H locs lsC hW hL hS)
theorem z_s_irem (C : z_cx b sp cA D S p R s m args meth c y m0) {a1 a2 : Int32} (hne : ¬ a1 = 0) (hc : z_code y pc = some (nx, .irem)) (k : z_K b sp cA D p l e R s m args below meth c Q y m0 z0 nx ls (.int (a2 - a2 / a1 * a1) :: st) M) : z_K b sp cA D p l e R s m args below meth c Q y m0 z0 pc ls (.int a1 :: .int a2 :: st) M := by
  intro H locs lsC hW hL hS
  obtain ⟨hx, hb, hml, hown, hts, hK, hsp, hbs, hini, hck, hfr, hlo⟩ := C
  have hr := z_rel_of hck hc
  obtain ⟨hd, rfl⟩ := z_dq_of hr
  exact lv_irem hx hb hd hne (k H locs lsC hW hL hS)
theorem z_s_ladd (C : z_cx b sp cA D S p R s m args meth c y m0) {a1 a2 : Int64} (hc : z_code y pc = some (nx, .ladd)) (k : z_K b sp cA D p l e R s m args below meth c Q y m0 z0 nx ls (.long (a2 + a1) :: st) M) : z_K b sp cA D p l e R s m args below meth c Q y m0 z0 pc ls (.long a1 :: .long a2 :: st) M := by
  intro H locs lsC hW hL hS
  obtain ⟨hx, hb, hml, hown, hts, hK, hsp, hbs, hini, hck, hfr, hlo⟩ := C
  have hr := z_rel_of hck hc
  obtain ⟨hd, rfl⟩ := z_dq_of hr
  exact lv_ladd hx hb hd (k H locs lsC hW hL hS)
theorem z_s_land (C : z_cx b sp cA D S p R s m args meth c y m0) {a1 a2 : Int64} (hc : z_code y pc = some (nx, .land)) (k : z_K b sp cA D p l e R s m args below meth c Q y m0 z0 nx ls (.long (a2 &&& a1) :: st) M) : z_K b sp cA D p l e R s m args below meth c Q y m0 z0 pc ls (.long a1 :: .long a2 :: st) M := by
  intro H locs lsC hW hL hS
  obtain ⟨hx, hb, hml, hown, hts, hK, hsp, hbs, hini, hck, hfr, hlo⟩ := C
  have hr := z_rel_of hck hc
  obtain ⟨hd, rfl⟩ := z_dq_of hr
  exact lv_land hx hb hd (k H locs lsC hW hL hS)
theorem z_s_lor (C : z_cx b sp cA D S p R s m args meth c y m0) {a1 a2 : Int64} (hc : z_code y pc = some (nx, .lor)) (k : z_K b sp cA D p l e R s m args below meth c Q y m0 z0 nx ls (.long (a2 ||| a1) :: st) M) : z_K b sp cA D p l e R s m args below meth c Q y m0 z0 pc ls (.long a1 :: .long a2 :: st) M := by
  intro H locs lsC hW hL hS
  obtain ⟨hx, hb, hml, hown, hts, hK, hsp, hbs, hini, hck, hfr, hlo⟩ := C
  have hr := z_rel_of hck hc
  obtain ⟨hd, rfl⟩ := z_dq_of hr
  exact lv_lor hx hb hd (k H locs lsC hW hL hS)
theorem z_s_lshl (C : z_cx b sp cA D S p R s m args meth c y m0) {a1 : Int32} {a2 : Int64} (hc : z_code y pc = some (nx, .lshl)) (k : z_K b sp cA D p l e R s m args below meth c Q y m0 z0 nx ls (.long (a2 <<< (a1.toInt64 &&& 63)) :: st) M) : z_K b sp cA D p l e R s m args below meth c Q y m0 z0 pc ls (.int a1 :: .long a2 :: st) M := by
  intro H locs lsC hW hL hS
  obtain ⟨hx, hb, hml, hown, hts, hK, hsp, hbs, hini, hck, hfr, hlo⟩ := C
  have hr := z_rel_of hck hc
  obtain ⟨hd, rfl⟩ := z_dq_of hr
  exact lv_lshl hx hb hd rfl (k H locs lsC hW hL hS)
theorem z_s_lshr (C : z_cx b sp cA D S p R s m args meth c y m0) {a1 : Int32} {a2 : Int64} (hc : z_code y pc = some (nx, .lshr)) (k : z_K b sp cA D p l e R s m args below meth c Q y m0 z0 nx ls (.long (a2 >>> (a1.toInt64 &&& 63)) :: st) M) : z_K b sp cA D p l e R s m args below meth c Q y m0 z0 pc ls (.int a1 :: .long a2 :: st) M := by
  intro H locs lsC hW hL hS
  obtain ⟨hx, hb, hml, hown, hts, hK, hsp, hbs, hini, hck, hfr, hlo⟩ := C
  have hr := z_rel_of hck hc
  obtain ⟨hd, rfl⟩ := z_dq_of hr
  exact lv_lshr hx hb hd rfl (k H locs lsC hW hL hS)
theorem z_s_lushr (C : z_cx b sp cA D S p R s m args meth c y m0) {a1 : Int32} {a2 : Int64} (hc : z_code y pc = some (nx, .lushr)) (k : z_K b sp cA D p l e R s m args below meth c Q y m0 z0 nx ls (.long ((a2.toUInt64 >>> (a1.toInt64.toUInt64 &&& Int64.toUInt64 63)).toInt64) :: st) M) : z_K b sp cA D p l e R s m args below meth c Q y m0 z0 pc ls (.int a1 :: .long a2 :: st) M := by
  intro H locs lsC hW hL hS
  obtain ⟨hx, hb, hml, hown, hts, hK, hsp, hbs, hini, hck, hfr, hlo⟩ := C
  have hr := z_rel_of hck hc
  obtain ⟨hd, rfl⟩ := z_dq_of hr
  exact lv_lushr hx hb hd rfl (k H locs lsC hW hL hS)
theorem z_s_lcmp (C : z_cx b sp cA D S p R s m args meth c y m0) {a1 a2 : Int64} (hc : z_code y pc = some (nx, .lcmp)) (k : z_K b sp cA D p l e R s m args below meth c Q y m0 z0 nx ls (.int (lg_cmp a2 a1) :: st) M) : z_K b sp cA D p l e R s m args below meth c Q y m0 z0 pc ls (.long a1 :: .long a2 :: st) M := by
  intro H locs lsC hW hL hS
  obtain ⟨hx, hb, hml, hown, hts, hK, hsp, hbs, hini, hck, hfr, hlo⟩ := C
  have hr := z_rel_of hck hc
  obtain ⟨hd, rfl⟩ := z_dq_of hr
  exact W.lcmp hx hb hd (k H locs lsC hW hL hS)
theorem z_s_i2l (C : z_cx b sp cA D S p R s m args meth c y m0) {a1 : Int32} (hc : z_code y pc = some (nx, .i2l)) (k : z_K b sp cA D p l e R s m args below meth c Q y m0 z0 nx ls (.long a1.toInt64 :: st) M) : z_K b sp cA D p l e R s m args below meth c Q y m0 z0 pc ls (.int a1 :: st) M := by
  intro H locs lsC hW hL hS
  obtain ⟨hx, hb, hml, hown, hts, hK, hsp, hbs, hini, hck, hfr, hlo⟩ := C
  have hr := z_rel_of hck hc
  obtain ⟨hd, rfl⟩ := z_dq_of hr
  exact lv_i2l hx hb hd rfl (k H locs lsC hW hL hS)
theorem z_s_l2i (C : z_cx b sp cA D S p R s m args meth c y m0) {a1 : Int64} (hc : z_code y pc = some (nx, .l2i)) (k : z_K b sp cA D p l e R s m args below meth c Q y m0 z0 nx ls (.int a1.toInt32 :: st) M) : z_K b sp cA D p l e R s m args below meth c Q y m0 z0 pc ls (.long a1 :: st) M := by
  intro H locs lsC hW hL hS
  obtain ⟨hx, hb, hml, hown, hts, hK, hsp, hbs, hini, hck, hfr, hlo⟩ := C
  have hr := z_rel_of hck hc
  obtain ⟨hd, rfl⟩ := z_dq_of hr
  exact lv_l2i hx hb hd rfl (k H locs lsC hW hL hS)
theorem z_s_i2b (C : z_cx b sp cA D S p R s m args meth c y m0) {a1 : Int32} (hc : z_code y pc = some (nx, .i2b)) (k : z_K b sp cA D p l e R s m args below meth c Q y m0 z0 nx ls (.int a1.toInt8.toInt32 :: st) M) : z_K b sp cA D p l e R s m args below meth c Q y m0 z0 pc ls (.int a1 :: st) M := by
  intro H locs lsC hW hL hS
  obtain ⟨hx, hb, hml, hown, hts, hK, hsp, hbs, hini, hck, hfr, hlo⟩ := C
  have hr := z_rel_of hck hc
  obtain ⟨hd, rfl⟩ := z_dq_of hr
  exact lv_i2b hx hb hd rfl (k H locs lsC hW hL hS)
theorem z_s_dup (C : z_cx b sp cA D S p R s m args meth c y m0) {v : Value} (h1 : v.category = 1) (hc : z_code y pc = some (nx, .dup)) (k : z_K b sp cA D p l e R s m args below meth c Q y m0 z0 nx ls (v :: v :: st) M) : z_K b sp cA D p l e R s m args below meth c Q y m0 z0 pc ls (v :: st) M := by
  intro H locs lsC hW hL hS
  obtain ⟨hx, hb, hml, hown, hts, hK, hsp, hbs, hini, hck, hfr, hlo⟩ := C
  have hr := z_rel_of hck hc
  obtain ⟨hd, rfl⟩ := z_dq_of hr
  exact lv_dup hx hb hd ((z_v_cat _ v).trans h1) (k H locs lsC hW hL hS)
theorem z_s_dup2 (C : z_cx b sp cA D S p R s m args meth c y m0) {v w : Value} (h1 : v.category = 1) (h2 : w.category = 1) (hc : z_code y pc = some (nx, .dup2)) (k : z_K b sp cA D p l e R s m args below meth c Q y m0 z0 nx ls (v :: w :: v :: w :: st) M) : z_K b sp cA D p l e R s m args below meth c Q y m0 z0 pc ls (v :: w :: st) M := by
  intro H locs lsC hW hL hS
  obtain ⟨hx, hb, hml, hown, hts, hK, hsp, hbs, hini, hck, hfr, hlo⟩ := C
  have hr := z_rel_of hck hc
  obtain ⟨hd, rfl⟩ := z_dq_of hr
  exact lv_dup2_11 hx hb hd ((z_v_cat _ v).trans h1) ((z_v_cat _ w).trans h2) (k H locs lsC hW hL hS)
theorem z_s_pop (C : z_cx b sp cA D S p R s m args meth c y m0) {v : Value} (h1 : v.category = 1) (hc : z_code y pc = some (nx, .pop)) (k : z_K b sp cA D p l e R s m args below meth c Q y m0 z0 nx ls st M) : z_K b sp cA D p l e R s m args below meth c Q y m0 z0 pc ls (v :: st) M := by
  intro H locs lsC hW hL hS
  obtain ⟨hx, hb, hml, hown, hts, hK, hsp, hbs, hini, hck, hfr, hlo⟩ := C
  have hr := z_rel_of hck hc
  obtain ⟨hd, rfl⟩ := z_dq_of hr
  exact lv_pop hx hb hd ((z_v_cat _ v).trans h1) (k H locs lsC hW hL hS)
theorem z_s_goto (C : z_cx b sp cA D S p R s m args meth c y m0) {t : Nat} (hc : z_code y pc = some (nx, .ret t)) (k : z_K b sp cA D p l e R s m args below meth c Q y m0 z0 t ls st M) : z_K b sp cA D p l e R s m args below meth c Q y m0 z0 pc ls st M := by
  intro H locs lsC hW hL hS
  obtain ⟨hx, hb, hml, hown, hts, hK, hsp, hbs, hini, hck, hfr, hlo⟩ := C
  have hr := z_rel_of hck hc
  obtain ⟨hd, rfl⟩ := z_dq_of hr
  exact lv_goto hx hb hd (by omega) (k H locs lsC hW hL hS)
theorem z_s_icmp (C : z_cx b sp cA D S p R s m args meth c y m0) {q t : Nat} {a1 a2 : Int32} (hc : z_code y pc = some (nx, .invokeinterface q t)) (k : z_K b sp cA D p l e R s m args below meth c Q y m0 z0 (if z_cc q a2 a1 = true then t else nx) ls st M) : z_K b sp cA D p l e R s m args below meth c Q y m0 z0 pc ls (.int a1 :: .int a2 :: st) M := by
  intro H locs lsC hW hL hS
  obtain ⟨hx, hb, hml, hown, hts, hK, hsp, hbs, hini, hck, hfr, hlo⟩ := C
  have hr := z_rel_of hck hc
  simp only [z_rel, Bool.and_eq_true, decide_eq_true_eq] at hr
  obtain ⟨h6, hr⟩ := hr
  obtain ⟨hd, rfl⟩ := z_dq_of hr
  match q, h6 with
  | 0, _ =>
    refine lv_icmp_eq hx hb hd (tgt := t) (by omega) (fun g => ?_) (fun g => ?_)
    · have k := k H locs lsC hW hL hS
      rw [if_pos (by simp [z_cc, g])] at k
      exact k
    · have k := k H locs lsC hW hL hS
      rw [if_neg (by simp [z_cc]; first | exact g | exact Classical.not_not.mp g | exact Int32.not_lt.mp g | exact Int32.not_le.mp g)] at k
      exact k
  | 1, _ =>
    refine lv_icmp_ne hx hb hd (tgt := t) (by omega) (fun g => ?_) (fun g => ?_)
    · have k := k H locs lsC hW hL hS
      rw [if_pos (by simp [z_cc, g])] at k
      exact k
    · have k := k H locs lsC hW hL hS
      rw [if_neg (by simp [z_cc]; first | exact g | exact Classical.not_not.mp g | exact Int32.not_lt.mp g | exact Int32.not_le.mp g)] at k
      exact k
  | 2, _ =>
    refine lv_icmp_lt hx hb hd (tgt := t) (by omega) (fun g => ?_) (fun g => ?_)
    · have k := k H locs lsC hW hL hS
      rw [if_pos (by simp [z_cc, g])] at k
      exact k
    · have k := k H locs lsC hW hL hS
      rw [if_neg (by simp [z_cc]; first | exact g | exact Classical.not_not.mp g | exact Int32.not_lt.mp g | exact Int32.not_le.mp g)] at k
      exact k
  | 3, _ =>
    refine lv_icmp_ge hx hb hd (tgt := t) (by omega) (fun g => ?_) (fun g => ?_)
    · have k := k H locs lsC hW hL hS
      rw [if_pos (by simp [z_cc, g])] at k
      exact k
    · have k := k H locs lsC hW hL hS
      rw [if_neg (by simp [z_cc]; first | exact g | exact Classical.not_not.mp g | exact Int32.not_lt.mp g | exact Int32.not_le.mp g)] at k
      exact k
  | 4, _ =>
    refine lv_icmp_gt hx hb hd (tgt := t) (by omega) (fun g => ?_) (fun g => ?_)
    · have k := k H locs lsC hW hL hS
      rw [if_pos (by simp [z_cc, g])] at k
      exact k
    · have k := k H locs lsC hW hL hS
      rw [if_neg (by simp [z_cc]; first | exact g | exact Classical.not_not.mp g | exact Int32.not_lt.mp g | exact Int32.not_le.mp g)] at k
      exact k
  | 5, _ =>
    refine lv_icmp_le hx hb hd (tgt := t) (by omega) (fun g => ?_) (fun g => ?_)
    · have k := k H locs lsC hW hL hS
      rw [if_pos (by simp [z_cc, g])] at k
      exact k
    · have k := k H locs lsC hW hL hS
      rw [if_neg (by simp [z_cc]; first | exact g | exact Classical.not_not.mp g | exact Int32.not_lt.mp g | exact Int32.not_le.mp g)] at k
      exact k
theorem z_s_if (C : z_cx b sp cA D S p R s m args meth c y m0) {q t : Nat} {a1 : Int32} (hc : z_code y pc = some (nx, .multianewarray q t)) (k : z_K b sp cA D p l e R s m args below meth c Q y m0 z0 (if z_cc q a1 0 = true then t else nx) ls st M) : z_K b sp cA D p l e R s m args below meth c Q y m0 z0 pc ls (.int a1 :: st) M := by
  intro H locs lsC hW hL hS
  obtain ⟨hx, hb, hml, hown, hts, hK, hsp, hbs, hini, hck, hfr, hlo⟩ := C
  have hr := z_rel_of hck hc
  simp only [z_rel, Bool.and_eq_true, decide_eq_true_eq] at hr
  obtain ⟨h6, hr⟩ := hr
  obtain ⟨hd, rfl⟩ := z_dq_of hr
  match q, h6 with
  | 0, _ =>
    refine lv_if_eq hx hb hd (tgt := t) (by omega) (fun g => ?_) (fun g => ?_)
    · have k := k H locs lsC hW hL hS
      rw [if_pos (by simp [z_cc, g])] at k
      exact k
    · have k := k H locs lsC hW hL hS
      rw [if_neg (by simp [z_cc]; first | exact g | exact Classical.not_not.mp g | exact Int32.not_lt.mp g | exact Int32.not_le.mp g)] at k
      exact k
  | 1, _ =>
    refine lv_if_ne hx hb hd (tgt := t) (by omega) (fun g => ?_) (fun g => ?_)
    · have k := k H locs lsC hW hL hS
      rw [if_pos (by simp [z_cc, g])] at k
      exact k
    · have k := k H locs lsC hW hL hS
      rw [if_neg (by simp [z_cc]; first | exact g | exact Classical.not_not.mp g | exact Int32.not_lt.mp g | exact Int32.not_le.mp g)] at k
      exact k
  | 2, _ =>
    refine lv_if_lt hx hb hd (tgt := t) (by omega) (fun g => ?_) (fun g => ?_)
    · have k := k H locs lsC hW hL hS
      rw [if_pos (by simp [z_cc, g])] at k
      exact k
    · have k := k H locs lsC hW hL hS
      rw [if_neg (by simp [z_cc]; first | exact g | exact Classical.not_not.mp g | exact Int32.not_lt.mp g | exact Int32.not_le.mp g)] at k
      exact k
  | 3, _ =>
    refine lv_if_ge hx hb hd (tgt := t) (by omega) (fun g => ?_) (fun g => ?_)
    · have k := k H locs lsC hW hL hS
      rw [if_pos (by simp [z_cc, g])] at k
      exact k
    · have k := k H locs lsC hW hL hS
      rw [if_neg (by simp [z_cc]; first | exact g | exact Classical.not_not.mp g | exact Int32.not_lt.mp g | exact Int32.not_le.mp g)] at k
      exact k
  | 4, _ =>
    refine lv_if_gt hx hb hd (tgt := t) (by omega) (fun g => ?_) (fun g => ?_)
    · have k := k H locs lsC hW hL hS
      rw [if_pos (by simp [z_cc, g])] at k
      exact k
    · have k := k H locs lsC hW hL hS
      rw [if_neg (by simp [z_cc]; first | exact g | exact Classical.not_not.mp g | exact Int32.not_lt.mp g | exact Int32.not_le.mp g)] at k
      exact k
  | 5, _ =>
    refine lv_if_le hx hb hd (tgt := t) (by omega) (fun g => ?_) (fun g => ?_)
    · have k := k H locs lsC hW hL hS
      rw [if_pos (by simp [z_cc, g])] at k
      exact k
    · have k := k H locs lsC hW hL hS
      rw [if_neg (by simp [z_cc]; first | exact g | exact Classical.not_not.mp g | exact Int32.not_lt.mp g | exact Int32.not_le.mp g)] at k
      exact k
theorem z_s_ifnull (C : z_cx b sp cA D S p R s m args meth c y m0) {t x : Nat} (hc : z_code y pc = some (nx, .dload t)) (k : z_K b sp cA D p l e R s m args below meth c Q y m0 z0 nx ls st M) : z_K b sp cA D p l e R s m args below meth c Q y m0 z0 pc ls (.ref x :: st) M := by
  intro H locs lsC hW hL hS
  obtain ⟨hx, hb, hml, hown, hts, hK, hsp, hbs, hini, hck, hfr, hlo⟩ := C
  have hr := z_rel_of hck hc
  obtain ⟨hd, rfl⟩ := z_dq_of hr
  exact lv_ifnull hx hb hd (k H locs lsC hW hL hS)
theorem z_s_ifnullN (C : z_cx b sp cA D S p R s m args meth c y m0) {t : Nat} (hc : z_code y pc = some (nx, .dload t)) (k : z_K b sp cA D p l e R s m args below meth c Q y m0 z0 t ls st M) : z_K b sp cA D p l e R s m args below meth c Q y m0 z0 pc ls (.null :: st) M := by
  intro H locs lsC hW hL hS
  obtain ⟨hx, hb, hml, hown, hts, hK, hsp, hbs, hini, hck, hfr, hlo⟩ := C
  have hr := z_rel_of hck hc
  obtain ⟨hd, rfl⟩ := z_dq_of hr
  exact lv_ifnullN hx hb hd (by omega) (k H locs lsC hW hL hS)
theorem z_s_ifnonnull (C : z_cx b sp cA D S p R s m args meth c y m0) {t x : Nat} (hc : z_code y pc = some (nx, .dstore t)) (k : z_K b sp cA D p l e R s m args below meth c Q y m0 z0 t ls st M) : z_K b sp cA D p l e R s m args below meth c Q y m0 z0 pc ls (.ref x :: st) M := by
  intro H locs lsC hW hL hS
  obtain ⟨hx, hb, hml, hown, hts, hK, hsp, hbs, hini, hck, hfr, hlo⟩ := C
  have hr := z_rel_of hck hc
  obtain ⟨hd, rfl⟩ := z_dq_of hr
  exact lv_ifnonnull hx hb hd (by omega) (k H locs lsC hW hL hS)
theorem z_s_ifnonnullN (C : z_cx b sp cA D S p R s m args meth c y m0) {t : Nat} (hc : z_code y pc = some (nx, .dstore t)) (k : z_K b sp cA D p l e R s m args below meth c Q y m0 z0 nx ls st M) : z_K b sp cA D p l e R s m args below meth c Q y m0 z0 pc ls (.null :: st) M := by
  intro H locs lsC hW hL hS
  obtain ⟨hx, hb, hml, hown, hts, hK, hsp, hbs, hini, hck, hfr, hlo⟩ := C
  have hr := z_rel_of hck hc
  obtain ⟨hd, rfl⟩ := z_dq_of hr
  exact lv_ifnonnullN hx hb hd (k H locs lsC hW hL hS)
theorem z_s_tabOut (C : z_cx b sp cA D S p R s m args meth c y m0) {d lo hi : Int} {offs : Array Int} {x : Int32} (h : x.toInt < lo ∨ hi < x.toInt) (hc : z_code y pc = some (nx, .tableswitch d lo hi offs)) (k : z_K b sp cA D p l e R s m args below meth c Q y m0 z0 d.toNat ls st M) : z_K b sp cA D p l e R s m args below meth c Q y m0 z0 pc ls (.int x :: st) M := by
  intro H locs lsC hW hL hS
  obtain ⟨hx, hb, hml, hown, hts, hK, hsp, hbs, hini, hck, hfr, hlo⟩ := C
  have hr := z_rel_of hck hc
  simp only [z_rel, Bool.and_eq_true, decide_eq_true_eq] at hr
  obtain ⟨⟨h0, h1⟩, hr⟩ := hr
  split at hr
  · rename_i d' lo' hi' offs' len hq
    simp only [Bool.and_eq_true, decide_eq_true_eq] at hr
    obtain ⟨⟨⟨rfl, rfl⟩, h4⟩, h5⟩ := hr
    exact lv_tableOut hx hb hq h (by omega) (k H locs lsC hW hL hS)
  · cases hr
theorem z_s_tabIn (C : z_cx b sp cA D S p R s m args meth c y m0) {d lo hi : Int} {offs : Array Int} {x : Int32} {v : Int} (h : ¬ (x.toInt < lo ∨ hi < x.toInt)) (ho : offs[(x.toInt - lo).toNat]? = some v) (hc : z_code y pc = some (nx, .tableswitch d lo hi offs)) (k : z_K b sp cA D p l e R s m args below meth c Q y m0 z0 v.toNat ls st M) : z_K b sp cA D p l e R s m args below meth c Q y m0 z0 pc ls (.int x :: st) M := by
  intro H locs lsC hW hL hS
  obtain ⟨hx, hb, hml, hown, hts, hK, hsp, hbs, hini, hck, hfr, hlo⟩ := C
  have hr := z_rel_of hck hc
  simp only [z_rel, Bool.and_eq_true, decide_eq_true_eq] at hr
  obtain ⟨⟨h0, h1⟩, hr⟩ := hr
  split at hr
  · rename_i d' lo' hi' offs' len hq
    simp only [Bool.and_eq_true, decide_eq_true_eq] at hr
    obtain ⟨⟨⟨rfl, rfl⟩, h4⟩, h5⟩ := hr
    have hv : 0 ≤ v := by
      have h2 := Array.all_eq_true_iff_forall_mem.mp h1 v (Array.mem_of_getElem? ho)
      exact of_decide_eq_true h2
    subst h5
    rw [Array.getElem?_map] at ho
    cases hg : offs'[(x.toInt - lo).toNat]? with
    | none => rw [hg] at ho; cases ho
    | some w =>
      rw [hg] at ho
      have ho : w + (pc : Int) = v := Option.some.inj ho
      exact lv_tableIn hx hb hq (fun g => h (Or.inl g)) (fun g => h (Or.inr g)) hg (by omega) (k H locs lsC hW hL hS)
  · cases hr
end ZST
end
section
theorem z_cl {ci : Nat} (h : ci < 7) : vwCl[ci]? = some ((z_cls ci).1, (z_cls ci).2.1, (z_cls ci).2.2) := by
  match ci, h with
  | 0, _ => rfl
  | 1, _ => rfl
  | 2, _ => rfl
  | 3, _ => rfl
  | 4, _ => rfl
  | 5, _ => rfl
  | 6, _ => rfl
theorem z_inc0 : (u_ws RX0 TX0 5).all z_w = true := by decide +kernel
theorem z_inc1 : (u_ws RX1 TX1 9).all z_w = true := by decide +kernel
theorem z_inc2 : (u_ws RX2 TX2 7).all z_w = true := by decide +kernel
theorem z_inc3 : (u_ws RX3 TX3 9).all z_w = true := by decide +kernel
theorem z_inc4 : (u_ws RX4 TX4 10).all z_w = true := by decide +kernel
theorem z_inc5 : (u_ws RX5 TX5 8).all z_w = true := by decide +kernel
theorem z_inc6 : (u_ws RX6 TX6 25).all z_w = true := by decide +kernel
theorem z_inc {ci : Nat} (h : ci < 7) : ∀ w ∈ u_ws (z_cls ci).1 (z_cls ci).2.1 (z_cls ci).2.2, w ∈ z_gw := by
  intro w hw
  match ci, h with
  | 0, _ => exact z_w_of (List.all_eq_true.mp z_inc0 w hw)
  | 1, _ => exact z_w_of (List.all_eq_true.mp z_inc1 w hw)
  | 2, _ => exact z_w_of (List.all_eq_true.mp z_inc2 w hw)
  | 3, _ => exact z_w_of (List.all_eq_true.mp z_inc3 w hw)
  | 4, _ => exact z_w_of (List.all_eq_true.mp z_inc4 w hw)
  | 5, _ => exact z_w_of (List.all_eq_true.mp z_inc5 w hw)
  | 6, _ => exact z_w_of (List.all_eq_true.mp z_inc6 w hw)
theorem z_tyk {ci : Nat} (h : ci < 7) : ∀ k, k < (z_cls ci).2.2 → parseFieldDescriptor ((z_cls ci).2.1 k).2.2.1 = some (z_fty ci k) := by
  match ci, h with
  | 0, _ => exact tyX0_ok
  | 1, _ => exact tyX1_ok
  | 2, _ => exact tyX2_ok
  | 3, _ => exact tyX3_ok
  | 4, _ => exact tyX4_ok
  | 5, _ => exact tyX5_ok
  | 6, _ => exact tyX6_ok
theorem z_nmk {ci : Nat} (h : ci < 7) : ∀ a, a < (z_cls ci).2.2 → ∀ b, b < (z_cls ci).2.2 → a ≠ b → ((z_cls ci).2.1 a).2.1 ≠ ((z_cls ci).2.1 b).2.1 := by
  match ci, h with
  | 0, _ => exact nmX0
  | 1, _ => exact nmX1
  | 2, _ => exact nmX2
  | 3, _ => exact nmX3
  | 4, _ => exact nmX4
  | 5, _ => exact nmX5
  | 6, _ => exact nmX6
theorem z_fit_of {t : FieldType} {v : Value} {ad : Nat → Nat} (h : z_fit t v = true) : narrow t (z_v ad v) = z_v ad v ∧ fits t (z_v ad v) = true := by
  unfold z_fit at h
  split at h
  · exact ⟨rfl, rfl⟩
  · exact ⟨rfl, rfl⟩
  · exact ⟨rfl, rfl⟩
  · exact ⟨rfl, rfl⟩
  · cases h
theorem z_lt9 {M : ZM} {a : Nat} {x : ZE} (h : M[a]? = some x) (h9 : M.length ≤ 900) : a < 1000 := by
  have := (List.getElem?_eq_some_iff.mp h).1
  omega
theorem z_S_up {b m0 : Nat} {s : State} (hbs : s.heap.size = b + m0) : ∀ q, s.heap.size ≤ q → z_A b q := fun q h => Nat.le_trans (by omega) h
theorem z_wd.set {b : Nat} {sp : Nat → Nat} {cA : Nat → ClassId} {D : va_G} {M : ZM} {H H1 : Heap} {a : Nat} {x : ZE} (h : z_wd b sp cA D M H) (hP : va_P D vwCl ((z_ws b sp cA M).set a (b + a, z_e (z_ad b sp) cA x)) H1) : z_wd b sp cA D (M.set a x) H1 := ⟨by rw [List.length_set]; exact h.1, by rw [z_ws_set]; exact hP⟩
theorem z_size {b : Nat} {sp : Nat → Nat} {cA : Nat → ClassId} {D : va_G} {M : ZM} {H : Heap} (h : z_wd b sp cA D M H) (hb : b ≤ H.size) : b + M.length ≤ H.size := by
  by_cases h0 : M.length = 0
  · omega
  · cases hm : M[M.length - 1]? with
    | none =>
      have := List.getElem?_eq_none_iff.mp hm
      omega
    | some x =>
      have := (h.2 _ _ (z_ws_at hm)).lt
      have h2 : b + (M.length - 1) < H.size := this
      omega
theorem z_dfl_ok {ci j : Nat} {ad : Nat → Nat} (hci : ci < 7) (hj : j < (z_cls ci).2.2) : defaultValue (z_fty ci j) = z_v ad (z_dfl (z_fty ci j)) := by
  have h1 : (match z_fty ci j with
    | .int => true
    | .long => true
    | .object _ => true
    | .array _ => true
    | _ => false) = true := by
    match ci, hci with
    | 0, _ => exact (by decide +kernel : ∀ j, j < 5 → (match tyX0 j with | .int => true | .long => true | .object _ => true | .array _ => true | _ => false) = true) j hj
    | 1, _ => exact (by decide +kernel : ∀ j, j < 9 → (match tyX1 j with | .int => true | .long => true | .object _ => true | .array _ => true | _ => false) = true) j hj
    | 2, _ => exact (by decide +kernel : ∀ j, j < 7 → (match tyX2 j with | .int => true | .long => true | .object _ => true | .array _ => true | _ => false) = true) j hj
    | 3, _ => exact (by decide +kernel : ∀ j, j < 9 → (match tyX3 j with | .int => true | .long => true | .object _ => true | .array _ => true | _ => false) = true) j hj
    | 4, _ => exact (by decide +kernel : ∀ j, j < 10 → (match tyX4 j with | .int => true | .long => true | .object _ => true | .array _ => true | _ => false) = true) j hj
    | 5, _ => exact (by decide +kernel : ∀ j, j < 8 → (match tyX5 j with | .int => true | .long => true | .object _ => true | .array _ => true | _ => false) = true) j hj
    | 6, _ => exact (by decide +kernel : ∀ j, j < 25 → (match tyX6 j with | .int => true | .long => true | .object _ => true | .array _ => true | _ => false) = true) j hj
  cases hf : z_fty ci j <;> rw [hf] at h1 <;> first | rfl | cases h1
theorem z_fl_of {own : String} {q n : Nat} (h : z_fl own q n = true) : n / 32 < 7 ∧ n % 32 < (z_cls (n / 32)).2.2 ∧ Cond.fieldLink own q ((z_cls (n / 32)).2.1 (n % 32)).1 ((z_cls (n / 32)).2.1 (n % 32)).2.1 ((z_cls (n / 32)).2.1 (n % 32)).2.2.1 ∈ z_gw := by
  unfold z_fl at h
  simp only [Bool.and_eq_true, decide_eq_true_eq] at h
  exact ⟨h.1.1, h.1.2, z_w_of h.2⟩
section ZST
variable {b : Nat} {sp : Nat → Nat} {cA : Nat → ClassId} {D : va_G} {S : ZS} {p : Program} {l : Launch} {e : Env} {R : Room} {s : State} {m : MethodId} {args : Array Value} {below : List Frame} {meth : Method} {c : Code} {Q : State → Prop} {y m0 z0 : Nat}
variable {pc nx : Nat} {ls : ZL} {st : List Value} {M : ZM}

theorem z_s_getf (C : z_cx b sp cA D S p R s m args meth c y m0) {n a ci : Nat} {fs : List Value} {v : Value} (hM : M[a]? = some (.inl (ci, fs))) (hci : ci = n / 32) (hf : fs[n % 32]? = some v) (hc : z_code y pc = some (nx, .getfield n)) (k : z_K b sp cA D p l e R s m args below meth c Q y m0 z0 nx ls (v :: st) M) : z_K b sp cA D p l e R s m args below meth c Q y m0 z0 pc ls (.ref a :: st) M := by
  intro H locs lsC hW hL hS
  obtain ⟨hx, hb, hml, hown, hts, hK, hsp, hbs, hini, hck, hfr, hlo⟩ := C
  have hr := z_rel_of hck hc
  have hk := k H locs lsC hW hL hS
  simp only [z_rel] at hr
  split at hr
  · rename_i q hq
    simp only [Bool.and_eq_true, decide_eq_true_eq] at hr
    obtain ⟨rfl, hv⟩ := hr
    obtain ⟨h1, h2, h3⟩ := z_fl_of hv
    have ha : z_ad b sp a = b + a := z_ad_lo (z_lt9 hM hW.1)
    show W p l e R s m args below meth c H locs (M.length - m0) (z_sz M - z0) Q (F0 m pc lsC (.ref (z_ad b sp a) :: st.map (z_v (z_ad b sp))))
    rw [ha]
    have hfs : (fs.map (z_v (z_ad b sp)))[n % 32]? = some (z_v (z_ad b sp) v) := by rw [List.getElem?_map, hf]; rfl
    subst hci
    exact va_get hx hb hts (z_inc h1) hown hK hW.2 a (z_ws_at hM) (z_cl h1) (n % 32) h2 (hts _ h3) (fun _ h => h) hfs hq hk
  · cases hr
theorem z_s_putf (C : z_cx b sp cA D S p R s m args meth c y m0) {n a ci : Nat} {fs : List Value} {v : Value} (hM : M[a]? = some (.inl (ci, fs))) (hci : ci = n / 32) (hf : n % 32 < fs.length) (hfit : z_fit (z_fty ci (n % 32)) v = true) (hfi : z_fin ci (n % 32) = false ∨ z_ini y ci = true) (hc : z_code y pc = some (nx, .putfield n)) (k : z_K b sp cA D p l e R s m args below meth c Q y m0 z0 nx ls st (M.set a (.inl (ci, fs.set (n % 32) v)))) : z_K b sp cA D p l e R s m args below meth c Q y m0 z0 pc ls (v :: .ref a :: st) M := by
  intro H locs lsC hW hL hS
  obtain ⟨hx, hb, hml, hown, hts, hK, hsp, hbs, hini, hck, hfr, hlo⟩ := C
  have hr := z_rel_of hck hc
  simp only [z_rel] at hr
  split at hr
  · rename_i q hq
    simp only [Bool.and_eq_true, decide_eq_true_eq] at hr
    obtain ⟨⟨⟨rfl, hv⟩, hd⟩, hf2⟩ := hr
    obtain ⟨h1, h2, h3⟩ := z_fl_of hv
    have ha : z_ad b sp a = b + a := z_ad_lo (z_lt9 hM hW.1)
    show W p l e R s m args below meth c H locs (M.length - m0) (z_sz M - z0) Q (F0 m pc lsC (z_v (z_ad b sp) v :: .ref (z_ad b sp a) :: st.map (z_v (z_ad b sp))))
    rw [ha]
    subst hci
    obtain ⟨hn1, hn2⟩ := z_fit_of (ad := z_ad b sp) hfit
    have hz1 : (M.set a (.inl (n / 32, fs.set (n % 32) v))).length = M.length := List.length_set
    have hz2 : z_sz (M.set a (.inl (n / 32, fs.set (n % 32) v))) = z_sz M := z_sz_set M a _ _ hM rfl
    have hgo : ∀ (H1 : Heap) (locs1 : List Loc), va_P D vwCl ((z_ws b sp cA M).set a (b + a, .inr (n / 32, (fs.map (z_v (z_ad b sp))).set (n % 32) (z_v (z_ad b sp) v)))) H1 → va_D (z_A b) ((z_ws b sp cA M).set a (b + a, .inr (n / 32, (fs.map (z_v (z_ad b sp))).set (n % 32) (z_v (z_ad b sp) v)))) → va_S (z_A b) s.heap H1 locs1 → W p l e R s m args below meth c H1 locs1 (M.length - m0) (z_sz M - z0) Q (F0 m (pc + 3) lsC (st.map (z_v (z_ad b sp)))) := by
      intro H1 locs1 hP _ hS1
      have := k H1 locs1 lsC (hW.set (by show va_P D vwCl (List.set _ a (b + a, .inr (n / 32, (fs.set (n % 32) v).map (z_v (z_ad b sp))))) H1; rw [List.map_set]; exact hP)) hL hS1
      rw [hz1, hz2] at this
      exact this
    have hne : (fs.map (z_v (z_ad b sp))).length = fs.length := List.length_map _
    cases hfin : z_fin (n / 32) (n % 32) with
    | false => exact va_put hx hb hts (z_inc h1) (z_fty (n / 32)) (z_tyk h1) (z_nmk h1) hown hK hW.2 (z_D b sp cA M) hS a (z_ws_at hM) (z_cl h1) (n % 32) h2 (hts _ h3) (fun _ h => h) hfin hd hn1 hn2 (by rw [hne]; exact hf) hq hgo
    | true =>
      have hi : z_ini y (n / 32) = true := hfi.resolve_left (by rw [hfin]; exact fun h => by cases h)
      unfold z_ini at hi
      simp only [Bool.and_eq_true, decide_eq_true_eq] at hi
      rw [hfin] at hf2
      simp only [Bool.not_true, Bool.false_or, Bool.or_eq_true, decide_eq_true_eq] at hf2
      have hf3 : ((z_cls (n / 32)).2.1 (n % 32)).1 = (z_mt y).1.cls := by
        first
          | exact hf2
          | exact hf2.resolve_left (fun h => by cases h)
      exact va_putF hx hb hts (z_inc h1) (z_fty (n / 32)) (z_tyk h1) (z_nmk h1) hown hK hW.2 (z_D b sp cA M) hS a (z_ws_at hM) (z_cl h1) (n % 32) h2 (hts _ h3) (fun _ h => h) hfin (hini hi.1) hf3 hd hn1 hn2 (by rw [hne]; exact hf) hq hgo
  · cases hr
theorem z_s_iald (C : z_cx b sp cA D S p R s m args meth c y m0) {a n : Nat} {f : Nat → Int32} {i : Int32} (hM : M[a]? = some (.inr (0, n, .inl f))) (hi : z_in i n = true) (hc : z_code y pc = some (nx, .iaload)) (k : z_K b sp cA D p l e R s m args below meth c Q y m0 z0 nx ls (.int (f i.toNatClampNeg) :: st) M) : z_K b sp cA D p l e R s m args below meth c Q y m0 z0 pc ls (.int i :: .ref a :: st) M := by
  intro H locs lsC hW hL hS
  obtain ⟨hx, hb, hml, hown, hts, hK, hsp, hbs, hini, hck, hfr, hlo⟩ := C
  have hr := z_rel_of hck hc
  have hk := k H locs lsC hW hL hS
  obtain ⟨hd, rfl⟩ := z_dq_of hr
  have ha : z_ad b sp a = b + a := z_ad_lo (z_lt9 hM hW.1)
  show W p l e R s m args below meth c H locs (M.length - m0) (z_sz M - z0) Q (F0 m pc lsC (.int i :: .ref (z_ad b sp a) :: st.map (z_v (z_ad b sp))))
  rw [ha]
  exact va_iald hx hb hK hW.2 a 0 (z_ws_at hM) rfl (z_in_of hi) hd hk
theorem z_s_bald (C : z_cx b sp cA D S p R s m args meth c y m0) {a n : Nat} {f : Nat → Int32} {i : Int32} (hM : M[a]? = some (.inr (1, n, .inl f))) (hi : z_in i n = true) (hc : z_code y pc = some (nx, .baload)) (k : z_K b sp cA D p l e R s m args below meth c Q y m0 z0 nx ls (.int (f i.toNatClampNeg) :: st) M) : z_K b sp cA D p l e R s m args below meth c Q y m0 z0 pc ls (.int i :: .ref a :: st) M := by
  intro H locs lsC hW hL hS
  obtain ⟨hx, hb, hml, hown, hts, hK, hsp, hbs, hini, hck, hfr, hlo⟩ := C
  have hr := z_rel_of hck hc
  have hk := k H locs lsC hW hL hS
  obtain ⟨hd, rfl⟩ := z_dq_of hr
  have ha : z_ad b sp a = b + a := z_ad_lo (z_lt9 hM hW.1)
  show W p l e R s m args below meth c H locs (M.length - m0) (z_sz M - z0) Q (F0 m pc lsC (.int i :: .ref (z_ad b sp a) :: st.map (z_v (z_ad b sp))))
  rw [ha]
  exact va_bald hx hb hK hW.2 a 1 (z_ws_at hM) rfl (z_in_of hi) hd hk
theorem z_s_zald (C : z_cx b sp cA D S p R s m args meth c y m0) {a n : Nat} {f : Nat → Int32} {i : Int32} (hM : M[a]? = some (.inr (2, n, .inl f))) (hi : z_in i n = true) (hc : z_code y pc = some (nx, .baload)) (k : z_K b sp cA D p l e R s m args below meth c Q y m0 z0 nx ls (.int (f i.toNatClampNeg) :: st) M) : z_K b sp cA D p l e R s m args below meth c Q y m0 z0 pc ls (.int i :: .ref a :: st) M := by
  intro H locs lsC hW hL hS
  obtain ⟨hx, hb, hml, hown, hts, hK, hsp, hbs, hini, hck, hfr, hlo⟩ := C
  have hr := z_rel_of hck hc
  have hk := k H locs lsC hW hL hS
  obtain ⟨hd, rfl⟩ := z_dq_of hr
  have ha : z_ad b sp a = b + a := z_ad_lo (z_lt9 hM hW.1)
  show W p l e R s m args below meth c H locs (M.length - m0) (z_sz M - z0) Q (F0 m pc lsC (.int i :: .ref (z_ad b sp a) :: st.map (z_v (z_ad b sp))))
  rw [ha]
  exact va_zald hx hb hK hW.2 a 2 (z_ws_at hM) rfl (z_in_of hi) hd hk
theorem z_s_lald (C : z_cx b sp cA D S p R s m args meth c y m0) {a n : Nat} {f : Nat → Int64} {i : Int32} (hM : M[a]? = some (.inr (3, n, .inr (.inl f)))) (hi : z_in i n = true) (hc : z_code y pc = some (nx, .laload)) (k : z_K b sp cA D p l e R s m args below meth c Q y m0 z0 nx ls (.long (f i.toNatClampNeg) :: st) M) : z_K b sp cA D p l e R s m args below meth c Q y m0 z0 pc ls (.int i :: .ref a :: st) M := by
  intro H locs lsC hW hL hS
  obtain ⟨hx, hb, hml, hown, hts, hK, hsp, hbs, hini, hck, hfr, hlo⟩ := C
  have hr := z_rel_of hck hc
  have hk := k H locs lsC hW hL hS
  obtain ⟨hd, rfl⟩ := z_dq_of hr
  have ha : z_ad b sp a = b + a := z_ad_lo (z_lt9 hM hW.1)
  show W p l e R s m args below meth c H locs (M.length - m0) (z_sz M - z0) Q (F0 m pc lsC (.int i :: .ref (z_ad b sp a) :: st.map (z_v (z_ad b sp))))
  rw [ha]
  exact va_lald hx hb hK hW.2 a 3 (z_ws_at hM) rfl (z_in_of hi) hd hk
theorem z_s_ald4 (C : z_cx b sp cA D S p R s m args meth c y m0) {a n : Nat} {f : Nat → Option Nat} {i : Int32} (hM : M[a]? = some (.inr (4, n, .inr (.inr f)))) (hi : z_in i n = true) (hc : z_code y pc = some (nx, .aaload)) (k : z_K b sp cA D p l e R s m args below meth c Q y m0 z0 nx ls (va_rf (f i.toNatClampNeg) :: st) M) : z_K b sp cA D p l e R s m args below meth c Q y m0 z0 pc ls (.int i :: .ref a :: st) M := by
  intro H locs lsC hW hL hS
  obtain ⟨hx, hb, hml, hown, hts, hK, hsp, hbs, hini, hck, hfr, hlo⟩ := C
  have hr := z_rel_of hck hc
  have hk := k H locs lsC hW hL hS
  obtain ⟨hd, rfl⟩ := z_dq_of hr
  have ha : z_ad b sp a = b + a := z_ad_lo (z_lt9 hM hW.1)
  show W p l e R s m args below meth c H locs (M.length - m0) (z_sz M - z0) Q (F0 m pc lsC (.int i :: .ref (z_ad b sp a) :: st.map (z_v (z_ad b sp))))
  rw [ha]
  refine va_aldq hx hb hK hW.2 a 4 (z_ws_at hM) rfl (z_in_of hi) hd ?_
  have e : va_rf ((f i.toNatClampNeg).map (z_ad b sp)) = z_v (z_ad b sp) (va_rf (f i.toNatClampNeg)) := by cases f i.toNatClampNeg <;> rfl
  rw [e]
  exact hk
theorem z_s_ald5 (C : z_cx b sp cA D S p R s m args meth c y m0) {a n : Nat} {f : Nat → Option Nat} {i : Int32} (hM : M[a]? = some (.inr (5, n, .inr (.inr f)))) (hi : z_in i n = true) (hc : z_code y pc = some (nx, .aaload)) (k : z_K b sp cA D p l e R s m args below meth c Q y m0 z0 nx ls (va_rf (f i.toNatClampNeg) :: st) M) : z_K b sp cA D p l e R s m args below meth c Q y m0 z0 pc ls (.int i :: .ref a :: st) M := by
  intro H locs lsC hW hL hS
  obtain ⟨hx, hb, hml, hown, hts, hK, hsp, hbs, hini, hck, hfr, hlo⟩ := C
  have hr := z_rel_of hck hc
  have hk := k H locs lsC hW hL hS
  obtain ⟨hd, rfl⟩ := z_dq_of hr
  have ha : z_ad b sp a = b + a := z_ad_lo (z_lt9 hM hW.1)
  show W p l e R s m args below meth c H locs (M.length - m0) (z_sz M - z0) Q (F0 m pc lsC (.int i :: .ref (z_ad b sp a) :: st.map (z_v (z_ad b sp))))
  rw [ha]
  refine va_aldq hx hb hK hW.2 a 5 (z_ws_at hM) rfl (z_in_of hi) hd ?_
  have e : va_rf ((f i.toNatClampNeg).map (z_ad b sp)) = z_v (z_ad b sp) (va_rf (f i.toNatClampNeg)) := by cases f i.toNatClampNeg <;> rfl
  rw [e]
  exact hk
theorem z_s_iast (C : z_cx b sp cA D S p R s m args meth c y m0) {a n : Nat} {f : Nat → Int32} {i : Int32} {x : Int32} (hM : M[a]? = some (.inr (0, n, .inl f))) (hi : z_in i n = true) (hc : z_code y pc = some (nx, .iastore)) (k : z_K b sp cA D p l e R s m args below meth c Q y m0 z0 nx ls st (M.set a (.inr (0, n, .inl (upd f i.toNatClampNeg x))))) : z_K b sp cA D p l e R s m args below meth c Q y m0 z0 pc ls (.int x :: .int i :: .ref a :: st) M := by
  intro H locs lsC hW hL hS
  obtain ⟨hx, hb, hml, hown, hts, hK, hsp, hbs, hini, hck, hfr, hlo⟩ := C
  have hr := z_rel_of hck hc
  obtain ⟨hd, rfl⟩ := z_dq_of hr
  have ha : z_ad b sp a = b + a := z_ad_lo (z_lt9 hM hW.1)
  show W p l e R s m args below meth c H locs (M.length - m0) (z_sz M - z0) Q (F0 m pc lsC (.int x :: .int i :: .ref (z_ad b sp a) :: st.map (z_v (z_ad b sp))))
  rw [ha]
  refine va_iast hx hb hK hW.2 (z_D b sp cA M) hS a 0 (z_ws_at hM) rfl (z_in_of hi) hd (fun H1 locs1 hP _ hS1 => ?_)
  have := k H1 locs1 lsC (hW.set hP) hL hS1
  rw [List.length_set, z_sz_set M a (.inr (0, n, .inl (upd f i.toNatClampNeg x))) _ hM rfl] at this
  exact this
theorem z_s_bast (C : z_cx b sp cA D S p R s m args meth c y m0) {a n : Nat} {f : Nat → Int32} {i : Int32} {x : Int32} (hM : M[a]? = some (.inr (1, n, .inl f))) (hi : z_in i n = true) (hc : z_code y pc = some (nx, .bastore)) (k : z_K b sp cA D p l e R s m args below meth c Q y m0 z0 nx ls st (M.set a (.inr (1, n, .inl (upd f i.toNatClampNeg (vp_nar .byte x)))))) : z_K b sp cA D p l e R s m args below meth c Q y m0 z0 pc ls (.int x :: .int i :: .ref a :: st) M := by
  intro H locs lsC hW hL hS
  obtain ⟨hx, hb, hml, hown, hts, hK, hsp, hbs, hini, hck, hfr, hlo⟩ := C
  have hr := z_rel_of hck hc
  obtain ⟨hd, rfl⟩ := z_dq_of hr
  have ha : z_ad b sp a = b + a := z_ad_lo (z_lt9 hM hW.1)
  show W p l e R s m args below meth c H locs (M.length - m0) (z_sz M - z0) Q (F0 m pc lsC (.int x :: .int i :: .ref (z_ad b sp a) :: st.map (z_v (z_ad b sp))))
  rw [ha]
  refine va_bast hx hb hK hW.2 (z_D b sp cA M) hS a 1 (z_ws_at hM) rfl (z_in_of hi) hd (fun H1 locs1 hP _ hS1 => ?_)
  have := k H1 locs1 lsC (hW.set hP) hL hS1
  rw [List.length_set, z_sz_set M a (.inr (1, n, .inl (upd f i.toNatClampNeg (vp_nar .byte x)))) _ hM rfl] at this
  exact this
theorem z_s_zast (C : z_cx b sp cA D S p R s m args meth c y m0) {a n : Nat} {f : Nat → Int32} {i : Int32} {x : Int32} (hM : M[a]? = some (.inr (2, n, .inl f))) (hi : z_in i n = true) (hc : z_code y pc = some (nx, .bastore)) (k : z_K b sp cA D p l e R s m args below meth c Q y m0 z0 nx ls st (M.set a (.inr (2, n, .inl (upd f i.toNatClampNeg (vp_nar .boolean x)))))) : z_K b sp cA D p l e R s m args below meth c Q y m0 z0 pc ls (.int x :: .int i :: .ref a :: st) M := by
  intro H locs lsC hW hL hS
  obtain ⟨hx, hb, hml, hown, hts, hK, hsp, hbs, hini, hck, hfr, hlo⟩ := C
  have hr := z_rel_of hck hc
  obtain ⟨hd, rfl⟩ := z_dq_of hr
  have ha : z_ad b sp a = b + a := z_ad_lo (z_lt9 hM hW.1)
  show W p l e R s m args below meth c H locs (M.length - m0) (z_sz M - z0) Q (F0 m pc lsC (.int x :: .int i :: .ref (z_ad b sp a) :: st.map (z_v (z_ad b sp))))
  rw [ha]
  refine va_zast hx hb hK hW.2 (z_D b sp cA M) hS a 2 (z_ws_at hM) rfl (z_in_of hi) hd (fun H1 locs1 hP _ hS1 => ?_)
  have := k H1 locs1 lsC (hW.set hP) hL hS1
  rw [List.length_set, z_sz_set M a (.inr (2, n, .inl (upd f i.toNatClampNeg (vp_nar .boolean x)))) _ hM rfl] at this
  exact this
theorem z_s_last (C : z_cx b sp cA D S p R s m args meth c y m0) {a n : Nat} {f : Nat → Int64} {i : Int32} {x : Int64} (hM : M[a]? = some (.inr (3, n, .inr (.inl f)))) (hi : z_in i n = true) (hc : z_code y pc = some (nx, .lastore)) (k : z_K b sp cA D p l e R s m args below meth c Q y m0 z0 nx ls st (M.set a (.inr (3, n, .inr (.inl (vp_updL f i.toNatClampNeg x)))))) : z_K b sp cA D p l e R s m args below meth c Q y m0 z0 pc ls (.long x :: .int i :: .ref a :: st) M := by
  intro H locs lsC hW hL hS
  obtain ⟨hx, hb, hml, hown, hts, hK, hsp, hbs, hini, hck, hfr, hlo⟩ := C
  have hr := z_rel_of hck hc
  obtain ⟨hd, rfl⟩ := z_dq_of hr
  have ha : z_ad b sp a = b + a := z_ad_lo (z_lt9 hM hW.1)
  show W p l e R s m args below meth c H locs (M.length - m0) (z_sz M - z0) Q (F0 m pc lsC (.long x :: .int i :: .ref (z_ad b sp a) :: st.map (z_v (z_ad b sp))))
  rw [ha]
  refine va_last hx hb hK hW.2 (z_D b sp cA M) hS a 3 (z_ws_at hM) rfl (z_in_of hi) hd (fun H1 locs1 hP _ hS1 => ?_)
  have := k H1 locs1 lsC (hW.set hP) hL hS1
  rw [List.length_set, z_sz_set M a (.inr (3, n, .inr (.inl (vp_updL f i.toNatClampNeg x)))) _ hM rfl] at this
  exact this
theorem z_s_ast4 (C : z_cx b sp cA D S p R s m args meth c y m0) {a n x : Nat} {f : Nat → Option Nat} {i : Int32} {fs : List Value} (hM : M[a]? = some (.inr (4, n, .inr (.inr f)))) (hX : M[x]? = some (.inl (0, fs))) (hi : z_in i n = true) (hc : z_code y pc = some (nx, .aastore)) (k : z_K b sp cA D p l e R s m args below meth c Q y m0 z0 nx ls st (M.set a (.inr (4, n, .inr (.inr (va_up f i.toNatClampNeg (some x))))))) : z_K b sp cA D p l e R s m args below meth c Q y m0 z0 pc ls (.ref x :: .int i :: .ref a :: st) M := by
  intro H locs lsC hW hL hS
  obtain ⟨hx, hb, hml, hown, hts, hK, hsp, hbs, hini, hck, hfr, hlo⟩ := C
  have hr := z_rel_of hck hc
  obtain ⟨hd, rfl⟩ := z_dq_of hr
  have hx2 : z_ad b sp x = b + x := z_ad_lo (z_lt9 hX hW.1)
  have ha : z_ad b sp a = b + a := z_ad_lo (z_lt9 hM hW.1)
  show W p l e R s m args below meth c H locs (M.length - m0) (z_sz M - z0) Q (F0 m pc lsC (.ref (z_ad b sp x) :: .int i :: .ref (z_ad b sp a) :: st.map (z_v (z_ad b sp))))
  rw [ha]
  rw [hx2]
  refine va_astq hx hb hK hW.2 (z_D b sp cA M) hS a 4 x 0 (r := (z_cls 0)) (z_ws_at hM) rfl (z_ws_at hX) rfl (z_in_of hi) hd (fun H1 locs1 hP _ hS1 => ?_)
  have e : va_up (fun j => (f j).map (z_ad b sp)) i.toNatClampNeg (some (b + x)) = fun j => (va_up f i.toNatClampNeg (some x) j).map (z_ad b sp) := by
    funext j
    unfold va_up
    split
    · show some (b + x) = some (z_ad b sp x)
      rw [hx2]
    · rfl
  have hP : va_P D vwCl ((z_ws b sp cA M).set a (b + a, .inl (cA 4, n, .inr (.inr (.inr (.inr (va_up (fun j => (f j).map (z_ad b sp)) i.toNatClampNeg (some (b + x))))))))) H1 := hP
  rw [e] at hP
  have := k H1 locs1 lsC (hW.set hP) hL hS1
  rw [List.length_set, z_sz_set M a (.inr (4, n, .inr (.inr (va_up f i.toNatClampNeg (some x))))) _ hM rfl] at this
  exact this
theorem z_s_ast5 (C : z_cx b sp cA D S p R s m args meth c y m0) {a n x : Nat} {f : Nat → Option Nat} {i : Int32} {fs : List Value} (hM : M[a]? = some (.inr (5, n, .inr (.inr f)))) (hX : M[x]? = some (.inl (2, fs))) (hi : z_in i n = true) (hc : z_code y pc = some (nx, .aastore)) (k : z_K b sp cA D p l e R s m args below meth c Q y m0 z0 nx ls st (M.set a (.inr (5, n, .inr (.inr (va_up f i.toNatClampNeg (some x))))))) : z_K b sp cA D p l e R s m args below meth c Q y m0 z0 pc ls (.ref x :: .int i :: .ref a :: st) M := by
  intro H locs lsC hW hL hS
  obtain ⟨hx, hb, hml, hown, hts, hK, hsp, hbs, hini, hck, hfr, hlo⟩ := C
  have hr := z_rel_of hck hc
  obtain ⟨hd, rfl⟩ := z_dq_of hr
  have hx2 : z_ad b sp x = b + x := z_ad_lo (z_lt9 hX hW.1)
  have ha : z_ad b sp a = b + a := z_ad_lo (z_lt9 hM hW.1)
  show W p l e R s m args below meth c H locs (M.length - m0) (z_sz M - z0) Q (F0 m pc lsC (.ref (z_ad b sp x) :: .int i :: .ref (z_ad b sp a) :: st.map (z_v (z_ad b sp))))
  rw [ha]
  rw [hx2]
  refine va_astq hx hb hK hW.2 (z_D b sp cA M) hS a 5 x 2 (r := (z_cls 2)) (z_ws_at hM) rfl (z_ws_at hX) rfl (z_in_of hi) hd (fun H1 locs1 hP _ hS1 => ?_)
  have e : va_up (fun j => (f j).map (z_ad b sp)) i.toNatClampNeg (some (b + x)) = fun j => (va_up f i.toNatClampNeg (some x) j).map (z_ad b sp) := by
    funext j
    unfold va_up
    split
    · show some (b + x) = some (z_ad b sp x)
      rw [hx2]
    · rfl
  have hP : va_P D vwCl ((z_ws b sp cA M).set a (b + a, .inl (cA 5, n, .inr (.inr (.inr (.inr (va_up (fun j => (f j).map (z_ad b sp)) i.toNatClampNeg (some (b + x))))))))) H1 := hP
  rw [e] at hP
  have := k H1 locs1 lsC (hW.set hP) hL hS1
  rw [List.length_set, z_sz_set M a (.inr (5, n, .inr (.inr (va_up f i.toNatClampNeg (some x))))) _ hM rfl] at this
  exact this
theorem z_s_len0 (C : z_cx b sp cA D S p R s m args meth c y m0) {a n : Nat} {f : Nat → Int32} (hM : M[a]? = some (.inr (0, n, .inl f))) (hc : z_code y pc = some (nx, .arraylength)) (k : z_K b sp cA D p l e R s m args below meth c Q y m0 z0 nx ls (.int (Int32.ofNat n) :: st) M) : z_K b sp cA D p l e R s m args below meth c Q y m0 z0 pc ls (.ref a :: st) M := by
  intro H locs lsC hW hL hS
  obtain ⟨hx, hb, hml, hown, hts, hK, hsp, hbs, hini, hck, hfr, hlo⟩ := C
  have hr := z_rel_of hck hc
  have hk := k H locs lsC hW hL hS
  obtain ⟨hd, rfl⟩ := z_dq_of hr
  have ha : z_ad b sp a = b + a := z_ad_lo (z_lt9 hM hW.1)
  show W p l e R s m args below meth c H locs (M.length - m0) (z_sz M - z0) Q (F0 m pc lsC (.ref (z_ad b sp a) :: st.map (z_v (z_ad b sp))))
  rw [ha]
  exact va_alen hx hb hK hW.2 a 0 (z_ws_at hM) (ty := .int) rfl rfl hd hk
theorem z_s_len3 (C : z_cx b sp cA D S p R s m args meth c y m0) {a n : Nat} {f : Nat → Int64} (hM : M[a]? = some (.inr (3, n, .inr (.inl f)))) (hc : z_code y pc = some (nx, .arraylength)) (k : z_K b sp cA D p l e R s m args below meth c Q y m0 z0 nx ls (.int (Int32.ofNat n) :: st) M) : z_K b sp cA D p l e R s m args below meth c Q y m0 z0 pc ls (.ref a :: st) M := by
  intro H locs lsC hW hL hS
  obtain ⟨hx, hb, hml, hown, hts, hK, hsp, hbs, hini, hck, hfr, hlo⟩ := C
  have hr := z_rel_of hck hc
  have hk := k H locs lsC hW hL hS
  obtain ⟨hd, rfl⟩ := z_dq_of hr
  have ha : z_ad b sp a = b + a := z_ad_lo (z_lt9 hM hW.1)
  show W p l e R s m args below meth c H locs (M.length - m0) (z_sz M - z0) Q (F0 m pc lsC (.ref (z_ad b sp a) :: st.map (z_v (z_ad b sp))))
  rw [ha]
  exact va_alen hx hb hK hW.2 a 3 (z_ws_at hM) (ty := .long) rfl rfl hd hk
theorem z_s_sld (C : z_cx b sp cA D S p R s m args meth c y m0) {i : Int32} (hi : z_in i S.1 = true) (hc : z_code y pc = some (nx, .iaload)) (k : z_K b sp cA D p l e R s m args below meth c Q y m0 z0 nx ls (.int (S.2 i.toNatClampNeg) :: st) M) : z_K b sp cA D p l e R s m args below meth c Q y m0 z0 pc ls (.int i :: .ref 1000 :: st) M := by
  intro H locs lsC hW hL hS
  obtain ⟨hx, hb, hml, hown, hts, hK, hsp, hbs, hini, hck, hfr, hlo⟩ := C
  have hr := z_rel_of hck hc
  have hk := k H locs lsC hW hL hS
  obtain ⟨hd, rfl⟩ := z_dq_of hr
  have ha : z_ad b sp 1000 = sp 0 := if_neg (by omega)
  have h1 : sp 0 < b := hsp.1 0 (by omega)
  show W p l e R s m args below meth c H locs (M.length - m0) (z_sz M - z0) Q (F0 m pc lsC (.int i :: .ref (z_ad b sp 1000) :: st.map (z_v (z_ad b sp))))
  rw [ha]
  exact va_sld hx hb hsp.2.1 (by omega) (fun h => absurd h (by unfold z_A; omega)) hS (z_in_of hi) hd hk
theorem z_s_slen (C : z_cx b sp cA D S p R s m args meth c y m0) (hc : z_code y pc = some (nx, .arraylength)) (k : z_K b sp cA D p l e R s m args below meth c Q y m0 z0 nx ls (.int (Int32.ofNat S.1) :: st) M) : z_K b sp cA D p l e R s m args below meth c Q y m0 z0 pc ls (.ref 1000 :: st) M := by
  intro H locs lsC hW hL hS
  obtain ⟨hx, hb, hml, hown, hts, hK, hsp, hbs, hini, hck, hfr, hlo⟩ := C
  have hr := z_rel_of hck hc
  have hk := k H locs lsC hW hL hS
  obtain ⟨hd, rfl⟩ := z_dq_of hr
  have ha : z_ad b sp 1000 = sp 0 := if_neg (by omega)
  have h1 : sp 0 < b := hsp.1 0 (by omega)
  show W p l e R s m args below meth c H locs (M.length - m0) (z_sz M - z0) Q (F0 m pc lsC (.ref (z_ad b sp 1000) :: st.map (z_v (z_ad b sp))))
  rw [ha]
  exact va_slen hx hb hsp.2.1 (by omega) (fun h => absurd h (by unfold z_A; omega)) hS hd hk
theorem z_up {H : Heap} {cells slots : Nat} {g : JFrame} {locs : List Loc} (h0 : m0 ≤ M.length) (hbs : s.heap.size = b + m0) (hW : z_wd b sp cA D M H) (hS : va_S (z_A b) s.heap H locs) (hc : cells = M.length - m0) (kk : H.size = b + M.length → W p l e R s m args below meth c H locs cells slots Q g) : W p l e R s m args below meth c H locs cells slots Q g := by
  intro T hT X
  have h1 : T.heap.size ≤ s.heap.size + cells := X.same.2.2.1
  have h2 := z_size hW (Nat.le_trans (by omega) hS.1)
  exact kk (by rw [hT] at h1; omega) T hT X
theorem z_wd.app {H H1 : Heap} {x : ZE} (hW : z_wd b sp cA D M H) (h9 : M.length < 900) (hk : ∀ q, q < H.size → H1[q]? = H[q]?) (he : va_at D vwCl (b + M.length, z_e (z_ad b sp) cA x) H1) : z_wd b sp cA D (M ++ [x]) H1 := by
  refine ⟨by rw [List.length_append]; exact h9, ?_⟩
  rw [z_ws_app]
  refine (hW.2.kept (fun k q hq => hk q.1 (hW.2 k q hq).lt)).app (fun k q hq => ?_)
  have hz : k < 1 := (List.getElem?_eq_some_iff.mp hq).1
  rw [show k = 0 by omega] at hq
  cases hq
  exact he
theorem z_S_app {H H1 : Heap} {locs : List Loc} (hS : va_S (z_A b) s.heap H locs) (hz : H.size ≤ H1.size) (hk : ∀ q, q < H.size → H1[q]? = H[q]?) : va_S (z_A b) s.heap H1 locs := ⟨Nat.le_trans hS.1 hz, fun q h1 h2 => (hk q (Nat.lt_of_lt_of_le h1 hS.1)).trans (hS.2.1 q h1 h2), hS.2.2⟩
theorem z_hasapp {ad : Nat → Nat} {lsC : Array Slot} {n : Nat} {L : ZL} (h : z_has ad lsC n L) : z_has ad lsC n L := h
theorem z_s_new (C : z_cx b sp cA D S p R s m args meth c y m0) {ci : Nat} (hci : ci < 7) (h0 : m0 ≤ M.length) (hz0 : z0 ≤ z_sz M) (h9 : M.length < 900) (hrc : M.length + 1 - m0 ≤ R.cells) (hrs : z_sz M + (z_cls ci).2.2 - z0 ≤ R.slots) (hc : z_code y pc = some (nx, .new ci)) (k : z_K b sp cA D p l e R s m args below meth c Q y m0 z0 nx ls (.ref M.length :: st) (M ++ [(.inl (ci, (List.range (z_cls ci).2.2).map (fun k => z_dfl (z_fty ci k))))])) : z_K b sp cA D p l e R s m args below meth c Q y m0 z0 pc ls st M := by
  intro H locs lsC hW hL hS
  obtain ⟨hx, hb, hml, hown, hts, hK, hsp, hbs, hini, hck, hfr, hlo⟩ := C
  have hr := z_rel_of hck hc
  simp only [z_rel] at hr
  split at hr
  · rename_i q hq
    simp only [Bool.and_eq_true, decide_eq_true_eq] at hr
    obtain ⟨⟨⟨rfl, w1⟩, w2⟩, w3⟩ := hr
    refine z_up h0 hbs hW hS rfl (fun hsz => ?_)
    have hKn := hK.1 ci _ (z_cl hci)
    refine W.newcK (g := F0 m pc lsC (st.map (z_v (z_ad b sp)))) hx hb hown (hts _ (z_w_of w1)) (hts _ (z_w_of w2)) (hts _ (z_w_of w3)) rfl hq (by omega) (by omega) hKn.2.1 hsz fun H1 kC hkC e1 z1 o1 => ?_
    have o2 : ∀ q, q < H.size → H1[q]? = H[q]? := fun q h => o1 q (by omega)
    have hW1 := hW.app (x := (.inl (ci, (List.range (z_cls ci).2.2).map (fun k => z_dfl (z_fty ci k))))) h9 o2 ⟨_, z_cl hci, (u_born (z_fty ci) hts (z_inc hci) hKn hkC e1 (z_tyk hci)).to (fun j hj => ?_)⟩
    · have := k H1 locs lsC hW1 hL (z_S_app hS (by omega) o2)
      rw [List.length_append, z_sz_app] at this
      have e2 : z_ad b sp M.length = b + M.length := z_ad_lo (by omega)
      have this : W p l e R s m args below meth c H1 locs (M.length + 1 - m0) (z_sz M + (z_cls ci).2.2 - z0) Q (F0 m (pc + 3) lsC (.ref (z_ad b sp M.length) :: st.map (z_v (z_ad b sp)))) := this
      rw [e2] at this
      refine W.cs (by omega) (by omega) this
    · show defaultValue (z_fty ci j) = vp_V ((((List.range (z_cls ci).2.2).map (fun k => z_dfl (z_fty ci k)))).map (z_v (z_ad b sp))) j
      unfold vp_V
      rw [List.getD_eq_getElem?_getD, List.getElem?_map, List.getElem?_map, List.getElem?_range hj]
      exact z_dfl_ok hci hj
  · cases hr
end ZST
end
section
theorem z_lks {pc : Int} (x d : Int) : ∀ l : List (Int × Int), Op.lookupswitch.offset (l.map (fun o => (o.1, o.2 + pc))) (d + pc) x = Op.lookupswitch.offset l d x + pc := by
  intro l
  induction l with
  | nil => rfl
  | cons q t ih =>
    obtain ⟨a, v⟩ := q
    by_cases h : x = a
    · subst h
      simp [Op.lookupswitch.offset]
    · have h2 : ¬ a = x := fun g => h g.symm
      show (if a = x then v + pc else Op.lookupswitch.offset (t.map (fun o => (o.1, o.2 + pc))) (d + pc) x) = (if a = x then v else Op.lookupswitch.offset t d x) + pc
      rw [if_neg h2, if_neg h2]
      exact ih
theorem z_lkp (x d : Int) : ∀ l : List (Int × Int), 0 ≤ d → (∀ q ∈ l, 0 ≤ q.2) → 0 ≤ Op.lookupswitch.offset l d x := by
  intro l
  induction l with
  | nil => intro h _; exact h
  | cons q t ih =>
    intro h hl
    obtain ⟨a, v⟩ := q
    have ih := ih h (fun q hq => hl q (List.mem_cons_of_mem _ hq))
    have h0 : 0 ≤ v := hl (a, v) List.mem_cons_self
    by_cases h1 : x = a
    · subst h1
      simp [Op.lookupswitch.offset]
      exact h0
    · have h2 : ¬ a = x := fun g => h1 g.symm
      show 0 ≤ (if a = x then v else Op.lookupswitch.offset t d x)
      rw [if_neg h2]
      exact ih
section ZST
variable {b : Nat} {sp : Nat → Nat} {cA : Nat → ClassId} {D : va_G} {S : ZS} {p : Program} {l : Launch} {e : Env} {R : Room} {s : State} {m : MethodId} {args : Array Value} {below : List Frame} {meth : Method} {c : Code} {Q : State → Prop} {y m0 z0 : Nat}
variable {pc nx : Nat} {ls : ZL} {st : List Value} {M : ZM}

theorem z_s_lookup (C : z_cx b sp cA D S p R s m args meth c y m0) {d : Int} {ps : Array (Int × Int)} {x : Int32} (hc : z_code y pc = some (nx, .lookupswitch d ps)) (k : z_K b sp cA D p l e R s m args below meth c Q y m0 z0 (Op.lookupswitch.offset ps.toList d x.toInt).toNat ls st M) : z_K b sp cA D p l e R s m args below meth c Q y m0 z0 pc ls (.int x :: st) M := by
  intro H locs lsC hW hL hS
  obtain ⟨hx, hb, hml, hown, hts, hK, hsp, hbs, hini, hck, hfr, hlo⟩ := C
  have hr := z_rel_of hck hc
  simp only [z_rel, Bool.and_eq_true, decide_eq_true_eq] at hr
  obtain ⟨⟨h0, h1⟩, hr⟩ := hr
  split at hr
  · rename_i d' ps' len hq
    simp only [Bool.and_eq_true, decide_eq_true_eq] at hr
    obtain ⟨⟨h3, h4⟩, h5⟩ := hr
    have h6 := z_lks (pc := (pc : Int)) x.toInt d' ps'.toList
    rw [h5, h4] at h6
    have h7 : 0 ≤ Op.lookupswitch.offset ps.toList d x.toInt := z_lkp _ _ _ h0 (fun q hq => of_decide_eq_true (Array.all_eq_true_iff_forall_mem.mp h1 q (Array.mem_toList_iff.mp hq)))
    exact lv_lookup hx hb hq h3 rfl (by omega) (k H locs lsC hW hL hS)
  · cases hr
theorem z_s_newI (C : z_cx b sp cA D S p R s m args meth c y m0) {n : Int32} (hn : ¬ n < 0) (hn5 : n.toNatClampNeg ≤ 5000) (h0 : m0 ≤ M.length) (hz0 : z0 ≤ z_sz M) (h9 : M.length < 900) (hrc : M.length + 1 - m0 ≤ R.cells) (hrs : z_sz M + n.toNatClampNeg - z0 ≤ R.slots) (hc : z_code y pc = some (nx, .newarray .int)) (k : z_K b sp cA D p l e R s m args below meth c Q y m0 z0 nx ls (.ref M.length :: st) (M ++ [(.inr (0, n.toNatClampNeg, .inl (fun _ => 0)))])) : z_K b sp cA D p l e R s m args below meth c Q y m0 z0 pc ls (.int n :: st) M := by
  intro H locs lsC hW hL hS
  obtain ⟨hx, hb, hml, hown, hts, hK, hsp, hbs, hini, hck, hfr, hlo⟩ := C
  have hr := z_rel_of hck hc
  simp only [z_rel, Bool.and_eq_true] at hr
  obtain ⟨⟨hr, -⟩, w1⟩ := hr
  obtain ⟨hd, rfl⟩ := z_dq_of hr
  refine z_up h0 hbs hW hS rfl (fun hsz => ?_)
  refine va_newaK (g := F0 m pc lsC (.int n :: st.map (z_v (z_ad b sp)))) hx hb (hts _ (z_w_of w1)) rfl hd rfl hn rfl (show _ * 4 ≤ _ by omega) (by omega) (by omega) hsz fun H1 cB e1 z1 o1 hAr hNm => ?_
  have o2 : ∀ q, q < H.size → H1[q]? = H[q]? := fun q h => o1 q (by omega)
  have hcB : cB = cA 0 := Option.some.inj (hNm.symm.trans (hK.2 0 _ rfl).2)
  subst hcB
  have hW1 := hW.app (x := (.inr (0, n.toNatClampNeg, .inl (fun _ => 0)))) h9 o2 e1
  have := k H1 locs lsC hW1 hL (z_S_app hS (by omega) o2)
  rw [List.length_append, z_sz_app] at this
  have e2 : z_ad b sp M.length = b + M.length := z_ad_lo (by omega)
  have this : W p l e R s m args below meth c H1 locs (M.length + 1 - m0) (z_sz M + n.toNatClampNeg - z0) Q (F0 m (pc + 2) lsC (.ref (z_ad b sp M.length) :: st.map (z_v (z_ad b sp)))) := this
  rw [e2] at this
  exact W.cs (by omega) (by omega) this
theorem z_s_newB (C : z_cx b sp cA D S p R s m args meth c y m0) {n : Int32} (hn : ¬ n < 0) (hn5 : n.toNatClampNeg ≤ 5000) (h0 : m0 ≤ M.length) (hz0 : z0 ≤ z_sz M) (h9 : M.length < 900) (hrc : M.length + 1 - m0 ≤ R.cells) (hrs : z_sz M + n.toNatClampNeg - z0 ≤ R.slots) (hc : z_code y pc = some (nx, .newarray .byte)) (k : z_K b sp cA D p l e R s m args below meth c Q y m0 z0 nx ls (.ref M.length :: st) (M ++ [(.inr (1, n.toNatClampNeg, .inl (fun _ => 0)))])) : z_K b sp cA D p l e R s m args below meth c Q y m0 z0 pc ls (.int n :: st) M := by
  intro H locs lsC hW hL hS
  obtain ⟨hx, hb, hml, hown, hts, hK, hsp, hbs, hini, hck, hfr, hlo⟩ := C
  have hr := z_rel_of hck hc
  simp only [z_rel, Bool.and_eq_true] at hr
  obtain ⟨⟨hr, -⟩, w1⟩ := hr
  obtain ⟨hd, rfl⟩ := z_dq_of hr
  refine z_up h0 hbs hW hS rfl (fun hsz => ?_)
  refine va_newaK (g := F0 m pc lsC (.int n :: st.map (z_v (z_ad b sp)))) hx hb (hts _ (z_w_of w1)) rfl hd rfl hn rfl (show _ * 1 ≤ _ by omega) (by omega) (by omega) hsz fun H1 cB e1 z1 o1 hAr hNm => ?_
  have o2 : ∀ q, q < H.size → H1[q]? = H[q]? := fun q h => o1 q (by omega)
  have hcB : cB = cA 1 := Option.some.inj (hNm.symm.trans (hK.2 1 _ rfl).2)
  subst hcB
  have hW1 := hW.app (x := (.inr (1, n.toNatClampNeg, .inl (fun _ => 0)))) h9 o2 e1
  have := k H1 locs lsC hW1 hL (z_S_app hS (by omega) o2)
  rw [List.length_append, z_sz_app] at this
  have e2 : z_ad b sp M.length = b + M.length := z_ad_lo (by omega)
  have this : W p l e R s m args below meth c H1 locs (M.length + 1 - m0) (z_sz M + n.toNatClampNeg - z0) Q (F0 m (pc + 2) lsC (.ref (z_ad b sp M.length) :: st.map (z_v (z_ad b sp)))) := this
  rw [e2] at this
  exact W.cs (by omega) (by omega) this
theorem z_s_newZ (C : z_cx b sp cA D S p R s m args meth c y m0) {n : Int32} (hn : ¬ n < 0) (hn5 : n.toNatClampNeg ≤ 5000) (h0 : m0 ≤ M.length) (hz0 : z0 ≤ z_sz M) (h9 : M.length < 900) (hrc : M.length + 1 - m0 ≤ R.cells) (hrs : z_sz M + n.toNatClampNeg - z0 ≤ R.slots) (hc : z_code y pc = some (nx, .newarray .boolean)) (k : z_K b sp cA D p l e R s m args below meth c Q y m0 z0 nx ls (.ref M.length :: st) (M ++ [(.inr (2, n.toNatClampNeg, .inl (fun _ => 0)))])) : z_K b sp cA D p l e R s m args below meth c Q y m0 z0 pc ls (.int n :: st) M := by
  intro H locs lsC hW hL hS
  obtain ⟨hx, hb, hml, hown, hts, hK, hsp, hbs, hini, hck, hfr, hlo⟩ := C
  have hr := z_rel_of hck hc
  simp only [z_rel, Bool.and_eq_true] at hr
  obtain ⟨⟨hr, -⟩, w1⟩ := hr
  obtain ⟨hd, rfl⟩ := z_dq_of hr
  refine z_up h0 hbs hW hS rfl (fun hsz => ?_)
  refine va_newaK (g := F0 m pc lsC (.int n :: st.map (z_v (z_ad b sp)))) hx hb (hts _ (z_w_of w1)) rfl hd rfl hn rfl (show _ * 1 ≤ _ by omega) (by omega) (by omega) hsz fun H1 cB e1 z1 o1 hAr hNm => ?_
  have o2 : ∀ q, q < H.size → H1[q]? = H[q]? := fun q h => o1 q (by omega)
  have hcB : cB = cA 2 := Option.some.inj (hNm.symm.trans (hK.2 2 _ rfl).2)
  subst hcB
  have hW1 := hW.app (x := (.inr (2, n.toNatClampNeg, .inl (fun _ => 0)))) h9 o2 e1
  have := k H1 locs lsC hW1 hL (z_S_app hS (by omega) o2)
  rw [List.length_append, z_sz_app] at this
  have e2 : z_ad b sp M.length = b + M.length := z_ad_lo (by omega)
  have this : W p l e R s m args below meth c H1 locs (M.length + 1 - m0) (z_sz M + n.toNatClampNeg - z0) Q (F0 m (pc + 2) lsC (.ref (z_ad b sp M.length) :: st.map (z_v (z_ad b sp)))) := this
  rw [e2] at this
  exact W.cs (by omega) (by omega) this
theorem z_s_newJ (C : z_cx b sp cA D S p R s m args meth c y m0) {n : Int32} (hn : ¬ n < 0) (hn5 : n.toNatClampNeg ≤ 5000) (h0 : m0 ≤ M.length) (hz0 : z0 ≤ z_sz M) (h9 : M.length < 900) (hrc : M.length + 1 - m0 ≤ R.cells) (hrs : z_sz M + n.toNatClampNeg - z0 ≤ R.slots) (hc : z_code y pc = some (nx, .newarray .long)) (k : z_K b sp cA D p l e R s m args below meth c Q y m0 z0 nx ls (.ref M.length :: st) (M ++ [(.inr (3, n.toNatClampNeg, .inr (.inl (fun _ => 0))))])) : z_K b sp cA D p l e R s m args below meth c Q y m0 z0 pc ls (.int n :: st) M := by
  intro H locs lsC hW hL hS
  obtain ⟨hx, hb, hml, hown, hts, hK, hsp, hbs, hini, hck, hfr, hlo⟩ := C
  have hr := z_rel_of hck hc
  simp only [z_rel, Bool.and_eq_true] at hr
  obtain ⟨⟨hr, -⟩, w1⟩ := hr
  obtain ⟨hd, rfl⟩ := z_dq_of hr
  refine z_up h0 hbs hW hS rfl (fun hsz => ?_)
  refine va_newaK (g := F0 m pc lsC (.int n :: st.map (z_v (z_ad b sp)))) hx hb (hts _ (z_w_of w1)) rfl hd rfl hn rfl (show _ * 8 ≤ _ by omega) (by omega) (by omega) hsz fun H1 cB e1 z1 o1 hAr hNm => ?_
  have o2 : ∀ q, q < H.size → H1[q]? = H[q]? := fun q h => o1 q (by omega)
  have hcB : cB = cA 3 := Option.some.inj (hNm.symm.trans (hK.2 3 _ rfl).2)
  subst hcB
  have hW1 := hW.app (x := (.inr (3, n.toNatClampNeg, .inr (.inl (fun _ => 0))))) h9 o2 e1
  have := k H1 locs lsC hW1 hL (z_S_app hS (by omega) o2)
  rw [List.length_append, z_sz_app] at this
  have e2 : z_ad b sp M.length = b + M.length := z_ad_lo (by omega)
  have this : W p l e R s m args below meth c H1 locs (M.length + 1 - m0) (z_sz M + n.toNatClampNeg - z0) Q (F0 m (pc + 2) lsC (.ref (z_ad b sp M.length) :: st.map (z_v (z_ad b sp)))) := this
  rw [e2] at this
  exact W.cs (by omega) (by omega) this
theorem z_s_new4 (C : z_cx b sp cA D S p R s m args meth c y m0) {n : Int32} (hn : ¬ n < 0) (hn5 : n.toNatClampNeg ≤ 5000) (h0 : m0 ≤ M.length) (hz0 : z0 ≤ z_sz M) (h9 : M.length < 900) (hrc : M.length + 1 - m0 ≤ R.cells) (hrs : z_sz M + n.toNatClampNeg - z0 ≤ R.slots) (hc : z_code y pc = some (nx, .anewarray 4)) (k : z_K b sp cA D p l e R s m args below meth c Q y m0 z0 nx ls (.ref M.length :: st) (M ++ [(.inr (4, n.toNatClampNeg, .inr (.inr (fun _ => none))))])) : z_K b sp cA D p l e R s m args below meth c Q y m0 z0 pc ls (.int n :: st) M := by
  intro H locs lsC hW hL hS
  obtain ⟨hx, hb, hml, hown, hts, hK, hsp, hbs, hini, hck, hfr, hlo⟩ := C
  have hr := z_rel_of hck hc
  simp only [z_rel] at hr
  split at hr
  · rename_i q hq
    simp only [Bool.and_eq_true, Bool.or_eq_true, decide_eq_true_eq] at hr
    obtain ⟨rfl, w1⟩ := hr
    have w1 : z_w (.classLink (z_mt y).1.cls q RX0) = true := by
      rcases w1 with ⟨g, w⟩ | ⟨g, w⟩
      · first | exact w | exact absurd g (by decide)
      · first | exact w | exact absurd g (by decide)
    refine z_up h0 hbs hW hS rfl (fun hsz => ?_)
    refine W.anew (g := F0 m pc lsC (.int n :: st.map (z_v (z_ad b sp)))) hx hb hown (hts _ (z_w_of w1)) (va_AO.use hsp.2.2.2.2.1) rfl hq rfl hn (by omega) (by omega) (by omega) fun cB kA comp f1 f2 f3 f4 => ?_
    generalize hH1 : H.push ({ cls := cB, slots := Array.replicate n.toNatClampNeg .null, vm := .none } : Cell) = H1
    have z1 : H1.size = H.size + 1 := by rw [← hH1, Array.size_push]
    have e1 : H1[H.size]? = some (arrV cB n.toNatClampNeg (fun _ => .null)) := by rw [← hH1, Array.getElem?_push_size, ← arrV_new]
    have o2 : ∀ q : Nat, q < H.size → H1[q]? = H[q]? := fun q hq => by rw [← hH1, Array.getElem?_push, if_neg (Nat.ne_of_lt hq)]
    obtain ⟨kA2, comp2, g1, g2, g3, g4⟩ := (hK.2 4 _ rfl).2
    have hcB : cB = cA 4 := Option.some.inj (f1.symm.trans g4)
    subst hcB
    rw [hsz] at e1
    have hW1 := hW.app (x := (.inr (4, n.toNatClampNeg, .inr (.inr (fun _ => none))))) h9 o2 e1
    have := k H1 locs lsC hW1 hL (z_S_app hS (by omega) o2)
    rw [List.length_append, z_sz_app] at this
    have e2 : z_ad b sp M.length = b + M.length := z_ad_lo (by omega)
    have this : W p l e R s m args below meth c H1 locs (M.length + 1 - m0) (z_sz M + n.toNatClampNeg - z0) Q (F0 m (pc + 3) lsC (.ref (z_ad b sp M.length) :: st.map (z_v (z_ad b sp)))) := this
    rw [e2] at this
    rw [hsz]
    exact W.cs (by omega) (by omega) this
  · cases hr
theorem z_s_new5 (C : z_cx b sp cA D S p R s m args meth c y m0) {n : Int32} (hn : ¬ n < 0) (hn5 : n.toNatClampNeg ≤ 5000) (h0 : m0 ≤ M.length) (hz0 : z0 ≤ z_sz M) (h9 : M.length < 900) (hrc : M.length + 1 - m0 ≤ R.cells) (hrs : z_sz M + n.toNatClampNeg - z0 ≤ R.slots) (hc : z_code y pc = some (nx, .anewarray 5)) (k : z_K b sp cA D p l e R s m args below meth c Q y m0 z0 nx ls (.ref M.length :: st) (M ++ [(.inr (5, n.toNatClampNeg, .inr (.inr (fun _ => none))))])) : z_K b sp cA D p l e R s m args below meth c Q y m0 z0 pc ls (.int n :: st) M := by
  intro H locs lsC hW hL hS
  obtain ⟨hx, hb, hml, hown, hts, hK, hsp, hbs, hini, hck, hfr, hlo⟩ := C
  have hr := z_rel_of hck hc
  simp only [z_rel] at hr
  split at hr
  · rename_i q hq
    simp only [Bool.and_eq_true, Bool.or_eq_true, decide_eq_true_eq] at hr
    obtain ⟨rfl, w1⟩ := hr
    have w1 : z_w (.classLink (z_mt y).1.cls q RX2) = true := by
      rcases w1 with ⟨g, w⟩ | ⟨g, w⟩
      · first | exact w | exact absurd g (by decide)
      · first | exact w | exact absurd g (by decide)
    refine z_up h0 hbs hW hS rfl (fun hsz => ?_)
    refine W.anew (g := F0 m pc lsC (.int n :: st.map (z_v (z_ad b sp)))) hx hb hown (hts _ (z_w_of w1)) (va_AO.use hsp.2.2.2.2.2.1) rfl hq rfl hn (by omega) (by omega) (by omega) fun cB kA comp f1 f2 f3 f4 => ?_
    generalize hH1 : H.push ({ cls := cB, slots := Array.replicate n.toNatClampNeg .null, vm := .none } : Cell) = H1
    have z1 : H1.size = H.size + 1 := by rw [← hH1, Array.size_push]
    have e1 : H1[H.size]? = some (arrV cB n.toNatClampNeg (fun _ => .null)) := by rw [← hH1, Array.getElem?_push_size, ← arrV_new]
    have o2 : ∀ q : Nat, q < H.size → H1[q]? = H[q]? := fun q hq => by rw [← hH1, Array.getElem?_push, if_neg (Nat.ne_of_lt hq)]
    obtain ⟨kA2, comp2, g1, g2, g3, g4⟩ := (hK.2 5 _ rfl).2
    have hcB : cB = cA 5 := Option.some.inj (f1.symm.trans g4)
    subst hcB
    rw [hsz] at e1
    have hW1 := hW.app (x := (.inr (5, n.toNatClampNeg, .inr (.inr (fun _ => none))))) h9 o2 e1
    have := k H1 locs lsC hW1 hL (z_S_app hS (by omega) o2)
    rw [List.length_append, z_sz_app] at this
    have e2 : z_ad b sp M.length = b + M.length := z_ad_lo (by omega)
    have this : W p l e R s m args below meth c H1 locs (M.length + 1 - m0) (z_sz M + n.toNatClampNeg - z0) Q (F0 m (pc + 3) lsC (.ref (z_ad b sp M.length) :: st.map (z_v (z_ad b sp)))) := this
    rw [e2] at this
    rw [hsz]
    exact W.cs (by omega) (by omega) this
  · cases hr
theorem z_s_obj (C : z_cx b sp cA D S p R s m args meth c y m0) {a : Nat} (hr8 : z_cat st = true) (hc : z_code y pc = some (nx, .monitorenter)) (k : z_K b sp cA D p l e R s m args below meth c Q y m0 z0 nx ls st M) : z_K b sp cA D p l e R s m args below meth c Q y m0 z0 pc ls (.ref a :: st) M := by
  intro H locs lsC hW hL hS
  obtain ⟨hx, hb, hml, hown, hts, hK, hsp, hbs, hini, hck, hfr, hlo⟩ := C
  have hr := z_rel_of hck hc
  simp only [z_rel] at hr
  split at hr
  · rename_i q hq
    simp only [Bool.and_eq_true, decide_eq_true_eq] at hr
    obtain ⟨⟨⟨rfl, w1⟩, w2⟩, w3⟩ := hr
    have h8 := z_cat_of (ad := z_ad b sp) hr8
    exact W.objInit (g := F0 m pc lsC (.ref (z_ad b sp a) :: st.map (z_v (z_ad b sp)))) hx hb hown (hts _ (z_w_of w1)) (hts _ (z_w_of w2)) (hts _ (z_w_of w3)) rfl (hL.1.trans hml.symm) rfl hq (by omega) (by show 2 * 0 + _ + 12 ≤ _; omega) (k H locs lsC hW hL hS)
  · cases hr
theorem z_s_copy (C : z_cx b sp cA D S p R s m args meth c y m0) {a a2 n0 n1 : Nat} {f g : Nat → Int32} {n dp sq : Int32} (hM : M[a]? = some (.inr (0, n0, .inl f))) (hM2 : M[a2]? = some (.inr (0, n1, .inl g))) (h1 : ¬ sq < 0) (h2 : ¬ dp < 0) (h3 : ¬ n < 0) (h4 : sq.toNatClampNeg + n.toNatClampNeg ≤ n0) (h5 : dp.toNatClampNeg + n.toNatClampNeg ≤ n1) (hr8 : z_cat st = true) (hc : z_code y pc = some (nx, .athrow)) (k : z_K b sp cA D p l e R s m args below meth c Q y m0 z0 nx ls st (M.set a2 (.inr (0, n1, .inl (va_cpy f g sq.toNatClampNeg dp.toNatClampNeg n.toNatClampNeg))))) : z_K b sp cA D p l e R s m args below meth c Q y m0 z0 pc ls (.int n :: .int dp :: .ref a2 :: .int sq :: .ref a :: st) M := by
  intro H locs lsC hW hL hS
  obtain ⟨hx, hb, hml, hown, hts, hK, hsp, hbs, hini, hck, hfr, hlo⟩ := C
  have hr := z_rel_of hck hc
  simp only [z_rel] at hr
  split at hr
  · rename_i q hq
    simp only [Bool.and_eq_true, decide_eq_true_eq] at hr
    obtain ⟨⟨⟨⟨rfl, w1⟩, w2⟩, w3⟩, w4⟩ := hr
    have h8 := z_cat_of (ad := z_ad b sp) hr8
    have ha : z_ad b sp a = b + a := z_ad_lo (z_lt9 hM hW.1)
    have ha2 : z_ad b sp a2 = b + a2 := z_ad_lo (z_lt9 hM2 hW.1)
    show W p l e R s m args below meth c H locs (M.length - m0) (z_sz M - z0) Q (F0 m pc lsC (.int n :: .int dp :: .ref (z_ad b sp a2) :: .int sq :: .ref (z_ad b sp a) :: st.map (z_v (z_ad b sp))))
    rw [ha, ha2]
    refine va_copyi hx hb (hml.trans hL.1.symm) hown (hts _ (z_w_of w1)) (hts _ (z_w_of w2)) (hts _ (z_w_of w3)) (hts _ (z_w_of w4)) hK hW.2 (z_D b sp cA M) hS a a2 0 0 (z_ws_at hM) (z_ws_at hM2) rfl rfl rfl h1 h2 h3 h4 h5 (fun _ _ => rfl) (by omega) ?_ hq (fun H1 locs1 hP _ hS1 => ?_)
    · have : nativeFrameWords "java/lang/System" "arraycopy" 5 ≤ 100 := by decide +kernel
      omega
    · have := k H1 locs1 lsC (hW.set hP) hL hS1
      rw [List.length_set, z_sz_set M a2 (.inr (0, n1, .inl (va_cpy f g sq.toNatClampNeg dp.toNatClampNeg n.toNatClampNeg))) _ hM2 rfl] at this
      exact this
  · cases hr
theorem z_s_max (C : z_cx b sp cA D S p R s m args meth c y m0) {a1 a2 : Int32} (hr8 : z_cat st = true) (hrc : M.length - m0 ≤ R.cells) (hrs : z_sz M - z0 ≤ R.slots) (hc : z_code y pc = some (nx, .dadd)) (k : z_K b sp cA D p l e R s m args below meth c Q y m0 z0 nx ls (.int (if a2 < a1 then a1 else a2) :: st) M) : z_K b sp cA D p l e R s m args below meth c Q y m0 z0 pc ls (.int a1 :: .int a2 :: st) M := by
  intro H locs lsC hW hL hS
  obtain ⟨hx, hb, hml, hown, hts, hK, hsp, hbs, hini, hck, hfr, hlo⟩ := C
  have hr := z_rel_of hck hc
  simp only [z_rel] at hr
  split at hr
  · rename_i q hq
    simp only [Bool.and_eq_true, decide_eq_true_eq] at hr
    obtain ⟨⟨⟨rfl, w1⟩, w2⟩, w3⟩ := hr
    have h8 := z_cat_of (ad := z_ad b sp) hr8
    exact va_mmax hx hb (hml.trans hL.1.symm) hown (hts _ (z_w_of w1)) (hts _ (z_w_of w2)) (hts _ (z_w_of w3)) (hts _ (List.mem_filter.mpr ⟨z_cw_max, rfl⟩)) (by omega) (by omega) hrc hrs hq (k H locs lsC hW hL hS)
  · cases hr
theorem z_s_min (C : z_cx b sp cA D S p R s m args meth c y m0) {a1 a2 : Int32} (hr8 : z_cat st = true) (hrc : M.length - m0 ≤ R.cells) (hrs : z_sz M - z0 ≤ R.slots) (hc : z_code y pc = some (nx, .dsub)) (k : z_K b sp cA D p l e R s m args below meth c Q y m0 z0 nx ls (.int (if a1 < a2 then a1 else a2) :: st) M) : z_K b sp cA D p l e R s m args below meth c Q y m0 z0 pc ls (.int a1 :: .int a2 :: st) M := by
  intro H locs lsC hW hL hS
  obtain ⟨hx, hb, hml, hown, hts, hK, hsp, hbs, hini, hck, hfr, hlo⟩ := C
  have hr := z_rel_of hck hc
  simp only [z_rel] at hr
  split at hr
  · rename_i q hq
    simp only [Bool.and_eq_true, decide_eq_true_eq] at hr
    obtain ⟨⟨⟨rfl, w1⟩, w2⟩, w3⟩ := hr
    have h8 := z_cat_of (ad := z_ad b sp) hr8
    exact va_mmin hx hb (hml.trans hL.1.symm) hown (hts _ (z_w_of w1)) (hts _ (z_w_of w2)) (hts _ (z_w_of w3)) (hts _ (List.mem_filter.mpr ⟨z_cw_min, rfl⟩)) (by omega) (by omega) hrc hrs hq (k H locs lsC hW hL hS)
  · cases hr
end ZST
end
section
/-- the two calls of String that the text's words are read by -/
def z_STL : Prop := ∀ {b : Nat} {sp : Nat → Nat} {cA : Nat → ClassId} {D : va_G} {S : ZS} {p : Program} {l : Launch} {e : Env} {R : Room} {s : State} {m : MethodId} {args : Array Value} {below : List Frame} {meth : Method} {c : Code} {Q : State → Prop} {y m0 z0 pc nx a : Nat} {ls : ZL} {st : List Value} {M : ZM}, z_cx b sp cA D S p R s m args meth c y m0 → z_code y pc = some (nx, .saload) → 1001 ≤ a → a < 1004 → z_cat st = true → M.length - m0 ≤ R.cells → z_sz M - z0 ≤ R.slots → z_K b sp cA D p l e R s m args below meth c Q y m0 z0 nx ls (.int (Int32.ofNat (z_wlen (a - 1001))) :: st) M → z_K b sp cA D p l e R s m args below meth c Q y m0 z0 pc ls (.ref a :: st) M
def z_STC : Prop := ∀ {b : Nat} {sp : Nat → Nat} {cA : Nat → ClassId} {D : va_G} {S : ZS} {p : Program} {l : Launch} {e : Env} {R : Room} {s : State} {m : MethodId} {args : Array Value} {below : List Frame} {meth : Method} {c : Code} {Q : State → Prop} {y m0 z0 pc nx a : Nat} {i : Int32} {ls : ZL} {st : List Value} {M : ZM}, z_cx b sp cA D S p R s m args meth c y m0 → z_code y pc = some (nx, .sastore) → 1001 ≤ a → a < 1004 → z_in i (z_wlen (a - 1001)) = true → z_cat st = true → M.length - m0 ≤ R.cells → z_sz M - z0 ≤ R.slots → z_K b sp cA D p l e R s m args below meth c Q y m0 z0 nx ls (.int ((z_wch (a - 1001)).getD i.toNatClampNeg 0) :: st) M → z_K b sp cA D p l e R s m args below meth c Q y m0 z0 pc ls (.int i :: .ref a :: st) M
section ZST
variable {b : Nat} {sp : Nat → Nat} {cA : Nat → ClassId} {D : va_G} {S : ZS} {p : Program} {l : Launch} {e : Env} {R : Room} {s : State} {m : MethodId} {args : Array Value} {below : List Frame} {meth : Method} {c : Code} {Q : State → Prop} {y m0 z0 : Nat}
variable {pc nx : Nat} {ls : ZL} {st : List Value} {M : ZM}

set_option maxHeartbeats 4000000 in
theorem z_step (hL : z_STL) (hCh : z_STC) (C : z_cx b sp cA D S p R s m args meth c y m0) {i : Instr} {pc' : Nat} {ls' : ZL} {st' : List Value} {M' : ZM} (hc : z_code y pc = some (nx, i)) (h : z_stp S y i nx ls st M = some (.inl (pc', ls', st', M'))) (h0 : m0 ≤ M.length) (hz0 : z0 ≤ z_sz M) (hrc : M'.length - m0 ≤ R.cells) (hrs : z_sz M' - z0 ≤ R.slots) (k : z_K b sp cA D p l e R s m args below meth c Q y m0 z0 pc' ls' st' M') : z_K b sp cA D p l e R s m args below meth c Q y m0 z0 pc ls st M := by
  cases i with
  | iconst n =>
    simp only [z_stp] at h
    simp only [Option.some.injEq, Sum.inl.injEq, Prod.mk.injEq] at h
    obtain ⟨rfl, rfl, rfl, rfl⟩ := h
    exact z_s_iconst C hc k
  | goto_w n =>
    simp only [z_stp] at h
    simp only [Option.some.injEq, Sum.inl.injEq, Prod.mk.injEq] at h
    obtain ⟨rfl, rfl, rfl, rfl⟩ := h
    exact z_s_lcon C hc k
  | aconst_null =>
    simp only [z_stp] at h
    simp only [Option.some.injEq, Sum.inl.injEq, Prod.mk.injEq] at h
    obtain ⟨rfl, rfl, rfl, rfl⟩ := h
    exact z_s_null C hc k
  | ret t =>
    simp only [z_stp] at h
    simp only [Option.some.injEq, Sum.inl.injEq, Prod.mk.injEq] at h
    obtain ⟨rfl, rfl, rfl, rfl⟩ := h
    exact z_s_goto C hc k
  | ldc n =>
    simp only [z_stp] at h
    split at h
    · rename_i hn
      simp only [Option.some.injEq, Sum.inl.injEq, Prod.mk.injEq] at h
      obtain ⟨rfl, rfl, rfl, rfl⟩ := h
      exact z_s_ldc C hn hc k
    · cases h
  | iload n =>
    simp only [z_stp] at h
    split at h
    · rename_i hv
      simp only [Option.some.injEq, Sum.inl.injEq, Prod.mk.injEq] at h
      obtain ⟨rfl, rfl, rfl, rfl⟩ := h
      exact z_s_iload C hv hc k
    · cases h
  | lload n =>
    simp only [z_stp] at h
    split at h
    · rename_i hv
      simp only [Option.some.injEq, Sum.inl.injEq, Prod.mk.injEq] at h
      obtain ⟨rfl, rfl, rfl, rfl⟩ := h
      exact z_s_lload C hv hc k
    · cases h
  | aload n =>
    simp only [z_stp] at h
    split at h
    · rename_i hv
      simp only [Option.some.injEq, Sum.inl.injEq, Prod.mk.injEq] at h
      obtain ⟨rfl, rfl, rfl, rfl⟩ := h
      exact z_s_aload C hv hc k
    · rename_i hv
      simp only [Option.some.injEq, Sum.inl.injEq, Prod.mk.injEq] at h
      obtain ⟨rfl, rfl, rfl, rfl⟩ := h
      exact z_s_aloadN C hv hc k
    · cases h
  | istore n =>
    simp only [z_stp] at h
    split at h
    · split at h
      · rename_i hif
        simp only [Option.some.injEq, Sum.inl.injEq, Prod.mk.injEq] at h
        obtain ⟨rfl, rfl, rfl, rfl⟩ := h
        exact z_s_istore C hif hc k
      · cases h
    · cases h
  | lstore n =>
    simp only [z_stp] at h
    split at h
    · split at h
      · rename_i hif
        simp only [Option.some.injEq, Sum.inl.injEq, Prod.mk.injEq] at h
        obtain ⟨rfl, rfl, rfl, rfl⟩ := h
        exact z_s_lstore C hif hc k
      · cases h
    · cases h
  | astore n =>
    simp only [z_stp] at h
    split at h
    · split at h
      · rename_i hif
        simp only [Option.some.injEq, Sum.inl.injEq, Prod.mk.injEq] at h
        obtain ⟨rfl, rfl, rfl, rfl⟩ := h
        exact z_s_astore C hif hc k
      · cases h
    · split at h
      · rename_i hif
        simp only [Option.some.injEq, Sum.inl.injEq, Prod.mk.injEq] at h
        obtain ⟨rfl, rfl, rfl, rfl⟩ := h
        exact z_s_astoreN C hif hc k
      · cases h
    · cases h
  | iinc n v =>
    simp only [z_stp] at h
    split at h
    · rename_i hv
      simp only [Option.some.injEq, Sum.inl.injEq, Prod.mk.injEq] at h
      obtain ⟨rfl, rfl, rfl, rfl⟩ := h
      exact z_s_iinc C hv hc k
    · cases h
  | iadd =>
    simp only [z_stp] at h
    split at h
    · simp only [Option.some.injEq, Sum.inl.injEq, Prod.mk.injEq] at h
      obtain ⟨rfl, rfl, rfl, rfl⟩ := h
      exact z_s_iadd C hc k
    · cases h
  | isub =>
    simp only [z_stp] at h
    split at h
    · simp only [Option.some.injEq, Sum.inl.injEq, Prod.mk.injEq] at h
      obtain ⟨rfl, rfl, rfl, rfl⟩ := h
      exact z_s_isub C hc k
    · cases h
  | imul =>
    simp only [z_stp] at h
    split at h
    · simp only [Option.some.injEq, Sum.inl.injEq, Prod.mk.injEq] at h
      obtain ⟨rfl, rfl, rfl, rfl⟩ := h
      exact z_s_imul C hc k
    · cases h
  | iand =>
    simp only [z_stp] at h
    split at h
    · simp only [Option.some.injEq, Sum.inl.injEq, Prod.mk.injEq] at h
      obtain ⟨rfl, rfl, rfl, rfl⟩ := h
      exact z_s_iand C hc k
    · cases h
  | ior =>
    simp only [z_stp] at h
    split at h
    · simp only [Option.some.injEq, Sum.inl.injEq, Prod.mk.injEq] at h
      obtain ⟨rfl, rfl, rfl, rfl⟩ := h
      exact z_s_ior C hc k
    · cases h
  | ixor =>
    simp only [z_stp] at h
    split at h
    · simp only [Option.some.injEq, Sum.inl.injEq, Prod.mk.injEq] at h
      obtain ⟨rfl, rfl, rfl, rfl⟩ := h
      exact z_s_ixor C hc k
    · cases h
  | ishl =>
    simp only [z_stp] at h
    split at h
    · simp only [Option.some.injEq, Sum.inl.injEq, Prod.mk.injEq] at h
      obtain ⟨rfl, rfl, rfl, rfl⟩ := h
      exact z_s_ishl C hc k
    · cases h
  | ishr =>
    simp only [z_stp] at h
    split at h
    · simp only [Option.some.injEq, Sum.inl.injEq, Prod.mk.injEq] at h
      obtain ⟨rfl, rfl, rfl, rfl⟩ := h
      exact z_s_ishr C hc k
    · cases h
  | iushr =>
    simp only [z_stp] at h
    split at h
    · simp only [Option.some.injEq, Sum.inl.injEq, Prod.mk.injEq] at h
      obtain ⟨rfl, rfl, rfl, rfl⟩ := h
      exact z_s_iushr C hc k
    · cases h
  | ladd =>
    simp only [z_stp] at h
    split at h
    · simp only [Option.some.injEq, Sum.inl.injEq, Prod.mk.injEq] at h
      obtain ⟨rfl, rfl, rfl, rfl⟩ := h
      exact z_s_ladd C hc k
    · cases h
  | land =>
    simp only [z_stp] at h
    split at h
    · simp only [Option.some.injEq, Sum.inl.injEq, Prod.mk.injEq] at h
      obtain ⟨rfl, rfl, rfl, rfl⟩ := h
      exact z_s_land C hc k
    · cases h
  | lor =>
    simp only [z_stp] at h
    split at h
    · simp only [Option.some.injEq, Sum.inl.injEq, Prod.mk.injEq] at h
      obtain ⟨rfl, rfl, rfl, rfl⟩ := h
      exact z_s_lor C hc k
    · cases h
  | lshl =>
    simp only [z_stp] at h
    split at h
    · simp only [Option.some.injEq, Sum.inl.injEq, Prod.mk.injEq] at h
      obtain ⟨rfl, rfl, rfl, rfl⟩ := h
      exact z_s_lshl C hc k
    · cases h
  | lshr =>
    simp only [z_stp] at h
    split at h
    · simp only [Option.some.injEq, Sum.inl.injEq, Prod.mk.injEq] at h
      obtain ⟨rfl, rfl, rfl, rfl⟩ := h
      exact z_s_lshr C hc k
    · cases h
  | lushr =>
    simp only [z_stp] at h
    split at h
    · simp only [Option.some.injEq, Sum.inl.injEq, Prod.mk.injEq] at h
      obtain ⟨rfl, rfl, rfl, rfl⟩ := h
      exact z_s_lushr C hc k
    · cases h
  | lcmp =>
    simp only [z_stp] at h
    split at h
    · simp only [Option.some.injEq, Sum.inl.injEq, Prod.mk.injEq] at h
      obtain ⟨rfl, rfl, rfl, rfl⟩ := h
      exact z_s_lcmp C hc k
    · cases h
  | i2l =>
    simp only [z_stp] at h
    split at h
    · simp only [Option.some.injEq, Sum.inl.injEq, Prod.mk.injEq] at h
      obtain ⟨rfl, rfl, rfl, rfl⟩ := h
      exact z_s_i2l C hc k
    · cases h
  | l2i =>
    simp only [z_stp] at h
    split at h
    · simp only [Option.some.injEq, Sum.inl.injEq, Prod.mk.injEq] at h
      obtain ⟨rfl, rfl, rfl, rfl⟩ := h
      exact z_s_l2i C hc k
    · cases h
  | i2b =>
    simp only [z_stp] at h
    split at h
    · simp only [Option.some.injEq, Sum.inl.injEq, Prod.mk.injEq] at h
      obtain ⟨rfl, rfl, rfl, rfl⟩ := h
      exact z_s_i2b C hc k
    · cases h
  | idiv =>
    simp only [z_stp] at h
    split at h
    · split at h
      · cases h
      · rename_i hif
        simp only [Option.some.injEq, Sum.inl.injEq, Prod.mk.injEq] at h
        obtain ⟨rfl, rfl, rfl, rfl⟩ := h
        exact z_s_idiv C hif hc k
    · cases h
  | irem =>
    simp only [z_stp] at h
    split at h
    · split at h
      · cases h
      · rename_i hif
        simp only [Option.some.injEq, Sum.inl.injEq, Prod.mk.injEq] at h
        obtain ⟨rfl, rfl, rfl, rfl⟩ := h
        exact z_s_irem C hif hc k
    · cases h
  | dup =>
    simp only [z_stp] at h
    split at h
    · split at h
      · rename_i hif
        simp only [Option.some.injEq, Sum.inl.injEq, Prod.mk.injEq] at h
        obtain ⟨rfl, rfl, rfl, rfl⟩ := h
        exact z_s_dup C hif hc k
      · cases h
    · cases h
  | dup2 =>
    simp only [z_stp] at h
    split at h
    · split at h
      · rename_i hif
        simp only [Option.some.injEq, Sum.inl.injEq, Prod.mk.injEq] at h
        obtain ⟨rfl, rfl, rfl, rfl⟩ := h
        exact z_s_dup2 C hif.1 hif.2 hc k
      · cases h
    · cases h
  | pop =>
    simp only [z_stp] at h
    split at h
    · split at h
      · rename_i hif
        simp only [Option.some.injEq, Sum.inl.injEq, Prod.mk.injEq] at h
        obtain ⟨rfl, rfl, rfl, rfl⟩ := h
        exact z_s_pop C hif hc k
      · cases h
    · cases h
  | invokeinterface q t =>
    simp only [z_stp] at h
    split at h
    · simp only [Option.some.injEq, Sum.inl.injEq, Prod.mk.injEq] at h
      obtain ⟨rfl, rfl, rfl, rfl⟩ := h
      exact z_s_icmp C hc k
    · cases h
  | multianewarray q t =>
    simp only [z_stp] at h
    split at h
    · simp only [Option.some.injEq, Sum.inl.injEq, Prod.mk.injEq] at h
      obtain ⟨rfl, rfl, rfl, rfl⟩ := h
      exact z_s_if C hc k
    · cases h
  | dload t =>
    simp only [z_stp] at h
    split at h
    · simp only [Option.some.injEq, Sum.inl.injEq, Prod.mk.injEq] at h
      obtain ⟨rfl, rfl, rfl, rfl⟩ := h
      exact z_s_ifnull C hc k
    · simp only [Option.some.injEq, Sum.inl.injEq, Prod.mk.injEq] at h
      obtain ⟨rfl, rfl, rfl, rfl⟩ := h
      exact z_s_ifnullN C hc k
    · cases h
  | dstore t =>
    simp only [z_stp] at h
    split at h
    · simp only [Option.some.injEq, Sum.inl.injEq, Prod.mk.injEq] at h
      obtain ⟨rfl, rfl, rfl, rfl⟩ := h
      exact z_s_ifnonnull C hc k
    · simp only [Option.some.injEq, Sum.inl.injEq, Prod.mk.injEq] at h
      obtain ⟨rfl, rfl, rfl, rfl⟩ := h
      exact z_s_ifnonnullN C hc k
    · cases h
  | tableswitch d lo hi offs =>
    simp only [z_stp] at h
    split at h
    · split at h
      · rename_i hif
        simp only [Option.some.injEq, Sum.inl.injEq, Prod.mk.injEq] at h
        obtain ⟨rfl, rfl, rfl, rfl⟩ := h
        exact z_s_tabOut C hif hc k
      · rename_i hif
        split at h
        · rename_i hv
          simp only [Option.some.injEq, Sum.inl.injEq, Prod.mk.injEq] at h
          obtain ⟨rfl, rfl, rfl, rfl⟩ := h
          exact z_s_tabIn C hif hv hc k
        · cases h
    · cases h
  | lookupswitch d ps =>
    simp only [z_stp] at h
    split at h
    · simp only [Option.some.injEq, Sum.inl.injEq, Prod.mk.injEq] at h
      obtain ⟨rfl, rfl, rfl, rfl⟩ := h
      exact z_s_lookup C hc k
    · cases h
  | getfield n =>
    simp only [z_stp] at h
    split at h
    · split at h
      · rename_i hM
        split at h
        · rename_i hci
          split at h
          · rename_i hv
            simp only [Option.some.injEq, Sum.inl.injEq, Prod.mk.injEq] at h
            obtain ⟨rfl, rfl, rfl, rfl⟩ := h
            exact z_s_getf C hM hci hv hc k
          · cases h
        · cases h
      · cases h
    · cases h
  | putfield n =>
    simp only [z_stp] at h
    split at h
    · split at h
      · rename_i hM
        split at h
        · rename_i hif
          simp only [Option.some.injEq, Sum.inl.injEq, Prod.mk.injEq] at h
          obtain ⟨rfl, rfl, rfl, rfl⟩ := h
          exact z_s_putf C hM hif.1 hif.2.1 hif.2.2.1 hif.2.2.2 hc k
        · cases h
      · cases h
    · cases h
  | iaload =>
    simp only [z_stp] at h
    split at h
    · split at h
      · rename_i ha
        subst ha
        split at h
        · rename_i hif
          simp only [Option.some.injEq, Sum.inl.injEq, Prod.mk.injEq] at h
          obtain ⟨rfl, rfl, rfl, rfl⟩ := h
          exact z_s_sld C hif hc k
        · cases h
      · split at h
        · rename_i hM
          split at h
          · rename_i hif
            simp only [Option.some.injEq, Sum.inl.injEq, Prod.mk.injEq] at h
            obtain ⟨rfl, rfl, rfl, rfl⟩ := h
            exact z_s_iald C hM hif hc k
          · cases h
        · cases h
    · cases h
  | baload =>
    simp only [z_stp] at h
    split at h
    · split at h
      · rename_i hM
        split at h
        · rename_i hif
          simp only [Option.some.injEq, Sum.inl.injEq, Prod.mk.injEq] at h
          obtain ⟨rfl, rfl, rfl, rfl⟩ := h
          exact z_s_bald C hM hif hc k
        · cases h
      · rename_i hM
        split at h
        · rename_i hif
          simp only [Option.some.injEq, Sum.inl.injEq, Prod.mk.injEq] at h
          obtain ⟨rfl, rfl, rfl, rfl⟩ := h
          exact z_s_zald C hM hif hc k
        · cases h
      · cases h
    · cases h
  | laload =>
    simp only [z_stp] at h
    split at h
    · split at h
      · rename_i hM
        split at h
        · rename_i hif
          simp only [Option.some.injEq, Sum.inl.injEq, Prod.mk.injEq] at h
          obtain ⟨rfl, rfl, rfl, rfl⟩ := h
          exact z_s_lald C hM hif hc k
        · cases h
      · cases h
    · cases h
  | aaload =>
    simp only [z_stp] at h
    split at h
    · split at h
      · rename_i hM
        split at h
        · rename_i hif
          simp only [Option.some.injEq, Sum.inl.injEq, Prod.mk.injEq] at h
          obtain ⟨rfl, rfl, rfl, rfl⟩ := h
          exact z_s_ald4 C hM hif hc k
        · cases h
      · rename_i hM
        split at h
        · rename_i hif
          simp only [Option.some.injEq, Sum.inl.injEq, Prod.mk.injEq] at h
          obtain ⟨rfl, rfl, rfl, rfl⟩ := h
          exact z_s_ald5 C hM hif hc k
        · cases h
      · cases h
    · cases h
  | iastore =>
    simp only [z_stp] at h
    split at h
    · split at h
      · rename_i hM
        split at h
        · rename_i hif
          simp only [Option.some.injEq, Sum.inl.injEq, Prod.mk.injEq] at h
          obtain ⟨rfl, rfl, rfl, rfl⟩ := h
          exact z_s_iast C hM hif hc k
        · cases h
      · cases h
    · cases h
  | bastore =>
    simp only [z_stp] at h
    split at h
    · split at h
      · rename_i hM
        split at h
        · rename_i hif
          simp only [Option.some.injEq, Sum.inl.injEq, Prod.mk.injEq] at h
          obtain ⟨rfl, rfl, rfl, rfl⟩ := h
          exact z_s_bast C hM hif hc k
        · cases h
      · rename_i hM
        split at h
        · rename_i hif
          simp only [Option.some.injEq, Sum.inl.injEq, Prod.mk.injEq] at h
          obtain ⟨rfl, rfl, rfl, rfl⟩ := h
          exact z_s_zast C hM hif hc k
        · cases h
      · cases h
    · cases h
  | lastore =>
    simp only [z_stp] at h
    split at h
    · split at h
      · rename_i hM
        split at h
        · rename_i hif
          simp only [Option.some.injEq, Sum.inl.injEq, Prod.mk.injEq] at h
          obtain ⟨rfl, rfl, rfl, rfl⟩ := h
          exact z_s_last C hM hif hc k
        · cases h
      · cases h
    · cases h
  | aastore =>
    simp only [z_stp] at h
    split at h
    · split at h
      · rename_i hM hX
        split at h
        · rename_i hif
          simp only [Option.some.injEq, Sum.inl.injEq, Prod.mk.injEq] at h
          obtain ⟨rfl, rfl, rfl, rfl⟩ := h
          exact z_s_ast4 C hM hX hif hc k
        · cases h
      · rename_i hM hX
        split at h
        · rename_i hif
          simp only [Option.some.injEq, Sum.inl.injEq, Prod.mk.injEq] at h
          obtain ⟨rfl, rfl, rfl, rfl⟩ := h
          exact z_s_ast5 C hM hX hif hc k
        · cases h
      · cases h
    · cases h
  | arraylength =>
    simp only [z_stp] at h
    split at h
    · split at h
      · rename_i ha
        subst ha
        simp only [Option.some.injEq, Sum.inl.injEq, Prod.mk.injEq] at h
        obtain ⟨rfl, rfl, rfl, rfl⟩ := h
        exact z_s_slen C hc k
      · split at h
        · rename_i hM
          simp only [Option.some.injEq, Sum.inl.injEq, Prod.mk.injEq] at h
          obtain ⟨rfl, rfl, rfl, rfl⟩ := h
          exact z_s_len0 C hM hc k
        · rename_i hM
          simp only [Option.some.injEq, Sum.inl.injEq, Prod.mk.injEq] at h
          obtain ⟨rfl, rfl, rfl, rfl⟩ := h
          exact z_s_len3 C hM hc k
        · cases h
    · cases h
  | newarray t =>
    simp only [z_stp] at h
    split at h
    · split at h
      · cases h
      · rename_i hif
        simp only [Bool.or_eq_true, decide_eq_true_eq, not_or, Nat.not_lt, Nat.not_le] at hif
        obtain ⟨⟨hn0, hn5⟩, h9⟩ := hif
        split at h
        · simp only [Option.some.injEq, Sum.inl.injEq, Prod.mk.injEq] at h
          obtain ⟨rfl, rfl, rfl, rfl⟩ := h
          rw [List.length_append] at hrc
          rw [z_sz_app] at hrs
          exact z_s_newI C hn0 hn5 h0 hz0 h9 hrc hrs hc k
        · simp only [Option.some.injEq, Sum.inl.injEq, Prod.mk.injEq] at h
          obtain ⟨rfl, rfl, rfl, rfl⟩ := h
          rw [List.length_append] at hrc
          rw [z_sz_app] at hrs
          exact z_s_newB C hn0 hn5 h0 hz0 h9 hrc hrs hc k
        · simp only [Option.some.injEq, Sum.inl.injEq, Prod.mk.injEq] at h
          obtain ⟨rfl, rfl, rfl, rfl⟩ := h
          rw [List.length_append] at hrc
          rw [z_sz_app] at hrs
          exact z_s_newZ C hn0 hn5 h0 hz0 h9 hrc hrs hc k
        · simp only [Option.some.injEq, Sum.inl.injEq, Prod.mk.injEq] at h
          obtain ⟨rfl, rfl, rfl, rfl⟩ := h
          rw [List.length_append] at hrc
          rw [z_sz_app] at hrs
          exact z_s_newJ C hn0 hn5 h0 hz0 h9 hrc hrs hc k
        · cases h
    · cases h
  | anewarray t =>
    simp only [z_stp] at h
    split at h
    · split at h
      · cases h
      · rename_i hif
        simp only [Bool.or_eq_true, decide_eq_true_eq, not_or, Nat.not_lt, Nat.not_le] at hif
        obtain ⟨⟨hn0, hn5⟩, h9⟩ := hif
        split at h
        · simp only [Option.some.injEq, Sum.inl.injEq, Prod.mk.injEq] at h
          obtain ⟨rfl, rfl, rfl, rfl⟩ := h
          rw [List.length_append] at hrc
          rw [z_sz_app] at hrs
          exact z_s_new4 C hn0 hn5 h0 hz0 h9 hrc hrs hc k
        · simp only [Option.some.injEq, Sum.inl.injEq, Prod.mk.injEq] at h
          obtain ⟨rfl, rfl, rfl, rfl⟩ := h
          rw [List.length_append] at hrc
          rw [z_sz_app] at hrs
          exact z_s_new5 C hn0 hn5 h0 hz0 h9 hrc hrs hc k
        · cases h
    · cases h
  | new ci =>
    simp only [z_stp] at h
    split at h
    · rename_i hif
      simp only [Option.some.injEq, Sum.inl.injEq, Prod.mk.injEq] at h
      obtain ⟨rfl, rfl, rfl, rfl⟩ := h
      rw [List.length_append] at hrc
      rw [z_sz_app] at hrs
      exact z_s_new C hif.1 h0 hz0 hif.2 hrc hrs hc k
    · cases h
  | monitorenter =>
    simp only [z_stp] at h
    split at h
    · split at h
      · rename_i hif
        simp only [Option.some.injEq, Sum.inl.injEq, Prod.mk.injEq] at h
        obtain ⟨rfl, rfl, rfl, rfl⟩ := h
        exact z_s_obj C hif hc k
      · cases h
    · cases h
  | athrow =>
    simp only [z_stp] at h
    split at h
    · split at h
      · rename_i hM hM2
        split at h
        · cases h
        · rename_i hif
          simp only [not_or, Nat.not_lt, Bool.not_eq_false] at hif
          simp only [Option.some.injEq, Sum.inl.injEq, Prod.mk.injEq] at h
          obtain ⟨rfl, rfl, rfl, rfl⟩ := h
          exact z_s_copy C hM hM2 hif.1 hif.2.1 hif.2.2.1 hif.2.2.2.1 hif.2.2.2.2.1 hif.2.2.2.2.2 hc k
      · cases h
    · cases h
  | dadd =>
    simp only [z_stp] at h
    split at h
    · split at h
      · rename_i hif
        simp only [Option.some.injEq, Sum.inl.injEq, Prod.mk.injEq] at h
        obtain ⟨rfl, rfl, rfl, rfl⟩ := h
        exact z_s_max C hif hrc hrs hc k
      · cases h
    · cases h
  | dsub =>
    simp only [z_stp] at h
    split at h
    · split at h
      · rename_i hif
        simp only [Option.some.injEq, Sum.inl.injEq, Prod.mk.injEq] at h
        obtain ⟨rfl, rfl, rfl, rfl⟩ := h
        exact z_s_min C hif hrc hrs hc k
      · cases h
    · cases h
  | saload =>
    simp only [z_stp] at h
    split at h
    · split at h
      · rename_i hif
        simp only [Option.some.injEq, Sum.inl.injEq, Prod.mk.injEq] at h
        obtain ⟨rfl, rfl, rfl, rfl⟩ := h
        exact hL C hc hif.1 hif.2.1 hif.2.2 hrc hrs k
      · cases h
    · cases h
  | sastore =>
    simp only [z_stp] at h
    split at h
    · split at h
      · rename_i hif
        simp only [Option.some.injEq, Sum.inl.injEq, Prod.mk.injEq] at h
        obtain ⟨rfl, rfl, rfl, rfl⟩ := h
        exact hCh C hc hif.1 hif.2.1 hif.2.2.1 hif.2.2.2 hrc hrs k
      · cases h
    · cases h
  | ireturn =>
    simp only [z_stp] at h
    split at h
    · split at h
      · cases h
      · cases h
    · cases h
  | lreturn =>
    simp only [z_stp] at h
    split at h
    · split at h
      · cases h
      · cases h
    · cases h
  | areturn =>
    simp only [z_stp] at h
    split at h
    · split at h
      · cases h
      · cases h
    · split at h
      · cases h
      · cases h
    · cases h
  | return_ =>
    simp only [z_stp] at h
    split at h
    · cases h
    · cases h
  | invokestatic q =>
    simp only [z_stp] at h
    split at h
    · cases h
    · cases h
  | invokevirtual q =>
    simp only [z_stp] at h
    split at h
    · split at h
      · split at h
        · cases h
        · cases h
      · cases h
    · cases h
  | invokespecial q =>
    simp only [z_stp] at h
    split at h
    · split at h
      · cases h
      · cases h
    · cases h
  | _ => simp [z_stp] at h
end ZST
end
section
/-! calls: the contract of every method, out of the small machine's run of it -/
def z_rm (d mc ms : Nat) : Room := { frames := d + 6, cells := mc, slots := ms, locals := 100 * d + 300 }
def z_wsy (y : Nat) : List Cond := Cond.code (z_mt y).1 (z_mt y).2.1 (z_mt y).2.2.1 (z_mt y).2.2.2.1 :: z_gw
def z_Pc (b : Nat) (sp : Nat → Nat) (cA : Nat → ClassId) (D : va_G) (S : ZS) (as : List Value) (M : ZM) : Array Value → State → Prop := fun v U => v = (as.map (z_v (z_ad b sp))).toArray ∧ U.heap.size = b + M.length ∧ z_wd b sp cA D M U.heap ∧ va_K D vwCl (z_tys cA) U ∧ z_sp b sp S U U.heap
def z_Qc (b : Nat) (sp : Nat → Nat) (cA : Nat → ClassId) (D : va_G) (r : Option Value) (M' : ZM) : Array Value → State → Outcome → State → Prop := fun _ st o t => o = .returned (r.map (z_v (z_ad b sp))) ∧ z_wd b sp cA D M' t.heap ∧ va_F (z_A b) st t
def z_Met (l : Launch) (b : Nat) (sp : Nat → Nat) (cA : Nat → ClassId) (D : va_G) (S : ZS) (d y : Nat) (as : List Value) (M : ZM) (r : Option Value) (M' : ZM) : Prop :=
  Met l (z_mt y).1 (z_wsy y) (z_rm d (M'.length - M.length) (z_sz M' - z_sz M)) (z_Pc b sp cA D S as M) (z_Qc b sp cA D r M') (M'.length - M.length) (z_sz M' - z_sz M) (z_A b)
theorem z_good {ws : List Cond} (h : ∀ w ∈ ws, w ∈ z_gw) : GoodIn z_gw ws := fun w hw => ⟨h w hw, good_of_word (List.mem_filter.mp (h w hw)).2⟩
theorem z_wsy_in {y : Nat} (h : y < 168) : ∀ w ∈ z_wsy y, w ∈ z_gw := by
  intro w hw
  rcases List.mem_cons.mp hw with rfl | hw
  · exact List.mem_filter.mpr ⟨z_cwk y h, rfl⟩
  · exact hw
theorem z_sp.to {b : Nat} {sp : Nat → Nat} {S : ZS} {s U : State} {H : Heap} {locs : List Loc} (h : z_sp b sp S s s.heap) (hb : b ≤ s.heap.size) (hS : va_S (z_A b) s.heap H locs) (hW : s.WarmedH U.vm) (hU : U.heap = H) : z_sp b sp S U U.heap := by
  obtain ⟨h1, h2, ⟨adV, h3⟩, h4, h5, h6, h7, h8⟩ := h
  have hk : ∀ q : Nat, q < s.heap.size → ¬ z_A b q → U.heap[q]? = s.heap[q]? := fun q g1 g2 => by rw [hU]; exact hS.2.1 q g1 g2
  have h0 : sp 0 < b := h1 0 (by omega)
  exact ⟨h1, (h2.moved hW.alike).kept (hk _ (by omega) (fun g => absurd g (by unfold z_A; omega))), ⟨adV, (h3.moved hW.alike).kept hk⟩, fun q hq => by
    obtain ⟨tx, g⟩ := h4 q hq
    exact ⟨tx, g.warm hW⟩, h5.moved hW.alike, h6.moved hW.alike, (va_Z.moved hW.alike h7).kept hk, (h8.moved hW.alike).kept hk⟩
theorem z_blind {b : Nat} {sp : Nat → Nat} {cA : Nat → ClassId} {D : va_G} {S : ZS} {as : List Value} {M : ZM} : FrameBlind (z_Pc b sp cA D S as M) := by
  intro a U g mk h
  obtain ⟨h1, h2, h3, h4, h5⟩ := h
  obtain ⟨g1, g2, ⟨adV, g3⟩, g4, g5, g6, g7, g8⟩ := h5
  have hv : U.vm.Alike (U.calling g mk a).vm := Vm.Alike.refl U.vm
  exact ⟨h1, h2, h3, va_K.moved (u := U) (U := U.calling g mk a) hv h4, g1, va_X.moved (u := U) (U := U.calling g mk a) hv g2, ⟨adV, vk_S.moved (u := U) (U := U.calling g mk a) hv g3⟩, fun q hq => by
    obtain ⟨tx, gg⟩ := g4 q hq
    exact ⟨tx, vk_R.same (u := U) (U := U.calling g mk a) rfl gg⟩, va_AO.moved (u := U) (U := U.calling g mk a) hv g5, va_AO.moved (u := U) (U := U.calling g mk a) hv g6, va_Z.moved (u := U) (U := U.calling g mk a) hv g7, va_Zq.moved (u := U) (U := U.calling g mk a) hv g8⟩
theorem z_mok_of {k : Nat} (h : z_mok k = true) : k < 168 ∧ Cond.initialized (z_mt k).1.cls ∈ z_gw ∧ ((z_mt k).1.cls ≠ "java/lang/invoke/MethodHandle" ∧ (z_mt k).1.cls ≠ "java/lang/invoke/VarHandle" ∧ (parseMethodDescriptor (z_mt k).1.desc).map (fun d => d.parameters.length) = some (z_mt k).2.2.2.2.1) ∧ plainName (z_mt k).1.cls = true ∧ (z_mt k).2.2.1 ≤ 30 := by
  unfold z_mok z_par at h
  simp only [Bool.and_eq_true, decide_eq_true_eq] at h
  obtain ⟨⟨⟨⟨⟨⟨h1, h2⟩, h3⟩, h4⟩, h5⟩, h6⟩, h7⟩ := h
  exact ⟨h1, z_w_of h2, ⟨h3, h4, h5⟩, h6, h7⟩
theorem z_mono1 {S : ZS} {y : Nat} {i : Instr} {nx pc' : Nat} {ls ls' : ZL} {st st' : List Value} {M M' : ZM} (h : z_stp S y i nx ls st M = some (.inl (pc', ls', st', M'))) : M.length ≤ M'.length ∧ z_sz M ≤ z_sz M' := by
  cases i <;> simp only [z_stp] at h <;> (repeat' (split at h)) <;> first
    | (cases h; done)
    | (cases h; exact ⟨Nat.le_refl _, Nat.le_refl _⟩)
    | (cases h; exact ⟨Nat.le_of_eq List.length_set.symm, by refine Nat.le_of_eq (Eq.symm (z_sz_set _ _ _ _ (by assumption) ?_)); rfl⟩)
    | (cases h; exact ⟨by rw [List.length_append]; exact Nat.le_add_right _ _, by rw [z_sz_app]; exact Nat.le_add_right _ _⟩)
theorem z_mono {S : ZS} : ∀ (n d y pc : Nat) (ls : ZL) (st : List Value) (M : ZM) (r : Option Value) (M' : ZM), z_xm S n d y pc ls st M = some (r, M') → M.length ≤ M'.length ∧ z_sz M ≤ z_sz M' := by
  intro n
  induction n with
  | zero => intro d y pc ls st M r M' h; cases h
  | succ n ih =>
    intro d y pc ls st M r M' h
    unfold z_xm at h
    split at h
    · cases h
    · split at h
      · cases h
      · rename_i h1
        have g1 := z_mono1 h1
        have g2 := ih _ _ _ _ _ _ _ _ h
        exact ⟨Nat.le_trans g1.1 g2.1, Nat.le_trans g1.2 g2.2⟩
      · cases h
        exact ⟨Nat.le_refl _, Nat.le_refl _⟩
      · split at h
        · cases h
        · split at h
          · split at h
            · cases h
            · rename_i h2
              have g1 := ih _ _ _ _ _ _ _ _ h2
              have g2 := ih _ _ _ _ _ _ _ _ h
              exact ⟨Nat.le_trans g1.1 g2.1, Nat.le_trans g1.2 g2.2⟩
          · cases h
theorem z_sl_at {ad : Nat → Nat} : ∀ (as : List Value) (i : Nat) (v : Value), (z_sl as)[i]? = some (some v) → (lg_sl (as.map (z_v ad)))[i]? = some (.val (z_v ad v)) := by
  intro as
  induction as with
  | nil => intro i v h; cases h
  | cons a t ih =>
    intro i v h
    have e : lg_sl ((a :: t).map (z_v ad)) = (if a.category = 2 then [.val (z_v ad a), .second] else [.val (z_v ad a)]) ++ lg_sl (t.map (z_v ad)) := by
      unfold lg_sl
      rw [List.map_cons, List.flatMap_cons, z_v_cat]
    rw [e]
    unfold z_sl at h
    by_cases hc : a.category = 2
    · rw [if_pos hc] at h ⊢
      match i with
      | 0 => cases h; rfl
      | 1 => cases h
      | j + 2 => exact ih j v h
    · rw [if_neg hc] at h ⊢
      match i with
      | 0 => cases h; rfl
      | j + 1 => exact ih j v h
theorem z_sl_len {ad : Nat → Nat} : ∀ (as : List Value), (lg_sl (as.map (z_v ad))).length = (z_sl as).length := by
  intro as
  induction as with
  | nil => rfl
  | cons a t ih =>
    have e : lg_sl ((a :: t).map (z_v ad)) = (if a.category = 2 then [.val (z_v ad a), .second] else [.val (z_v ad a)]) ++ lg_sl (t.map (z_v ad)) := by
      unfold lg_sl
      rw [List.map_cons, List.flatMap_cons, z_v_cat]
    rw [e, List.length_append, ih]
    by_cases hc : a.category = 2
    · rw [if_pos hc]
      conv => rhs; unfold z_sl; rw [if_pos hc]
      simp only [List.length_cons, List.length_nil]
      omega
    · rw [if_neg hc]
      conv => rhs; unfold z_sl; rw [if_neg hc]
      simp only [List.length_cons, List.length_nil]
      omega
theorem z_has_ent {ad : Nat → Nat} {as : List Value} {n : Nat} (h : (z_sl as).length ≤ n) : z_has ad ((lg_sl (as.map (z_v ad)) ++ List.replicate (n - (lg_sl (as.map (z_v ad))).length) Slot.unset).toArray) n (z_ent as n) := by
  have hl := z_sl_len (ad := ad) as
  have h1 := lv_entry (as.map (z_v ad)) (n := n) (by rw [hl]; exact h)
  refine ⟨h1.1, h1.2.1, ?_, fun i v hi => ?_⟩
  · unfold z_ent
    rw [List.length_append, List.length_replicate]
    omega
  · unfold z_ent at hi
    rw [List.getElem?_append] at hi
    split at hi
    · rename_i hlt
      have h2 := z_sl_at (ad := ad) as i v hi
      rw [List.getElem?_toArray, List.getElem?_append_left (by rw [hl]; exact hlt)]
      exact h2
    · rw [List.getElem?_replicate] at hi
      split at hi
      · cases hi
      · cases hi
section ZCA
variable {b : Nat} {sp : Nat → Nat} {cA : Nat → ClassId} {D : va_G} {S : ZS} {p : Program} {l : Launch} {e : Env} {R : Room} {s : State} {m : MethodId} {args : Array Value} {below : List Frame} {meth : Method} {c : Code} {Q : State → Prop} {y m0 z0 : Nat}
variable {pc nx : Nat} {ls : ZL} {st : List Value} {M M1 : ZM}
theorem z_call {H : Heap} {locs : List Loc} {lsC : Array Slot} {st0 rest : List Value} {r : Option Value} {a : Array Value} (hm : M.length ≤ M1.length ∧ z_sz M ≤ z_sz M1) (h0 : m0 ≤ M.length) (hz0 : z0 ≤ z_sz M) (hr : va_Run p l e R s m args below meth c H locs (M.length - m0) (z_sz M - z0) (M1.length - M.length) (z_sz M1 - z_sz M) (F0 m pc lsC st0) rest (z_Qc b sp cA D r M1 a) (z_A b)) (hS : va_S (z_A b) s.heap H locs)
    (kk : ∀ (H1 : Heap) (locs1 : List Loc), z_wd b sp cA D M1 H1 → va_S (z_A b) s.heap H1 locs1 → W p l e R s m args below meth c H1 locs1 (M1.length - m0) (z_sz M1 - z0) Q (F0 m (pc + 3) lsC ((r.map (z_v (z_ad b sp))).toList ++ rest))) : W p l e R s m args below meth c H locs (M.length - m0) (z_sz M - z0) Q (F0 m pc lsC st0) := by
  intro T hT X
  obtain ⟨v, st₀, t, T', L, g0, X', hL, e1, e2, ⟨hv, hw, hz, hk⟩, stp⟩ := hr T hT X
  have hv : v = r.map (z_v (z_ad b sp)) := by cases hv; rfl
  subst hv
  rw [g0] at hz hk
  have hS1 : va_S (z_A b) s.heap T'.heap (locs ++ L) := ⟨Nat.le_trans hS.1 (by rw [e1]; exact hz), fun q h1 h2 => by rw [e1, hk q (Nat.lt_of_lt_of_le h1 hS.1) h2]; exact hS.2.1 q h1 h2, fun q hq => by
    rcases List.mem_append.mp hq with h | h
    · exact hS.2.2 q h
    · exact hL q h⟩
  have hc1 : M.length - m0 + (M1.length - M.length) = M1.length - m0 := by omega
  have hc2 : z_sz M - z0 + (z_sz M1 - z_sz M) = z_sz M1 - z0 := by omega
  rw [hc1, hc2] at X'
  obtain ⟨t2, a1, b1⟩ := kk T'.heap (locs ++ L) (by rw [e1]; exact hw) hS1 T' rfl X'
  exact ⟨t2, stp t2 a1, b1⟩
theorem z_pre {H : Heap} {locs : List Loc} {as : List Value} (C : z_cx b sp cA D S p R s m args meth c y m0) (hW : z_wd b sp cA D M H) (hS : va_S (z_A b) s.heap H locs) (hsz : H.size = b + M.length) : ∀ U : State, U.heap = H → s.WarmedH U.vm → z_Pc b sp cA D S as M (as.map (z_v (z_ad b sp))).toArray U := by
  obtain ⟨hx, hb, hml, hown, hts, hK, hsp, hbs, hini, hck, hfr, hlo⟩ := C
  intro U hU hW1
  exact ⟨rfl, by rw [hU]; exact hsz, by rw [hU]; exact hW, va_K.moved hW1.alike hK, hsp.to (by omega) hS hW1 hU⟩
end ZCA
end
section
/-! the small machine's runs are the machine's -/
set_option maxRecDepth 20000 in
theorem z_roomL {x d L : Nat} (hx : x ≤ 30) (h : 100 * (d + 1) + 300 ≤ L) : 8 + (x + 11) + (100 * d + 300) ≤ L := by omega
section ZMA
variable {b : Nat} {sp : Nat → Nat} {cA : Nat → ClassId} {D : va_G} {S : ZS} {p : Program} {l : Launch} {e : Env} {R : Room} {s : State} {m : MethodId} {args : Array Value} {below : List Frame} {meth : Method} {c : Code} {Q : State → Prop} {y m0 z0 : Nat}
variable {pc nx : Nat} {ls : ZL} {st : List Value} {M M1 : ZM}
theorem z_ret (C : z_cx b sp cA D S p R s m args meth c y m0) (hret : meth.sig.returnType = (z_mt y).2.2.2.1) (hlocks : meth.locks = false) {i : Instr} {r : Option Value} (hc : z_code y pc = some (nx, i)) (h : z_stp S y i nx ls st M = some (.inr (.inl r))) : z_K b sp cA D p l e R s m args below meth c (MQ below (z_Qc b sp cA D r M) args s (M.length - m0) (z_sz M - z0) (z_A b)) y m0 z0 pc ls st M := by
  intro H locs lsC hW hL hS
  obtain ⟨hx, hb, hml, hown, hts, hK, hsp, hbs, hini, hck, hfr, hlo⟩ := C
  have hr := z_rel_of hck hc
  have hq : ∀ (v : Option Value), v = r → ∀ t : State, t.heap = H → s.WarmedH t.vm → z_Qc b sp cA D r M args s (.returned (v.map (z_v (z_ad b sp)))) t := by
    intro v hv t ht _
    subst hv
    exact ⟨rfl, by rw [ht]; exact hW, hS.F ht⟩
  cases i with
  | ireturn =>
    obtain ⟨hd, -⟩ := z_dq_of hr
    simp only [z_stp] at h
    split at h
    · rename_i v
      split at h
      · rename_i hok
        cases h
        unfold z_rok at hok
        split at hok
        · rename_i g _
          exact W.iret hx hb (hret.trans g) (hq (some (.int v)) rfl) hS.2.2 hd hlocks
        · rename_i g1 x g g2
          have hn : narrow .boolean (.int v) = .int v := by
            simp only [Bool.or_eq_true, decide_eq_true_eq] at hok
            rcases hok with hok | hok
            · cases g2; subst hok; rfl
            · cases g2; subst hok; rfl
          exact W.zret hx hb (hret.trans g) hn (hq (some (.int v)) rfl) hS.2.2 hd hlocks
        · rename_i g2; cases g2
        · rename_i g2; cases g2
        · rename_i g2; cases g2
        · cases hok
      · cases h
    · cases h
  | lreturn =>
    obtain ⟨hd, -⟩ := z_dq_of hr
    simp only [z_stp] at h
    split at h
    · rename_i v
      split at h
      · rename_i hok
        cases h
        unfold z_rok at hok
        split at hok
        · rename_i g2; cases g2
        · rename_i g2; cases g2
        · rename_i g _
          exact W.lret hx hb (hret.trans g) (hq (some (.long v)) rfl) hS.2.2 hd hlocks
        · rename_i g2; cases g2
        · rename_i g2; cases g2
        · cases hok
      · cases h
    · cases h
  | areturn =>
    obtain ⟨hd, -⟩ := z_dq_of hr
    simp only [z_stp] at h
    split at h
    · split at h
      · rename_i hok
        cases h
        unfold z_rok at hok
        split at hok
        · rename_i g2; cases g2
        · rename_i g2; cases g2
        · rename_i g2; cases g2
        · rename_i g _
          exact W.aret hx hb (hret.trans g) (Or.inl ⟨_, rfl⟩) (Or.inr ⟨_, rfl⟩) (hq (some (.ref _)) rfl) hS.2.2 hd hlocks
        · rename_i g2; cases g2
        · cases hok
      · cases h
    · split at h
      · rename_i hok
        cases h
        unfold z_rok at hok
        split at hok
        · rename_i g2; cases g2
        · rename_i g2; cases g2
        · rename_i g2; cases g2
        · rename_i g2; cases g2
        · rename_i g _
          exact W.aret hx hb (hret.trans g) (Or.inl ⟨_, rfl⟩) (Or.inl rfl) (hq (some .null) rfl) hS.2.2 hd hlocks
        · cases hok
      · cases h
    · cases h
  | return_ =>
    obtain ⟨hd, -⟩ := z_dq_of hr
    simp only [z_stp] at h
    split at h
    · rename_i g
      cases h
      exact W.vret hx hb (hret.trans g) (hq none rfl) hS.2.2 hd hlocks
    · cases h
  | _ => exact absurd h (by simp only [z_stp]; (repeat' split) <;> (intro g; cases g))
theorem z_callee {i : Instr} {y' nx' : Nat} {as rest : List Value} (hck : z_chk y = true) (hc : z_code y pc = some (nx, i)) (h : z_stp S y i nx ls st M = some (.inr (.inr (y', as, rest, nx')))) : z_mok y' = true := by
  have hr := z_rel_of hck hc
  cases i with
  | invokestatic q =>
    simp only [z_stp] at h
    split at h
    · cases h
      simp only [z_rel] at hr
      split at hr
      · simp only [Bool.and_eq_true, decide_eq_true_eq] at hr
        exact hr.1.1.2
      · cases hr
    · cases h
  | invokevirtual q =>
    simp only [z_stp] at h
    split at h
    · split at h
      · split at h
        · cases h
          simp only [z_rel] at hr
          split at hr
          · simp only [Bool.and_eq_true, decide_eq_true_eq] at hr
            exact hr.1.1.1.1.2
          · cases hr
        · cases h
      · cases h
    · cases h
  | invokespecial q =>
    simp only [z_stp] at h
    split at h
    · split at h
      · cases h
        simp only [z_rel] at hr
        split at hr
        · simp only [Bool.and_eq_true, decide_eq_true_eq] at hr
          exact hr.1.1.2
        · cases hr
      · cases h
    · cases h
  | _ => exact absurd h (by simp only [z_stp]; (repeat' split) <;> (intro g; cases g))
theorem z_cst (C : z_cx b sp cA D S p R s m args meth c y m0) {i : Instr} {d y' nx' : Nat} {as rest : List Value} {r : Option Value} (hc : z_code y pc = some (nx, i)) (h : z_stp S y i nx ls st M = some (.inr (.inr (y', as, rest, nx')))) (hM : z_Met l b sp cA D S d y' as M r M1) (hm : M.length ≤ M1.length ∧ z_sz M ≤ z_sz M1) (h0 : m0 ≤ M.length) (hz0 : z0 ≤ z_sz M) (hrc : M1.length - m0 ≤ R.cells) (hrs : z_sz M1 - z0 ≤ R.slots) (hfd : d + 7 ≤ R.frames) (hld : 100 * (d + 1) + 300 ≤ R.locals)
    (k : z_K b sp cA D p l e R s m args below meth c Q y m0 z0 nx' ls (r.toList ++ rest) M1) : z_K b sp cA D p l e R s m args below meth c Q y m0 z0 pc ls st M := by
  intro H locs lsC hW hL hS
  have hmk := z_callee (C.2.2.2.2.2.2.2.2.2.1) hc h
  obtain ⟨w168, wini, wnm, wpl, wmx⟩ := z_mok_of hmk
  have C2 := C
  obtain ⟨hx, hb, hml, hown, hts, hK, hsp, hbs, hini, hck, hfr, hlo⟩ := C
  have hr := z_rel_of hck hc
  refine z_up h0 hbs hW hS rfl (fun hsz => ?_)
  have hRm : (z_rm d (M1.length - M.length) (z_sz M1 - z_sz M)).frames + 1 ≤ R.frames ∧ 8 + ((z_mt y').2.2.1 + 11) + (z_rm d (M1.length - M.length) (z_sz M1 - z_sz M)).locals ≤ R.locals := ⟨by show d + 6 + 1 ≤ _; omega, z_roomL wmx hld⟩
  have hroom : M.length - m0 + (M1.length - M.length) ≤ R.cells ∧ z_sz M - z0 + (z_sz M1 - z_sz M) ≤ R.slots := ⟨by omega, by omega⟩
  have hgo : ∀ (H1 : Heap) (locs1 : List Loc), nx' = pc + 3 → z_wd b sp cA D M1 H1 → va_S (z_A b) s.heap H1 locs1 → W p l e R s m args below meth c H1 locs1 (M1.length - m0) (z_sz M1 - z0) Q (F0 m (pc + 3) lsC ((r.map (z_v (z_ad b sp))).toList ++ rest.map (z_v (z_ad b sp)))) := by
    intro H1 locs1 hnx hW1 hS1
    have := k H1 locs1 lsC hW1 hL hS1
    rw [List.map_append, hnx] at this
    have e1 : (r.toList).map (z_v (z_ad b sp)) = (r.map (z_v (z_ad b sp))).toList := by cases r <;> rfl
    rw [e1] at this
    exact this
  cases i with
  | invokestatic q =>
    simp only [z_stp] at h
    split at h
    · rename_i hif
      cases h
      simp only [z_rel] at hr
      split at hr
      · rename_i q2 hq
        simp only [Bool.and_eq_true, decide_eq_true_eq] at hr
        obtain ⟨⟨⟨hnx, -⟩, w1⟩, w2⟩ := hr
        refine z_call hm h0 hz0 (va_runS (As := ((st.take (z_mt y').2.2.2.2.1).reverse).map (z_v (z_ad b sp))) (rest := (st.drop (z_mt y').2.2.2.2.1).map (z_v (z_ad b sp))) ⟨hx, hb, hml, hown, hts⟩ hM ⟨callB_of (z_mt y').2.2.2.2.1 hts (z_good (z_wsy_in w168)) rfl rfl rfl (hts _ wini) (hts _ (z_w_of w1)) wnm hRm, hts _ (z_w_of w2)⟩ ⟨z_blind, z_pre C2 hW hS hsz⟩ rfl ?_ hL.1 ?_ (lv_room (z_cat_of hif.2.2)) hq hroom) hS (fun H1 locs1 => hgo H1 locs1 hnx)
        · rw [List.length_map, List.length_reverse, List.length_take]
          exact Nat.min_eq_left hif.1
        · show st.map _ = _
          rw [← List.map_reverse, List.reverse_reverse, ← List.map_append, List.take_append_drop]
      · cases hr
    · cases h
  | invokevirtual q =>
    simp only [z_stp] at h
    split at h
    · rename_i a r2 hdr
      split at h
      · rename_i ci fs hMa
        split at h
        · rename_i hif
          cases h
          simp only [z_rel] at hr
          split at hr
          · rename_i q2 hq
            simp only [Bool.and_eq_true, decide_eq_true_eq] at hr
            obtain ⟨⟨⟨⟨⟨hnx, -⟩, w1⟩, w2⟩, w3⟩, w4⟩ := hr
            have ha : z_ad b sp a = b + a := z_ad_lo (z_lt9 hMa hW.1)
            have hn : (z_mt y').2.2.2.2.1 < st.length := by
              have := congrArg List.length hdr
              rw [List.length_drop, List.length_cons] at this
              omega
            have hst : st = st.take (z_mt y').2.2.2.2.1 ++ .ref a :: rest := by rw [← hdr, List.take_append_drop]
            refine z_call hm h0 hz0 (va_runV (b := z_ad b sp a) (C := (z_mt y').1.cls) (As := ((st.take (z_mt y').2.2.2.2.1).reverse).map (z_v (z_ad b sp))) (rest := rest.map (z_v (z_ad b sp))) ⟨hx, hb, hml, hown, hts⟩ hM ⟨callB_of (z_mt y').2.2.2.2.1 hts (z_good (z_wsy_in w168)) rfl rfl rfl (hts _ wini) (hts _ (z_w_of w1)) wnm hRm, hts _ (z_w_of w2), hts _ (z_w_of w3)⟩ ⟨z_blind, ?_, z_pre (as := .ref a :: (st.take (z_mt y').2.2.2.2.1).reverse) C2 hW hS hsz⟩ rfl ?_ hL.1 ?_ (lv_room (z_cat_of hif.2.2)) hq hroom) hS (fun H1 locs1 => hgo H1 locs1 hnx)
            · rw [ha, ← w4, ← hif.1]
              exact va_recv hK hW.2 (z_cl hif.2.1) (z_ws_at hMa)
            · rw [List.length_map, List.length_reverse, List.length_take]
              exact Nat.min_eq_left (Nat.le_of_lt hn)
            · show st.map _ = _
              rw [← List.map_reverse, List.reverse_reverse]
              conv => lhs; rw [hst]
              rw [List.map_append]
              rfl
          · cases hr
        · cases h
      · cases h
    · cases h
  | invokespecial q =>
    simp only [z_stp] at h
    split at h
    · rename_i a r2 hdr
      split at h
      · rename_i hif
        cases h
        simp only [z_rel] at hr
        split at hr
        · rename_i q2 hq
          simp only [Bool.and_eq_true, decide_eq_true_eq] at hr
          obtain ⟨⟨⟨hnx, -⟩, w1⟩, w2⟩ := hr
          have hn : (z_mt y').2.2.2.2.1 < st.length := by
            have := congrArg List.length hdr
            rw [List.length_drop, List.length_cons] at this
            omega
          have hst : st = st.take (z_mt y').2.2.2.2.1 ++ .ref a :: rest := by rw [← hdr, List.take_append_drop]
          have hwy : z_wsy y' = Cond.code (z_mt y').1 (z_mt y').2.1 (z_mt y').2.2.1 none :: z_gw := by
            unfold z_wsy
            rw [hif.2.2]
          refine z_call hm h0 hz0 (va_runI (b := z_ad b sp a) (As := ((st.take (z_mt y').2.2.2.2.1).reverse).map (z_v (z_ad b sp))) (rest := rest.map (z_v (z_ad b sp))) ⟨hx, hb, hml, hown, hts⟩ hM ⟨callB_of (z_mt y').2.2.2.2.1 hts (z_good (z_wsy_in w168)) hwy rfl rfl (hts _ wini) (hts _ (z_w_of w1)) wnm hRm, hif.2.1, hts _ (z_w_of w2)⟩ ⟨z_blind, z_pre (as := .ref a :: (st.take (z_mt y').2.2.2.2.1).reverse) C2 hW hS hsz⟩ rfl ?_ hL.1 ?_ (lv_room (z_cat_of hif.1)) hq hroom) hS (fun H1 locs1 => hgo H1 locs1 hnx)
          · rw [List.length_map, List.length_reverse, List.length_take]
            exact Nat.min_eq_left (Nat.le_of_lt hn)
          · show st.map _ = _
            rw [← List.map_reverse, List.reverse_reverse]
            conv => lhs; rw [hst]
            rw [List.map_append]
            rfl
        · cases hr
      · cases h
    · cases h
  | _ => exact absurd h (by simp only [z_stp]; (repeat' split) <;> (intro g; cases g))
end ZMA
end
section
/-- what the small machine runs to, the machine runs to: of methods (a contract), and of what is left of a method (from a place in it) -/
def z_PA (S : ZS) (n : Nat) : Prop := ∀ (l : Launch) (b : Nat) (sp : Nat → Nat) (cA : Nat → ClassId) (D : va_G) (d y : Nat) (as : List Value) (M : ZM) (r : Option Value) (M' : ZM), z_mok y = true → (z_sl as).length ≤ (z_mt y).2.2.1 → z_xm S n d y 0 (z_ent as (z_mt y).2.2.1) [] M = some (r, M') → z_Met l b sp cA D S d y as M r M'
def z_PB (S : ZS) (n : Nat) : Prop := ∀ (b : Nat) (sp : Nat → Nat) (cA : Nat → ClassId) (D : va_G) (p : Program) (l : Launch) (e : Env) (R : Room) (s : State) (m : MethodId) (args : Array Value) (below : List Frame) (meth : Method) (c : Code) (Q : State → Prop) (y m0 z0 d pc : Nat) (ls : ZL) (st : List Value) (M : ZM) (r : Option Value) (M' : ZM), z_xm S n d y pc ls st M = some (r, M') → z_cx b sp cA D S p R s m args meth c y m0 → d + 6 ≤ R.frames → 100 * d + 300 ≤ R.locals → m0 ≤ M.length → z0 ≤ z_sz M → M'.length - m0 ≤ R.cells → z_sz M' - z0 ≤ R.slots →
  (∀ (pc' nx' : Nat) (i' : Instr) (ls' : ZL) (st' : List Value), z_code y pc' = some (nx', i') → z_stp S y i' nx' ls' st' M' = some (.inr (.inl r)) → z_K b sp cA D p l e R s m args below meth c Q y m0 z0 pc' ls' st' M') → z_K b sp cA D p l e R s m args below meth c Q y m0 z0 pc ls st M
set_option maxRecDepth 20000 in
theorem z_BA {S : ZS} {n : Nat} (hck : ∀ y, y < 168 → z_chk y = true) (hB : z_PB S n) : z_PA S n := by
  intro l b sp cA D d y as M r M' hmk hls h
  obtain ⟨w168, wini, wnm, wpl, wmx⟩ := z_mok_of hmk
  unfold z_Met
  refine Met.ofW (cc := (z_mt y).2.1) (maxL := (z_mt y).2.2.1) (ret := (z_mt y).2.2.2.1) wpl rfl ?_
  intro p e s m args below meth c s₁ B hml hv
  obtain ⟨rfl, hsz, hw, hK, hsp⟩ := hv
  have hts := atoms_spec (ws := z_wsy y) B.pre
  have hown : s.vm.findClass (z_mt y).1.cls = some m.cls := findClass_of_methodNamed B.named
  have hlocks := B.notSynchronized
  have C : z_cx b sp cA D S p (headSpec (z_wsy y) (z_rm d (M'.length - M.length) (z_sz M' - z_sz M))).room s m (as.map (z_v (z_ad b sp))).toArray meth c y M.length := ⟨B.exec, B.bytes, hml, hown, fun w hw => hts w (List.mem_cons_of_mem _ hw), hK, hsp, hsz, fun h => (name_of_methodNamed B.named B.method).1.trans h, hck y w168, by show 6 ≤ d + 6; omega, by show 300 ≤ 100 * d + 300; omega⟩
  have h1 := hB b sp cA D p l e (headSpec (z_wsy y) (z_rm d (M'.length - M.length) (z_sz M' - z_sz M))).room s m (as.map (z_v (z_ad b sp))).toArray below meth c (MQ below (z_Qc b sp cA D r M') (as.map (z_v (z_ad b sp))).toArray s (M'.length - M.length) (z_sz M' - z_sz M) (z_A b)) y M.length (z_sz M) d 0 _ _ _ _ _ h C (Nat.le_refl _) (Nat.le_refl _) (Nat.le_refl _) (Nat.le_refl _) (Nat.le_refl _) (Nat.le_refl _) (fun pc' nx' i' ls' st' g1 g2 => z_ret C B.returns hlocks g1 g2)
  rw [lg_entry_eq]
  have h2 := h1 s.heap [] _ hw (z_has_ent hls) va_S.rf
  rw [Nat.sub_self, Nat.sub_self] at h2
  exact h2
set_option maxRecDepth 20000 in
theorem z_AB {S : ZS} {n : Nat} (hL : z_STL) (hCh : z_STC) (hA : z_PA S n) (hB : z_PB S n) : z_PB S (n + 1) := by
  intro b sp cA D p l e R s m args below meth c Q y m0 z0 d pc ls st M r M' h C hfd hld h0 hz0 hrc hrs hend
  unfold z_xm at h
  split at h
  · cases h
  · rename_i nx i hc
    split at h
    · cases h
    · rename_i pc' ls' st' M1 hst
      have g1 := z_mono1 hst
      have g2 := z_mono _ _ _ _ _ _ _ _ _ h
      exact z_step hL hCh C hc hst h0 hz0 (by omega) (by omega) (hB b sp cA D p l e R s m args below meth c Q y m0 z0 d pc' ls' st' M1 r M' h C hfd hld (by omega) (by omega) hrc hrs hend)
    · rename_i r1 hst
      cases h
      exact hend _ _ _ _ _ hc hst
    · rename_i y' as rest nx' hst
      split at h
      · cases h
      · rename_i d'
        split at h
        · rename_i hls
          split at h
          · cases h
          · rename_i r1 M1 h2
            have g1 := z_mono _ _ _ _ _ _ _ _ _ h2
            have g2 := z_mono _ _ _ _ _ _ _ _ _ h
            have hmk := z_callee (C.2.2.2.2.2.2.2.2.2.1) hc hst
            exact z_cst C hc hst (hA l b sp cA D d' y' as M r1 M1 hmk hls h2) g1 h0 hz0 (by omega) (by omega) (by omega) (by omega) (hB b sp cA D p l e R s m args below meth c Q y m0 z0 (d' + 1) nx' ls (r1.toList ++ rest) M1 r M' h C hfd hld (by omega) (by omega) hrc hrs hend)
        · cases h
theorem z_sound (hL : z_STL) (hCh : z_STC) (hck : ∀ y, y < 168 → z_chk y = true) (S : ZS) : ∀ n, z_PB S n := by
  intro n
  induction n with
  | zero => intro b sp cA D p l e R s m args below meth c Q y m0 z0 d pc ls st M r M' h; cases h
  | succ n ih => exact z_AB hL hCh (z_BA hck ih) ih
end
section
/-! String.length and String.charAt of the three words -/
def z_PJ (b : Nat) (sp : Nat → Nat) (S : ZS) (as : List Value) : Array Value → State → Prop := fun v U => v = as.toArray ∧ b ≤ U.heap.size ∧ z_sp b sp S U U.heap
def z_QJ (r : Option Value) : Array Value → State → Outcome → State → Prop := fun _ st o t => o = .returned r ∧ t.heap = st.heap
def z_rj (k : Nat) : Room := { frames := k, cells := 0, slots := 0, locals := 30 * k }
theorem z_blindJ {b : Nat} {sp : Nat → Nat} {S : ZS} {as : List Value} : FrameBlind (z_PJ b sp S as) := by
  intro a U g mk h
  obtain ⟨h1, h0, h5⟩ := h
  obtain ⟨g1, g2, ⟨adV, g3⟩, g4, g5, g6, g7, g8⟩ := h5
  have hv : U.vm.Alike (U.calling g mk a).vm := Vm.Alike.refl U.vm
  exact ⟨h1, h0, g1, va_X.moved (u := U) (U := U.calling g mk a) hv g2, ⟨adV, vk_S.moved (u := U) (U := U.calling g mk a) hv g3⟩, fun q hq => by
    obtain ⟨tx, gg⟩ := g4 q hq
    exact ⟨tx, vk_R.same (u := U) (U := U.calling g mk a) rfl gg⟩, va_AO.moved (u := U) (U := U.calling g mk a) hv g5, va_AO.moved (u := U) (U := U.calling g mk a) hv g6, va_Z.moved (u := U) (U := U.calling g mk a) hv g7, va_Zq.moved (u := U) (U := U.calling g mk a) hv g8⟩
theorem z_preJ {b : Nat} {sp : Nat → Nat} {S : ZS} {s : State} {H : Heap} {locs : List Loc} {as : List Value} (h : z_sp b sp S s s.heap) (hb : b ≤ s.heap.size) (hS : va_S (z_A b) s.heap H locs) : ∀ U : State, U.heap = H → s.WarmedH U.vm → z_PJ b sp S as as.toArray U := fun U hU hW => ⟨rfl, by rw [hU]; exact Nat.le_trans hb hS.1, h.to hb hS hW hU⟩
theorem z_callJ {p : Program} {l : Launch} {e : Env} {R : Room} {s : State} {m : MethodId} {args : Array Value} {below : List Frame} {meth : Method} {c : Code} {Q : State → Prop} {H : Heap} {locs : List Loc} {cells slots pc : Nat} {ls : Array Slot} {st0 rest : List Value} {r : Option Value} {a : Array Value} (hr : va_Run p l e R s m args below meth c H locs cells slots 0 0 (F0 m pc ls st0) rest (z_QJ r a) (fun _ => False)) (kk : W p l e R s m args below meth c H locs cells slots Q (F0 m (pc + 3) ls (r.toList ++ rest))) : W p l e R s m args below meth c H locs cells slots Q (F0 m pc ls st0) := by
  intro T hT X
  obtain ⟨v, st₀, t, T', L, g0, X', hL, e1, e2, ⟨hv, hh⟩, stp⟩ := hr T hT X
  have hv : v = r := by cases hv; rfl
  subst hv
  obtain ⟨t2, a1, b1⟩ := kk T' (by rw [e1, hh, g0]) (Stand.forget X' (fun q h => (hL q h).elim))
  exact ⟨t2, stp t2 a1, b1⟩
def z_wj (y : MethodName) (c : ByteArray) (n : Nat) (r : Option FieldType) : List Cond := Cond.code y c n r :: z_gw
theorem z_wj_in {y : MethodName} {c : ByteArray} {n : Nat} {r : Option FieldType} (h : Cond.code y c n r ∈ lw_tbl) : ∀ w ∈ z_wj y c n r, w ∈ z_gw := by
  intro w hw
  rcases List.mem_cons.mp hw with rfl | hw
  · exact List.mem_filter.mpr ⟨h, rfl⟩
  · exact hw
section ZJ
variable {b : Nat} {sp : Nat → Nat} {S : ZS}
theorem z_wd1 (w : Cond) (h : z_w w = true) : w ∈ z_gw := z_w_of h
set_option maxRecDepth 20000 in
/-- String.coder(): 0 -/
theorem z_j_coder (l : Launch) {i : Nat} (hi : i < 3) : Met l yJ0_coder_7d493 (z_wj yJ0_coder_7d493 cJ0_coder_7d493 1 (some .byte)) (z_rj 0) (z_PJ b sp S [.ref (sp (i + 1))]) (z_QJ (some (.int 0))) 0 0 (fun _ => False) := by
  refine Met.ofW (cc := cJ0_coder_7d493) (maxL := 1) (ret := (some .byte)) (by decide) rfl ?_
  intro p e s m args below meth c s₁ B hml hv
  obtain ⟨rfl, hbs, hsp⟩ := hv
  have hx := B.exec
  have hb := B.bytes
  have hr := B.returns
  have hts : ∀ w ∈ z_gw, w.before [Value.ref (sp (i + 1))].toArray s = true := fun w hw => atoms_spec (ws := z_wj yJ0_coder_7d493 cJ0_coder_7d493 1 (some .byte)) B.pre w (List.mem_cons_of_mem _ hw)
  have hown : s.vm.findClass RJ0 = some m.cls := findClass_of_methodNamed B.named
  have hlocks := B.notSynchronized
  have hS : va_S (z_A b) s.heap s.heap [] := va_S.rf
  obtain ⟨g1, g2, ⟨adV, g3⟩, g4, g5, g6, g7, g8⟩ := hsp
  obtain ⟨k1, k2, k3, k4⟩ := g3.1 i hi
  have hl := lv_entry ([.ref (sp (i + 1))]) (n := 1) (Nat.le_of_ble_eq_true rfl)
  rw [lg_entry_eq]
  generalize (lg_sl ([.ref (sp (i + 1))]) ++ List.replicate (1 - (lg_sl ([.ref (sp (i + 1))])).length) Slot.unset).toArray = ls at hl ⊢
  have hl : lv_has ls 1 [(0, .ref (sp (i + 1)))] := hl
  refine va_gets hx hb g7 hS hown (hts (.fieldLink RJ0 38 "java/lang/String" "COMPACT_STRINGS" "Z") (z_w_of (by decide +kernel))) (fun _ h => h) (by decide +kernel) ?_
  refine lv_if_eq hx hb (off := 10) (tgt := 13) (by decide +kernel) (by decide) (fun h => absurd h (by decide)) (fun _ => ?_)
  refine lv_aload_n hx hb (k := 0) (by decide +kernel) rfl (lv_at hl 0 rfl) ?_
  refine vk_getf hx hb k2 hS hown (hts (.fieldLink RJ0 15 "java/lang/String" "coder" "B") (z_w_of (by decide +kernel))) (fun _ h => h) (by decide +kernel) ?_
  refine lv_goto hx hb (off := 4) (tgt := 14) (by decide +kernel) (by decide) ?_
  exact W.zret hx hb hr rfl (fun t ht _ => ⟨rfl, ht⟩) (fun q h => by cases h) (by decide +kernel) hlocks
set_option maxRecDepth 20000 in
/-- String.isLatin1(): 1 -/
theorem z_j_lat (l : Launch) {i : Nat} (hi : i < 3) : Met l yJ0_isLatin1_aae02 (z_wj yJ0_isLatin1_aae02 cJ0_isLatin1_aae02 1 (some .boolean)) (z_rj 0) (z_PJ b sp S [.ref (sp (i + 1))]) (z_QJ (some (.int 1))) 0 0 (fun _ => False) := by
  refine Met.ofW (cc := cJ0_isLatin1_aae02) (maxL := 1) (ret := (some .boolean)) (by decide) rfl ?_
  intro p e s m args below meth c s₁ B hml hv
  obtain ⟨rfl, hbs, hsp⟩ := hv
  have hx := B.exec
  have hb := B.bytes
  have hr := B.returns
  have hts : ∀ w ∈ z_gw, w.before [Value.ref (sp (i + 1))].toArray s = true := fun w hw => atoms_spec (ws := z_wj yJ0_isLatin1_aae02 cJ0_isLatin1_aae02 1 (some .boolean)) B.pre w (List.mem_cons_of_mem _ hw)
  have hown : s.vm.findClass RJ0 = some m.cls := findClass_of_methodNamed B.named
  have hlocks := B.notSynchronized
  have hS : va_S (z_A b) s.heap s.heap [] := va_S.rf
  obtain ⟨g1, g2, ⟨adV, g3⟩, g4, g5, g6, g7, g8⟩ := hsp
  obtain ⟨k1, k2, k3, k4⟩ := g3.1 i hi
  have hl := lv_entry ([.ref (sp (i + 1))]) (n := 1) (Nat.le_of_ble_eq_true rfl)
  rw [lg_entry_eq]
  generalize (lg_sl ([.ref (sp (i + 1))]) ++ List.replicate (1 - (lg_sl ([.ref (sp (i + 1))])).length) Slot.unset).toArray = ls at hl ⊢
  have hl : lv_has ls 1 [(0, .ref (sp (i + 1)))] := hl
  refine va_gets hx hb g7 hS hown (hts (.fieldLink RJ0 38 "java/lang/String" "COMPACT_STRINGS" "Z") (z_w_of (by decide +kernel))) (fun _ h => h) (by decide +kernel) ?_
  refine lv_if_eq hx hb (off := 14) (tgt := 17) (by decide +kernel) (by decide) (fun h => absurd h (by decide)) (fun _ => ?_)
  refine lv_aload_n hx hb (k := 0) (by decide +kernel) rfl (lv_at hl 0 rfl) ?_
  refine vk_getf hx hb k2 hS hown (hts (.fieldLink RJ0 15 "java/lang/String" "coder" "B") (z_w_of (by decide +kernel))) (fun _ h => h) (by decide +kernel) ?_
  refine lv_if_ne hx hb (off := 7) (tgt := 17) (by decide +kernel) (by decide) (fun h => absurd rfl h) (fun _ => ?_)
  refine lv_iconst (n := 1) (v := 1) hx hb (by decide +kernel) (by decide) ?_
  refine lv_goto hx hb (off := 4) (tgt := 18) (by decide +kernel) (by decide) ?_
  exact W.zret hx hb hr rfl (fun t ht _ => ⟨rfl, ht⟩) (fun q h => by cases h) (by decide +kernel) hlocks
set_option maxRecDepth 20000 in
/-- Preconditions.checkIndex: an index that is in -/
theorem z_j_pre (l : Launch) (x n : Int32) (v : Value) (hv1 : v.category = 1) (h0 : ¬ x < 0) (hn : x < n) : Met l yJ3_checkIndex_8e157 (z_wj yJ3_checkIndex_8e157 cJ3_checkIndex_8e157 3 (some .int)) (z_rj 0) (z_PJ b sp S [.int x, .int n, v]) (z_QJ (some (.int x))) 0 0 (fun _ => False) := by
  refine Met.ofW (cc := cJ3_checkIndex_8e157) (maxL := 3) (ret := (some .int)) (by decide) rfl ?_
  intro p e s m args below meth c s₁ B hml hv
  obtain ⟨rfl, hbs, hsp⟩ := hv
  have hx := B.exec
  have hb := B.bytes
  have hr := B.returns
  have hlocks := B.notSynchronized
  have hsl : lg_sl [.int x, .int n, v] = [.val (.int x), .val (.int n), .val v] := by
    cases v <;> first
      | rfl
      | (simp [Value.category] at hv1)
  have hl := lv_entry ([.int x, .int n, v]) (n := 3) (by rw [hsl]; exact Nat.le_refl 3)
  rw [lg_entry_eq]
  generalize (lg_sl ([.int x, .int n, v]) ++ List.replicate (3 - (lg_sl ([.int x, .int n, v])).length) Slot.unset).toArray = ls at hl ⊢
  have e0 : ls[0]? = some (.val (.int x)) := hl.2.2 (0, .int x) (by simp [lv_args])
  have e1 : ls[1]? = some (.val (.int n)) := hl.2.2 (1, .int n) (by simp [lv_args, Value.category])
  refine lv_iload_n hx hb (k := 0) (by decide +kernel) rfl e0 ?_
  refine lv_if_lt hx hb (off := 8) (tgt := 9) (by decide +kernel) (by decide) (fun h => absurd h h0) (fun _ => ?_)
  refine lv_iload_n hx hb (k := 0) (by decide +kernel) rfl e0 ?_
  refine lv_iload_n hx hb (k := 1) (by decide +kernel) rfl e1 ?_
  refine lv_icmp_lt hx hb (off := 10) (tgt := 16) (by decide +kernel) (by decide) (fun _ => ?_) (fun h => absurd hn h)
  refine lv_iload_n hx hb (k := 0) (by decide +kernel) rfl e0 ?_
  exact W.iret hx hb hr (fun t ht _ => ⟨rfl, ht⟩) (fun q h => by cases h) (by decide +kernel) hlocks
set_option maxRecDepth 20000 in
/-- String.checkIndex -/
theorem z_j_chk (l : Launch) (x n : Int32) (h0 : ¬ x < 0) (hn : x < n) : Met l yJ0_checkIndex_df160 (z_wj yJ0_checkIndex_df160 cJ0_checkIndex_df160 2 none) (z_rj 1) (z_PJ b sp S [.int x, .int n]) (z_QJ none) 0 0 (fun _ => False) := by
  refine Met.ofW (cc := cJ0_checkIndex_df160) (maxL := 2) (ret := none) (by decide) rfl ?_
  intro p e s m args below meth c s₁ B hml hv
  obtain ⟨rfl, hbs, hsp⟩ := hv
  have hx := B.exec
  have hb := B.bytes
  have hr := B.returns
  have hts : ∀ w ∈ z_gw, w.before [Value.int x, .int n].toArray s = true := fun w hw => atoms_spec (ws := z_wj yJ0_checkIndex_df160 cJ0_checkIndex_df160 2 none) B.pre w (List.mem_cons_of_mem _ hw)
  have hown : s.vm.findClass RJ0 = some m.cls := findClass_of_methodNamed B.named
  have hlocks := B.notSynchronized
  have hS : va_S (z_A b) s.heap s.heap [] := va_S.rf
  have hsp2 := hsp
  obtain ⟨g1, g2, ⟨adV, g3⟩, g4, g5, g6, g7, g8⟩ := hsp
  have hl := lv_entry ([.int x, .int n]) (n := 2) (Nat.le_of_ble_eq_true rfl)
  rw [lg_entry_eq]
  generalize (lg_sl ([.int x, .int n]) ++ List.replicate (2 - (lg_sl ([.int x, .int n])).length) Slot.unset).toArray = ls at hl ⊢
  have hl : lv_has ls 2 [(0, .int x), (1, .int n)] := hl
  refine lv_iload_n hx hb (k := 0) (by decide +kernel) rfl (lv_at hl 0 rfl) ?_
  refine lv_iload_n hx hb (k := 1) (by decide +kernel) rfl (lv_at hl 1 rfl) ?_
  have hgo : ∀ v : Value, v.category = 1 → W p l e (headSpec (z_wj yJ0_checkIndex_df160 cJ0_checkIndex_df160 2 none) (z_rj 1)).room s m [Value.int x, .int n].toArray below meth c s.heap [] 0 0 (MQ below (z_QJ none) [Value.int x, .int n].toArray s 0 0 (fun _ => False)) (F0 m 5 ls [v, .int n, .int x]) := by
    intro v hv1
    refine z_callJ (va_runS (As := [.int x, .int n, v]) (rest := []) ⟨hx, hb, hml, hown, hts⟩ (z_j_pre (b := b) (sp := sp) (S := S) l x n v hv1 h0 hn) ⟨callB_of 3 hts (z_good (z_wj_in z_cw_J3_checkIndex_8e157)) rfl rfl rfl (hts (.initialized "jdk/internal/util/Preconditions") (z_w_of (by decide +kernel))) (hts (.methodLink RJ0 1059 yJ3_checkIndex_8e157) (z_w_of (by decide +kernel))) (by decide +kernel) ⟨by decide, by decide⟩, hts (.static yJ3_checkIndex_8e157) (z_w_of (by decide +kernel))⟩ ⟨z_blindJ, z_preJ hsp2 hbs hS⟩ rfl rfl hl.1 rfl (lv_room (Nat.le_of_ble_eq_true rfl)) (show decode cJ0_checkIndex_df160 5 = .ok (.invokestatic 1059, 3) by decide +kernel) ⟨Nat.le_refl _, Nat.le_refl _⟩) ?_
    refine lv_pop hx hb (by decide +kernel) rfl ?_
    exact W.vret hx hb hr (fun t ht _ => ⟨rfl, ht⟩) (fun q h => by cases h) (by decide +kernel) hlocks
  rcases g8 with hz | ⟨t, hz⟩
  · refine va_gets hx hb hz hS hown (hts (.fieldLink RJ0 1053 "jdk/internal/util/Preconditions" "SIOOBE_FORMATTER" "Ljava/util/function/BiFunction;") (z_w_of (by decide +kernel))) (fun _ h => h) (by decide +kernel) ?_
    exact hgo .null rfl
  · refine va_gets hx hb hz hS hown (hts (.fieldLink RJ0 1053 "jdk/internal/util/Preconditions" "SIOOBE_FORMATTER" "Ljava/util/function/BiFunction;") (z_w_of (by decide +kernel))) (fun _ h => h) (by decide +kernel) ?_
    exact hgo (.ref t) rfl
theorem z_chr {i : Nat} (hi : i < 3) {x : Int32} (hx : z_in x (z_wlen i) = true) : ((((z_byts.getD i []).getD x.toNatClampNeg 0) &&& (Int16.ofInt 255).toInt32).toUInt32 % 65536).toInt32 = (z_wch i).getD x.toNatClampNeg 0 := by
  have hlt : x.toNatClampNeg < z_wlen i := by
    unfold z_in at hx
    simp only [Bool.not_eq_true', Bool.or_eq_false_iff, decide_eq_false_iff_not, Nat.not_le] at hx
    exact hx.2
  have hall : ∀ i, i < 3 → ∀ j, j < z_wlen i → ((((z_byts.getD i []).getD j 0) &&& (Int16.ofInt 255).toInt32).toUInt32 % 65536).toInt32 = (z_wch i).getD j 0 := by decide +kernel
  exact hall i hi _ hlt
theorem z_chn {i : Nat} (hi : i < 3) {x : Int32} (hx : z_in x (z_wlen i) = true) : narrow .char (.int ((z_wch i).getD x.toNatClampNeg 0)) = .int ((z_wch i).getD x.toNatClampNeg 0) := by
  have hlt : x.toNatClampNeg < z_wlen i := by
    unfold z_in at hx
    simp only [Bool.not_eq_true', Bool.or_eq_false_iff, decide_eq_false_iff_not, Nat.not_le] at hx
    exact hx.2
  have hall : ∀ i, i < 3 → ∀ j, j < z_wlen i → narrow .char (.int ((z_wch i).getD j 0)) = .int ((z_wch i).getD j 0) := by decide +kernel
  exact hall i hi _ hlt
theorem z_cln {i : Nat} (hi : i < 3) : ([4, 5, 5] : List Nat).getD i 0 = z_wlen i := by
  have hall : ∀ i, i < 3 → ([4, 5, 5] : List Nat).getD i 0 = z_wlen i := by decide
  exact hall i hi
theorem z_cli {i : Nat} (hi : i < 3) {x : Int32} (hx : z_in x (z_wlen i) = true) : ¬ x < 0 ∧ x < Int32.ofNat (([4, 5, 5] : List Nat).getD i 0) := by
  rw [z_cln hi]
  obtain ⟨j, hj, rfl⟩ := vp_in_of (z_in_of hx) (by unfold z_wlen; split <;> decide)
  have h5 : z_wlen i ≤ 5 := by unfold z_wlen; split <;> decide
  exact ⟨nI_pos (by omega), nI_lt hj (by omega)⟩
set_option maxRecDepth 20000 in
/-- StringLatin1.charAt -/
theorem z_j_lch (l : Launch) {i q : Nat} (hi : i < 3) {x : Int32} (hxi : z_in x (z_wlen i) = true) (hq : ∀ U : State, z_sp b sp S U U.heap → va_OF "java/lang/String" "value" "[B" (.ref q) (sp (i + 1)) (z_A b) U U.heap → True) : Met l yJ1_charAt_3b067 (z_wj yJ1_charAt_3b067 cJ1_charAt_3b067 2 (some .char)) (z_rj 2) (fun v U => z_PJ b sp S [.ref q, .int x] v U ∧ va_T .byte q (([4, 5, 5] : List Nat).getD i 0) (fun j => .int ((z_byts.getD i []).getD j 0)) (z_A b) U U.heap) (z_QJ (some (.int ((z_wch i).getD x.toNatClampNeg 0)))) 0 0 (fun _ => False) := by
  refine Met.ofW (cc := cJ1_charAt_3b067) (maxL := 2) (ret := (some .char)) (by decide) rfl ?_
  intro p e s m args below meth c s₁ B hml hv
  obtain ⟨⟨rfl, hbs, hsp⟩, k4⟩ := hv
  have hx := B.exec
  have hb := B.bytes
  have hr := B.returns
  have hts : ∀ w ∈ z_gw, w.before [Value.ref q, .int x].toArray s = true := fun w hw => atoms_spec (ws := z_wj yJ1_charAt_3b067 cJ1_charAt_3b067 2 (some .char)) B.pre w (List.mem_cons_of_mem _ hw)
  have hown : s.vm.findClass RJ1 = some m.cls := findClass_of_methodNamed B.named
  have hlocks := B.notSynchronized
  have hS : va_S (z_A b) s.heap s.heap [] := va_S.rf
  have hsp2 := hsp
  obtain ⟨g1, g2, ⟨adV, g3⟩, g4, g5, g6, g7, g8⟩ := hsp
  have hl := lv_entry ([.ref q, .int x]) (n := 2) (Nat.le_of_ble_eq_true rfl)
  rw [lg_entry_eq]
  generalize (lg_sl ([.ref q, .int x]) ++ List.replicate (2 - (lg_sl ([.ref q, .int x])).length) Slot.unset).toArray = ls at hl ⊢
  have hl : lv_has ls 2 [(0, .ref q), (1, .int x)] := hl
  obtain ⟨hc1, hc2⟩ := z_cli hi hxi
  refine lv_iload_n hx hb (k := 1) (by decide +kernel) rfl (lv_at hl 1 rfl) ?_
  refine lv_aload_n hx hb (k := 0) (by decide +kernel) rfl (lv_at hl 0 rfl) ?_
  refine va_tlen hx hb k4 hS rfl (by decide +kernel) ?_
  refine z_callJ (va_runS (As := [.int x, .int (Int32.ofNat (([4, 5, 5] : List Nat).getD i 0))]) (rest := []) ⟨hx, hb, hml, hown, hts⟩ (z_j_chk (b := b) (sp := sp) (S := S) l x (Int32.ofNat (([4, 5, 5] : List Nat).getD i 0)) hc1 hc2) ⟨callB_of 2 hts (z_good (z_wj_in z_cw_J0_checkIndex_df160)) rfl rfl rfl (hts (.initialized yJ0_checkIndex_df160.cls) (z_w_of (by decide +kernel))) (hts (.methodLink RJ1 9 yJ0_checkIndex_df160) (z_w_of (by decide +kernel))) (by decide +kernel) ⟨by decide, by decide⟩, hts (.static yJ0_checkIndex_df160) (z_w_of (by decide +kernel))⟩ ⟨z_blindJ, z_preJ hsp2 hbs hS⟩ rfl rfl hl.1 rfl (lv_room (Nat.le_of_ble_eq_true rfl)) (show decode cJ1_charAt_3b067 3 = .ok (.invokestatic 9, 3) by decide +kernel) ⟨Nat.le_refl _, Nat.le_refl _⟩) ?_
  refine lv_aload_n hx hb (k := 0) (by decide +kernel) rfl (lv_at hl 0 rfl) ?_
  refine lv_iload_n hx hb (k := 1) (by decide +kernel) rfl (lv_at hl 1 rfl) ?_
  refine va_tb hx hb k4 hS (by rw [z_cln hi]; exact z_in_of hxi) rfl (by decide +kernel) ?_
  refine lv_sipush (n := 255) hx hb (by decide +kernel) rfl ?_
  refine lv_iand hx hb (by decide +kernel) ?_
  refine lv_i2c hx hb (by decide +kernel) (z_chr hi hxi) ?_
  exact W.zret hx hb hr (z_chn hi hxi) (fun t ht _ => ⟨rfl, ht⟩) (fun q h => by cases h) (by decide +kernel) hlocks
set_option maxRecDepth 20000 in
/-- String.length() -/
theorem z_j_len (l : Launch) {i : Nat} (hi : i < 3) : Met l yJ0_length_8abf5 (z_wj yJ0_length_8abf5 cJ0_length_8abf5 1 (some .int)) (z_rj 1) (z_PJ b sp S [.ref (sp (i + 1))]) (z_QJ (some (.int (Int32.ofNat (z_wlen i))))) 0 0 (fun _ => False) := by
  refine Met.ofW (cc := cJ0_length_8abf5) (maxL := 1) (ret := (some .int)) (by decide) rfl ?_
  intro p e s m args below meth c s₁ B hml hv
  obtain ⟨rfl, hbs, hsp⟩ := hv
  have hx := B.exec
  have hb := B.bytes
  have hr := B.returns
  have hts : ∀ w ∈ z_gw, w.before [Value.ref (sp (i + 1))].toArray s = true := fun w hw => atoms_spec (ws := z_wj yJ0_length_8abf5 cJ0_length_8abf5 1 (some .int)) B.pre w (List.mem_cons_of_mem _ hw)
  have hown : s.vm.findClass RJ0 = some m.cls := findClass_of_methodNamed B.named
  have hlocks := B.notSynchronized
  have hS : va_S (z_A b) s.heap s.heap [] := va_S.rf
  have hsp2 := hsp
  obtain ⟨g1, g2, ⟨adV, g3⟩, g4, g5, g6, g7, g8⟩ := hsp
  obtain ⟨k1, k2, k3, k4⟩ := g3.1 i hi
  have hl := lv_entry ([.ref (sp (i + 1))]) (n := 1) (Nat.le_of_ble_eq_true rfl)
  rw [lg_entry_eq]
  generalize (lg_sl ([.ref (sp (i + 1))]) ++ List.replicate (1 - (lg_sl ([.ref (sp (i + 1))])).length) Slot.unset).toArray = ls at hl ⊢
  have hl : lv_has ls 1 [(0, .ref (sp (i + 1)))] := hl
  refine lv_aload_n hx hb (k := 0) (by decide +kernel) rfl (lv_at hl 0 rfl) ?_
  refine vk_getf hx hb k3 hS hown (hts (.fieldLink RJ0 9 "java/lang/String" "value" "[B") (z_w_of (by decide +kernel))) (fun _ h => h) (by decide +kernel) ?_
  refine va_tlen hx hb k4 hS rfl (by decide +kernel) ?_
  refine lv_aload_n hx hb (k := 0) (by decide +kernel) rfl (lv_at hl 0 rfl) ?_
  refine z_callJ (va_runV (C := RJ0) (b := sp (i + 1)) (As := []) (rest := [.int (Int32.ofNat (([4, 5, 5] : List Nat).getD i 0))]) ⟨hx, hb, hml, hown, hts⟩ (z_j_coder (b := b) (sp := sp) (S := S) l hi) ⟨callB_of 0 hts (z_good (z_wj_in z_cw_J0_coder_7d493)) rfl rfl rfl (hts (.initialized yJ0_coder_7d493.cls) (z_w_of (by decide +kernel))) (hts (.methodLink RJ0 335 yJ0_coder_7d493) (z_w_of (by decide +kernel))) (by decide +kernel) ⟨by decide, by decide⟩, hts (.instanceMethod yJ0_coder_7d493) (z_w_of (by decide +kernel)), hts (.selects RJ0 yJ0_coder_7d493 yJ0_coder_7d493) (z_w_of (by decide +kernel))⟩ ⟨z_blindJ, vk_recv (i := i) g3 hi hS, z_preJ (as := .ref (sp (i + 1)) :: []) hsp2 hbs hS⟩ rfl rfl hl.1 rfl (lv_room (Nat.le_of_ble_eq_true rfl)) (show decode cJ0_length_8abf5 6 = .ok (.invokevirtual 335, 3) by decide +kernel) ⟨Nat.le_refl _, Nat.le_refl _⟩) ?_
  refine lv_ishr hx hb (by decide +kernel) ?_
  have e9 : Int32.ofNat (([4, 5, 5] : List Nat).getD i 0) >>> ((0 : Int32) &&& 31) = Int32.ofNat (z_wlen i) := by
    have hall : ∀ i, i < 3 → Int32.ofNat (([4, 5, 5] : List Nat).getD i 0) >>> ((0 : Int32) &&& 31) = Int32.ofNat (z_wlen i) := by decide +kernel
    exact hall i hi
  rw [e9]
  exact W.iret hx hb hr (fun t ht _ => ⟨rfl, ht⟩) (fun q h => by cases h) (by decide +kernel) hlocks
set_option maxRecDepth 20000 in
/-- String.charAt -/
theorem z_j_cha (l : Launch) {i : Nat} (hi : i < 3) {x : Int32} (hxi : z_in x (z_wlen i) = true) : Met l yJ0_charAt_5068e (z_wj yJ0_charAt_5068e cJ0_charAt_5068e 2 (some .char)) (z_rj 3) (z_PJ b sp S [.ref (sp (i + 1)), .int x]) (z_QJ (some (.int ((z_wch i).getD x.toNatClampNeg 0)))) 0 0 (fun _ => False) := by
  refine Met.ofW (cc := cJ0_charAt_5068e) (maxL := 2) (ret := (some .char)) (by decide) rfl ?_
  intro p e s m args below meth c s₁ B hml hv
  obtain ⟨rfl, hbs, hsp⟩ := hv
  have hx := B.exec
  have hb := B.bytes
  have hr := B.returns
  have hts : ∀ w ∈ z_gw, w.before [Value.ref (sp (i + 1)), .int x].toArray s = true := fun w hw => atoms_spec (ws := z_wj yJ0_charAt_5068e cJ0_charAt_5068e 2 (some .char)) B.pre w (List.mem_cons_of_mem _ hw)
  have hown : s.vm.findClass RJ0 = some m.cls := findClass_of_methodNamed B.named
  have hlocks := B.notSynchronized
  have hS : va_S (z_A b) s.heap s.heap [] := va_S.rf
  have hsp2 := hsp
  obtain ⟨g1, g2, ⟨adV, g3⟩, g4, g5, g6, g7, g8⟩ := hsp
  obtain ⟨k1, k2, k3, k4⟩ := g3.1 i hi
  have hl := lv_entry ([.ref (sp (i + 1)), .int x]) (n := 2) (Nat.le_of_ble_eq_true rfl)
  rw [lg_entry_eq]
  generalize (lg_sl ([.ref (sp (i + 1)), .int x]) ++ List.replicate (2 - (lg_sl ([.ref (sp (i + 1)), .int x])).length) Slot.unset).toArray = ls at hl ⊢
  have hl : lv_has ls 2 [(0, .ref (sp (i + 1))), (1, .int x)] := hl
  refine lv_aload_n hx hb (k := 0) (by decide +kernel) rfl (lv_at hl 0 rfl) ?_
  refine z_callJ (va_runV (C := RJ0) (b := sp (i + 1)) (As := []) (rest := []) ⟨hx, hb, hml, hown, hts⟩ (z_j_lat (b := b) (sp := sp) (S := S) l hi) ⟨callB_of 0 hts (z_good (z_wj_in z_cw_J0_isLatin1_aae02)) rfl rfl rfl (hts (.initialized yJ0_isLatin1_aae02.cls) (z_w_of (by decide +kernel))) (hts (.methodLink RJ0 492 yJ0_isLatin1_aae02) (z_w_of (by decide +kernel))) (by decide +kernel) ⟨by decide, by decide⟩, hts (.instanceMethod yJ0_isLatin1_aae02) (z_w_of (by decide +kernel)), hts (.selects RJ0 yJ0_isLatin1_aae02 yJ0_isLatin1_aae02) (z_w_of (by decide +kernel))⟩ ⟨z_blindJ, vk_recv (i := i) g3 hi hS, z_preJ (as := .ref (sp (i + 1)) :: []) hsp2 hbs hS⟩ rfl rfl hl.1 rfl (lv_room (Nat.le_of_ble_eq_true rfl)) (show decode cJ0_charAt_5068e 1 = .ok (.invokevirtual 492, 3) by decide +kernel) ⟨Nat.le_refl _, Nat.le_refl _⟩) ?_
  refine lv_if_eq hx hb (off := 12) (tgt := 16) (by decide +kernel) (by decide) (fun h => absurd h (by decide)) (fun _ => ?_)
  refine lv_aload_n hx hb (k := 0) (by decide +kernel) rfl (lv_at hl 0 rfl) ?_
  refine vk_getf hx hb k3 hS hown (hts (.fieldLink RJ0 9 "java/lang/String" "value" "[B") (z_w_of (by decide +kernel))) (fun _ h => h) (by decide +kernel) ?_
  refine lv_iload_n hx hb (k := 1) (by decide +kernel) rfl (lv_at hl 1 rfl) ?_
  refine z_callJ (va_runS (As := [.ref (adV i), .int x]) (rest := []) ⟨hx, hb, hml, hown, hts⟩ (z_j_lch (b := b) (sp := sp) (S := S) (q := adV i) l hi hxi (fun _ _ _ => trivial)) ⟨callB_of 2 hts (z_good (z_wj_in z_cw_J1_charAt_3b067)) rfl rfl rfl (hts (.initialized yJ1_charAt_3b067.cls) (z_w_of (by decide +kernel))) (hts (.methodLink RJ0 495 yJ1_charAt_3b067) (z_w_of (by decide +kernel))) (by decide +kernel) ⟨by decide, by decide⟩, hts (.static yJ1_charAt_3b067) (z_w_of (by decide +kernel))⟩ ⟨fun a U g mk h => ⟨z_blindJ a U g mk h.1, va_T.moved (u := U) (U := U.calling g mk a) (Vm.Alike.refl U.vm) h.2⟩, fun U hU hW => ⟨z_preJ hsp2 hbs hS U hU hW, (va_T.moved hW.alike k4).kept (fun a h1 h2 => by rw [hU])⟩⟩ rfl rfl hl.1 rfl (lv_room (Nat.le_of_ble_eq_true rfl)) (show decode cJ0_charAt_5068e 12 = .ok (.invokestatic 495, 3) by decide +kernel) ⟨Nat.le_refl _, Nat.le_refl _⟩) ?_
  exact W.zret hx hb hr (z_chn hi hxi) (fun t ht _ => ⟨rfl, ht⟩) (fun q h => by cases h) (by decide +kernel) hlocks
end ZJ
theorem z_ad_w {b : Nat} {sp : Nat → Nat} {a : Nat} (h1 : 1001 ≤ a) : z_ad b sp a = sp (a - 1001 + 1) := by
  unfold z_ad
  rw [if_neg (by omega), show a - 1000 = a - 1001 + 1 by omega]
set_option maxRecDepth 20000 in
theorem z_stl : z_STL := by
  intro b sp cA D S p l e R s m args below meth c Q y m0 z0 pc nx a ls st M C hc h1 h2 hr8 hrc hrs k
  intro H locs lsC hW hL hS
  obtain ⟨hx, hb, hml, hown, hts, hK, hsp, hbs, hini, hck, hfr, hlo⟩ := C
  have hr := z_rel_of hck hc
  have hk := k H locs lsC hW hL hS
  simp only [z_rel] at hr
  split at hr
  · rename_i q hq
    simp only [Bool.and_eq_true, decide_eq_true_eq] at hr
    obtain ⟨rfl, w1⟩ := hr
    have hsp2 := hsp
    obtain ⟨g1, g2, ⟨adV, g3⟩, g4, g5, g6, g7, g8⟩ := hsp
    show W p l e R s m args below meth c H locs (M.length - m0) (z_sz M - z0) Q (F0 m pc lsC (.ref (z_ad b sp a) :: st.map (z_v (z_ad b sp))))
    rw [z_ad_w h1]
    refine z_callJ (r := some (.int (Int32.ofNat (z_wlen (a - 1001))))) (va_runV (C := RJ0) (b := sp (a - 1001 + 1)) (As := []) (rest := st.map (z_v (z_ad b sp))) ⟨hx, hb, hml, hown, hts⟩ (z_j_len (b := b) (sp := sp) (S := S) (i := a - 1001) l (by omega)) ⟨callB_of 0 hts (z_good (z_wj_in z_cw_J0_length_8abf5)) rfl rfl rfl (hts (.initialized yJ0_length_8abf5.cls) (z_w_of (by decide +kernel))) (hts (.methodLink (z_mt y).1.cls q yJ0_length_8abf5) (z_w_of w1)) (by decide +kernel) ⟨by show 1 + 1 ≤ _; omega, by show 8 + (1 + 11) + 30 * 1 ≤ _; omega⟩, hts (.instanceMethod yJ0_length_8abf5) (z_w_of (by decide +kernel)), hts (.selects RJ0 yJ0_length_8abf5 yJ0_length_8abf5) (z_w_of (by decide +kernel))⟩ ⟨z_blindJ, vk_recv (i := a - 1001) g3 (by omega) hS, z_preJ (as := [.ref (sp (a - 1001 + 1))]) hsp2 (by omega) hS⟩ rfl rfl hL.1 rfl (lv_room (z_cat_of hr8)) hq ⟨hrc, hrs⟩) ?_
    exact hk
  · cases hr
set_option maxRecDepth 20000 in
theorem z_stc : z_STC := by
  intro b sp cA D S p l e R s m args below meth c Q y m0 z0 pc nx a x ls st M C hc h1 h2 hxi hr8 hrc hrs k
  intro H locs lsC hW hL hS
  obtain ⟨hx, hb, hml, hown, hts, hK, hsp, hbs, hini, hck, hfr, hlo⟩ := C
  have hr := z_rel_of hck hc
  have hk := k H locs lsC hW hL hS
  simp only [z_rel] at hr
  split at hr
  · rename_i q hq
    simp only [Bool.and_eq_true, decide_eq_true_eq] at hr
    obtain ⟨rfl, w1⟩ := hr
    have hsp2 := hsp
    obtain ⟨g1, g2, ⟨adV, g3⟩, g4, g5, g6, g7, g8⟩ := hsp
    show W p l e R s m args below meth c H locs (M.length - m0) (z_sz M - z0) Q (F0 m pc lsC (.int x :: .ref (z_ad b sp a) :: st.map (z_v (z_ad b sp))))
    rw [z_ad_w h1]
    refine z_callJ (r := some (.int ((z_wch (a - 1001)).getD x.toNatClampNeg 0))) (va_runV (C := RJ0) (b := sp (a - 1001 + 1)) (As := [.int x]) (rest := st.map (z_v (z_ad b sp))) ⟨hx, hb, hml, hown, hts⟩ (z_j_cha (b := b) (sp := sp) (S := S) (i := a - 1001) l (by omega) hxi) ⟨callB_of 1 hts (z_good (z_wj_in z_cw_J0_charAt_5068e)) rfl rfl rfl (hts (.initialized yJ0_charAt_5068e.cls) (z_w_of (by decide +kernel))) (hts (.methodLink (z_mt y).1.cls q yJ0_charAt_5068e) (z_w_of w1)) (by decide +kernel) ⟨by show 3 + 1 ≤ _; omega, by show 8 + (2 + 11) + 30 * 3 ≤ _; omega⟩, hts (.instanceMethod yJ0_charAt_5068e) (z_w_of (by decide +kernel)), hts (.selects RJ0 yJ0_charAt_5068e yJ0_charAt_5068e) (z_w_of (by decide +kernel))⟩ ⟨z_blindJ, vk_recv (i := a - 1001) g3 (by omega) hS, z_preJ (as := [.ref (sp (a - 1001 + 1)), .int x]) hsp2 (by omega) hS⟩ rfl rfl hL.1 rfl (lv_room (z_cat_of hr8)) hq ⟨hrc, hrs⟩) ?_
    exact hk
  · cases hr
end
section
/-! THE CLAIM OUT OF ONE WALK OF THE LAW'S BODY. Your part is whole_start (and what it stands on); all else here is the same for every law, but numbers. -/
def R_law : String := "BentYardsLaw"
def lw_P (b : Addr) (xs : List Int32) (args : Array Value) (s : State) : Prop := args = #[.ref b] ∧ s.IntsAt b xs ∧ xs.length ≤ 2048 ∧ (Jvm.Cond.and given_1 narrow_1).before args s = true
def lw_Q (_ : Array Value) (s : State) (o : Outcome) (t : State) : Prop := o = .returned (some (.int 1)) ∧ Framed s o t [] 600000 7302250
def lw_Z (below : List Frame) (a : Array Value) (s : State) : State → Prop := fun t => ∃ o, t.status = .running ∧ Ended t below o ∧ lw_Q a s o t
/-- the law's own end, with 1 on the stack, nothing written that was there before, its room as the claim has it -/
theorem lw_ret {p : Program} {l : Launch} {e : Env} {s : State} {m : MethodId} {below : List Frame} {meth : Method} {c : Code} {b : Nat} (hx : p.tables.exec = Jvm.exec) (hb : c.code = code) (hr : meth.sig.returnType = ret) (hlocks : meth.locks = false) {pc : Nat} {H : Heap} {ls : Array Slot} (hdg : decode code pc = .ok (.ireturn, 1)) : W p l e room_1 s m #[Value.ref b] below meth c H [] 600000 7302250 (lw_Z below #[Value.ref b] s) (F0 m pc ls [.int 1]) := by
  intro T hT X
  obtain ⟨fs, hret, hrun, hended, hW, hframe⟩ := X.leave (v := some (.int 1)) (hlocks := hlocks) (fun h => by rw [hr] at h; cases h)
  have hmeth' : T.vm.method? m = some meth := X.method'
  refine ⟨T.setFrames fs, ?_, .returned (some (.int 1)), hrun, hended, rfl, ⟨_, rfl⟩, hW, hframe⟩
  jvm_step X.here [X.here.top, hx, hb, hdg, hmeth', hr, ret, narrow_b1]
  (try refine ⟨rfl, ?_⟩); (try refine ⟨rfl, ?_⟩)
  first | (intro acts; rw [hret _ acts rfl rfl rfl]) | rw [hret _ _ rfl rfl rfl]
  exact Steps.refl _
/-- what holds at the law's entry: the machine, the code, the tables' words (any of lw_tbl by 'hts w (by decide +kernel)'), the script of L ints xs at the cell b, what the Statement gives of the start (any of its parts by flat_of_before) -/
def lw_At (p : Program) (s : State) (m : MethodId) (meth : Method) (c : Code) (b L : Nat) (xs : Nat → Int32) : Prop :=
  p.tables.exec = Jvm.exec ∧ c.code = code ∧ meth.sig.returnType = ret ∧ c.maxLocals = 4 ∧ s.vm.findClass R_law = some m.cls ∧ (∀ w ∈ lw_tbl, w.before #[Value.ref b] s = true) ∧ va_X b L xs s s.heap ∧ b < s.heap.size ∧ meth.locks = false ∧ (Jvm.Cond.and given_1 narrow_1).before #[Value.ref b] s = true
/-- the small machine's run of the law, on every script -/
def z_Law : Prop := ∀ (L : Nat) (xs : Nat → Int32), L ≤ 2048 → ∃ (n d : Nat) (M' : ZM), z_xm (L, xs) n d 168 0 [some (.ref 1000), none, none, none] [] [] = some (some (.int 1), M') ∧ d ≤ 800 ∧ M'.length ≤ 600000 ∧ z_sz M' ≤ 7302250
theorem z_arrP {s : State} {args : Array Value} {ty : FieldType} (hp : (match ty with
  | .object _ => false
  | .array _ => false
  | _ => true) = true) (h : (Cond.arrayClass ty).before args s = true) : ∃ cB : ClassId, ArrOfT s cB ty ∧ va_RA s cB ty := by
  obtain ⟨cB, kA, comp, h1, h2, h3⟩ := Cond.arrayClass_spec h
  refine ⟨cB, fun n z => ⟨fun k h => (by cases h), kA, h2, comp, h3⟩, ?_⟩
  cases ty <;> first | exact h1 | cases hp
theorem z_arrQ {s : State} {args : Array Value} {C : String} (h : (Cond.arrayOver (.object C)).before args s = true) : ∃ cB : ClassId, ArrOfT s cB (.object C) ∧ va_RA s cB (.object C) := by
  obtain ⟨comp, cB, kA, h1, h2, h3, h4, h5⟩ := Cond.arrayOver_spec h
  exact ⟨cB, fun n z => ⟨fun k h => (by cases h), kA, h3, comp, h4⟩, kA, comp, h3, h4, h1, h5⟩
theorem z_eqv {args : Array Value} {s : State} {t : Term} (h : (Cond.eq t (.int 1)).before args s = true) : t.eval args s none [] s = some (.int 1) := by
  cases hv : t.eval args s none [] s with
  | none => simp [Cond.before, Cond.holds, Cond.value, hv] at h
  | some v =>
    have h2 : (Term.int 1).eval args s none [] s = some (.int 1) := rfl
    simp only [Cond.before, Cond.holds, Cond.value, hv, h2] at h
    cases v <;> simp at h
    rw [h]
set_option maxRecDepth 20000 in
set_option maxHeartbeats 4000000 in
theorem z_law_start (hlaw : z_Law) (hck : ∀ y, y < 169 → z_chk y = true) {p : Program} {e : Env} {s : State} {m : MethodId} {below : List Frame} {meth : Method} {c : Code} (l : Launch) {b L : Nat} {xs : Nat → Int32} (hL : L ≤ 2048) (C0 : lw_At p s m meth c b L xs) : W p l e room_1 s m #[Value.ref b] below meth c s.heap [] 0 0 (lw_Z below #[Value.ref b] s) (entryFrame m ([Value.ref b] : List Value).toArray 4) := by
  obtain ⟨hx, hb, hr, hml, hown, hts0, hX, hbl, hlocks, hgv⟩ := C0
  have hts : ∀ w ∈ z_gw, w.before #[Value.ref b] s = true := fun w hw => hts0 w (List.mem_filter.mp hw).1
  have hs := flat_of_before _ hgv
  have hnA : ∀ a : Nat, a < s.heap.size → ¬ z_A s.heap.size a := fun a h g => absurd h (Nat.not_lt.mpr g)
  have hin : ∀ ci, ci < 7 → Cond.instantiable (z_cls ci).1 (z_cls ci).2.2 ∈ z_gw := by
    intro ci h
    match ci, h with
    | 0, _ => exact z_w_of (by decide +kernel)
    | 1, _ => exact z_w_of (by decide +kernel)
    | 2, _ => exact z_w_of (by decide +kernel)
    | 3, _ => exact z_w_of (by decide +kernel)
    | 4, _ => exact z_w_of (by decide +kernel)
    | 5, _ => exact z_w_of (by decide +kernel)
    | 6, _ => exact z_w_of (by decide +kernel)
  have hkn : ∀ ci, ∃ q : ClassId × (Nat → Nat), ci < 7 → u_Kn s (z_cls ci).1 (z_cls ci).2.1 (z_cls ci).2.2 q.1 q.2 := by
    intro ci
    by_cases h : ci < 7
    · obtain ⟨cC, iS, hK⟩ := u_known hts (z_inc h) (hts _ (hin ci h))
      exact ⟨(cC, iS), fun _ => hK⟩
    · exact ⟨(0, fun _ => 0), fun g => absurd g h⟩
  have har : ∀ t : Nat, ∃ cB : ClassId, ∀ ty, (z_tys (fun _ => cB))[t]? = some (cB, ty) → ArrOfT s cB ty ∧ va_RA s cB ty := by
    intro t
    match t with
    | 0 => obtain ⟨cB, h⟩ := z_arrP rfl (hts _ (z_w_of (by decide +kernel : z_w (.arrayClass .int) = true))); exact ⟨cB, fun ty g => by cases g; exact h⟩
    | 1 => obtain ⟨cB, h⟩ := z_arrP rfl (hts _ (z_w_of (by decide +kernel : z_w (.arrayClass .byte) = true))); exact ⟨cB, fun ty g => by cases g; exact h⟩
    | 2 => obtain ⟨cB, h⟩ := z_arrP rfl (hts _ (z_w_of (by decide +kernel : z_w (.arrayClass .boolean) = true))); exact ⟨cB, fun ty g => by cases g; exact h⟩
    | 3 => obtain ⟨cB, h⟩ := z_arrP rfl (hts _ (z_w_of (by decide +kernel : z_w (.arrayClass .long) = true))); exact ⟨cB, fun ty g => by cases g; exact h⟩
    | 4 => obtain ⟨cB, h⟩ := z_arrQ (hts0 (.arrayOver (.object RX0)) (by decide +kernel)); exact ⟨cB, fun ty g => by cases g; exact h⟩
    | 5 => obtain ⟨cB, h⟩ := z_arrQ (hts0 (.arrayOver (.object RX2)) (by decide +kernel)); exact ⟨cB, fun ty g => by cases g; exact h⟩
    | n + 6 => exact ⟨0, fun ty g => by simp [z_tys] at g⟩
  obtain ⟨dq, hdq⟩ := Classical.skolem.mp hkn
  obtain ⟨cA, hcA⟩ := Classical.skolem.mp har
  have hK : va_K (fun k => (dq k).1, fun k => (dq k).2) vwCl (z_tys cA) s := by
    refine ⟨fun ci q hq => ?_, fun t q hq => ?_⟩
    · have h7 : ci < 7 := (List.getElem?_eq_some_iff.mp hq).1
      rw [z_cl h7] at hq
      cases hq
      exact hdq ci h7
    · match t, hq with
      | 0, hq => cases hq; exact hcA 0 _ rfl
      | 1, hq => cases hq; exact hcA 1 _ rfl
      | 2, hq => cases hq; exact hcA 2 _ rfl
      | 3, hq => cases hq; exact hcA 3 _ rfl
      | 4, hq => cases hq; exact hcA 4 _ rfl
      | 5, hq => cases hq; exact hcA 5 _ rfl
      | n + 6, hq => simp [z_tys] at hq
  let idx : Nat → Nat := fun i => match i with
    | 0 => 48
    | 1 => 80
    | _ => 85
  have h3 : ∀ P : Nat → Prop, P 0 → P 1 → P 2 → ∀ i, i < 3 → P i := fun P a0 a1 a2 i h => match i, h with
    | 0, _ => a0
    | 1, _ => a1
    | 2, _ => a2
  obtain ⟨adK, adV, hvk, htm⟩ := vk_Sof (args := #[Value.ref b]) (s := s) (N := 3) (tm := fun i => .string RX1 (idx i)) (len := [4, 5, 5]) (byt := z_byts) (A := z_A s.heap.size)
    (h3 _ (by decide) (by decide) (by decide))
    (h3 _ (hs _ (by decide +kernel)) (hs _ (by decide +kernel)) (hs _ (by decide +kernel)))
    (h3 _ (hs _ (by decide +kernel)) (hs _ (by decide +kernel)) (hs _ (by decide +kernel)))
    (h3 _ (hs _ (by decide +kernel)) (hs _ (by decide +kernel)) (hs _ (by decide +kernel)))
    (h3 _ (hs _ (by decide +kernel)) (hs _ (by decide +kernel)) (hs _ (by decide +kernel)))
    (h3 _ (fun j hj => match j, hj with
      | 0, _ => hs _ (by decide +kernel)
      | 1, _ => hs _ (by decide +kernel)
      | 2, _ => hs _ (by decide +kernel)
      | 3, _ => hs _ (by decide +kernel)) (fun j hj => match j, hj with
      | 0, _ => hs _ (by decide +kernel)
      | 1, _ => hs _ (by decide +kernel)
      | 2, _ => hs _ (by decide +kernel)
      | 3, _ => hs _ (by decide +kernel)
      | 4, _ => hs _ (by decide +kernel)) (fun j hj => match j, hj with
      | 0, _ => hs _ (by decide +kernel)
      | 1, _ => hs _ (by decide +kernel)
      | 2, _ => hs _ (by decide +kernel)
      | 3, _ => hs _ (by decide +kernel)
      | 4, _ => hs _ (by decide +kernel)))
    (fun i j hi hj hne => match i, hi, j, hj, hne with
      | 0, _, 0, _, h => absurd rfl h
      | 1, _, 1, _, h => absurd rfl h
      | 2, _, 2, _, h => absurd rfl h
      | 0, _, 1, _, _ => Or.inl (hs _ (by decide +kernel))
      | 0, _, 2, _, _ => Or.inl (hs _ (by decide +kernel))
      | 1, _, 2, _, _ => Or.inl (hs _ (by decide +kernel))
      | 1, _, 0, _, _ => Or.inr (hs _ (by decide +kernel))
      | 2, _, 0, _, _ => Or.inr (hs _ (by decide +kernel))
      | 2, _, 1, _, _ => Or.inr (hs _ (by decide +kernel))) hnA
  let sp : Nat → Nat := fun k => match k with
    | 0 => b
    | i + 1 => adK i
  have hlt : ∀ i, i < 3 → adK i < s.heap.size := by
    intro i hi
    obtain ⟨cell, h1, -⟩ := (hvk.1 i hi).1
    exact (Array.getElem?_eq_some_iff.mp h1).1
  have hsp : z_sp s.heap.size sp (L, xs) s s.heap := by
    refine ⟨fun k hk => ?_, hX, ⟨adV, hvk⟩, fun q hq => ?_, va_AO.of (hts0 (.arrayOver (.object RX0)) (by decide +kernel)), va_AO.of (hts0 (.arrayOver (.object RX2)) (by decide +kernel)), ?_, ?_⟩
    · match k, hk with
      | 0, _ => exact hbl
      | 1, _ => exact hlt 0 (by omega)
      | 2, _ => exact hlt 1 (by omega)
      | 3, _ => exact hlt 2 (by omega)
    · have hq2 : q = (48, 0) ∨ q = (80, 1) ∨ q = (85, 2) := by
        simpa [z_strs] using hq
      rcases hq2 with rfl | rfl | rfl
      · exact ⟨"yard", vk_R.of (hts0 (.stringRef RX1 48 "yard") (by decide +kernel)) (htm 0 (by omega))⟩
      · exact ⟨"house", vk_R.of (hts0 (.stringRef RX1 80 "house") (by decide +kernel)) (htm 1 (by omega))⟩
      · exact ⟨"chain", vk_R.of (hts0 (.stringRef RX1 85 "chain") (by decide +kernel)) (htm 2 (by omega))⟩
    · refine va_Zof (args := #[Value.ref b]) (hts0 (.laysStatic "java/lang/String" "COMPACT_STRINGS" "Z") (by decide +kernel)) (hts0 (.initialized "java/lang/String") (by decide +kernel)) ?_ hnA
      exact z_eqv (hs (.eq (.static "java/lang/String" "COMPACT_STRINGS" "Z") (.int 1)) (by decide +kernel))
    · exact va_Zqof (args := #[Value.ref b]) (hts0 (.laysStatic "jdk/internal/util/Preconditions" "SIOOBE_FORMATTER" "Ljava/util/function/BiFunction;") (by decide +kernel)) (hts0 (.initialized "jdk/internal/util/Preconditions") (by decide +kernel)) (hs (.isRef (.static "jdk/internal/util/Preconditions" "SIOOBE_FORMATTER" "Ljava/util/function/BiFunction;")) (by decide +kernel)) hnA
  obtain ⟨n, d, M', hrun, hd, hM1, hM2⟩ := hlaw L xs hL
  have C : z_cx s.heap.size sp cA (fun k => (dq k).1, fun k => (dq k).2) (L, xs) p room_1 s m #[Value.ref b] meth c 168 0 := ⟨hx, hb, hml, hown, hts, hK, hsp, rfl, fun h => absurd h (by decide), hck 168 (by omega), by decide, by decide⟩
  have h1 := z_sound z_stl z_stc (fun y hy => hck y (by omega)) (L, xs) n s.heap.size sp cA (fun k => (dq k).1, fun k => (dq k).2) p l e room_1 s m #[Value.ref b] below meth c (lw_Z below #[Value.ref b] s) 168 0 0 d 0 _ _ _ _ _ hrun C (by show d + 6 ≤ 2048; omega) (by show 100 * d + 300 ≤ 84000; omega) (Nat.le_refl _) (Nat.le_refl _) (by show M'.length - 0 ≤ 600000; omega) (by show z_sz M' - 0 ≤ 7302250; omega) (by
    intro pc' nx' i' ls' st' hc hst H locs lsC hW hLs hS
    have hrl := z_rel_of (hck 168 (by omega)) hc
    refine va_forget (fun q hq => hS.2.2 q hq) ?_
    refine W.widen (k := 600000) (n := 7302250) (by omega) (by omega) ?_
    cases i' with
    | ireturn =>
      obtain ⟨hdd, -⟩ := z_dq_of hrl
      simp only [z_stp] at hst
      split at hst
      · split at hst
        · cases hst
          exact lw_ret hx hb hr hlocks hdd
        · cases hst
      · cases hst
    | lreturn =>
      simp only [z_stp] at hst
      split at hst
      · split at hst <;> cases hst
      · cases hst
    | areturn =>
      simp only [z_stp] at hst
      split at hst
      · split at hst <;> cases hst
      · split at hst <;> cases hst
      · cases hst
    | return_ =>
      simp only [z_stp] at hst
      split at hst <;> cases hst
    | _ => exact absurd hst (by simp only [z_stp]; (repeat' split) <;> (intro g; cases g)))
  have h2 := h1 s.heap [] _ ⟨by decide, fun k q h => by simp [z_ws] at h⟩ (z_has_ent (ad := z_ad s.heap.size sp) (as := [.ref 1000]) (n := 4) (by decide)) va_S.rf
  rw [lg_entry_eq]
  exact h2
end
section
/-! RUNS of the small machine. z_G: from a place in a method it comes to an answer and cells; z_C: a call of a method does. -/
def z_G (S : ZS) (d y pc : Nat) (ls : ZL) (st : List Value) (M : ZM) (r : Option Value) (M' : ZM) : Prop := ∃ n, z_xm S n d y pc ls st M = some (r, M')
def z_C (S : ZS) (d y : Nat) (as : List Value) (M : ZM) (r : Option Value) (M' : ZM) : Prop := (z_sl as).length ≤ (z_mt y).2.2.1 ∧ z_G S d y 0 (z_ent as (z_mt y).2.2.1) [] M r M'
theorem z_more {S : ZS} : ∀ (n k d y pc : Nat) (ls : ZL) (st : List Value) (M : ZM) (x : Option Value × ZM), z_xm S n d y pc ls st M = some x → z_xm S (n + k) d y pc ls st M = some x := by
  intro n
  induction n with
  | zero => intro k d y pc ls st M x h; cases h
  | succ n ih =>
    intro k d y pc ls st M x h
    rw [Nat.add_right_comm]
    unfold z_xm at h ⊢
    split at h
    · cases h
    · rename_i nx i hc
      try rw [hc]
      try dsimp only at h ⊢
      split at h
      · cases h
      · rename_i hs
        try rw [hs]
        exact ih _ _ _ _ _ _ _ _ h
      · rename_i hs
        try rw [hs]
        exact h
      · rename_i hs
        try rw [hs]
        try dsimp only
        split at h
        · cases h
        · split at h
          · rename_i hle
            rw [if_pos hle]
            split at h
            · cases h
            · rename_i hx
              rw [ih k _ _ _ _ _ _ _ hx]
              exact ih _ _ _ _ _ _ _ _ h
          · cases h
/-- a whole number as an int -/
def zI (z : Int) : Int32 := Int32.ofInt z
section ZG
variable {S : ZS} {d y pc nx : Nat} {ls : ZL} {st : List Value} {M M' : ZM} {r : Option Value}
theorem g_step {i : Instr} {pc' : Nat} {ls' : ZL} {st' : List Value} {M1 : ZM} (hc : z_code y pc = some (nx, i)) (h : z_stp S y i nx ls st M = some (.inl (pc', ls', st', M1))) (k : z_G S d y pc' ls' st' M1 r M') : z_G S d y pc ls st M r M' := by
  obtain ⟨n, hn⟩ := k
  refine ⟨n + 1, ?_⟩
  unfold z_xm
  rw [hc]
  dsimp only
  rw [h]
  exact hn
theorem g_ret {i : Instr} (hc : z_code y pc = some (nx, i)) (h : z_stp S y i nx ls st M = some (.inr (.inl r))) : z_G S d y pc ls st M r M := by
  refine ⟨1, ?_⟩
  unfold z_xm
  rw [hc]
  dsimp only
  rw [h]
theorem g_call {i : Instr} {y' nx' : Nat} {as rest : List Value} {r1 : Option Value} {M1 : ZM} (hc : z_code y pc = some (nx, i)) (h : z_stp S y i nx ls st M = some (.inr (.inr (y', as, rest, nx')))) (hcal : z_C S d y' as M r1 M1) (k : z_G S (d + 1) y nx' ls (r1.toList ++ rest) M1 r M') : z_G S (d + 1) y pc ls st M r M' := by
  obtain ⟨hle, n1, h1⟩ := hcal
  obtain ⟨n2, h2⟩ := k
  refine ⟨n1 + n2 + 1, ?_⟩
  unfold z_xm
  rw [hc]
  dsimp only
  rw [h]
  dsimp only
  rw [if_pos hle, z_more n1 n2 _ _ _ _ _ _ _ h1]
  dsimp only
  rw [Nat.add_comm n1 n2]
  exact z_more n2 n1 _ _ _ _ _ _ _ h2
/-- entry: the locals laid out -/
theorem c_of {as : List Value} {n : Nat} {L : ZL} (hn : (z_mt y).2.2.1 = n) (hl : z_ent as n = L) (h0 : (z_sl as).length ≤ n) (k : z_G S d y 0 L [] M r M') : z_C S d y as M r M' := by
  subst hn
  subst hl
  exact ⟨h0, k⟩
theorem g_ic {n : Int} (hc : z_code y pc = some (nx, .iconst n)) (k : z_G S d y nx ls (.int (zI n) :: st) M r M') : z_G S d y pc ls st M r M' := g_step hc rfl k
theorem g_lc {n : Int} (hc : z_code y pc = some (nx, .goto_w n)) (k : z_G S d y nx ls (.long (Int64.ofInt n) :: st) M r M') : z_G S d y pc ls st M r M' := g_step hc rfl k
theorem g_null (hc : z_code y pc = some (nx, .aconst_null)) (k : z_G S d y nx ls (.null :: st) M r M') : z_G S d y pc ls st M r M' := g_step hc rfl k
theorem g_ldc {n : Nat} (hc : z_code y pc = some (nx, .ldc n)) (hn : n < 3) (k : z_G S d y nx ls (.ref (1001 + n) :: st) M r M') : z_G S d y pc ls st M r M' := g_step hc (by simp only [z_stp]; rw [if_pos hn]) k
theorem g_il {n : Nat} {x : Int32} (hc : z_code y pc = some (nx, .iload n)) (hl : ls[n]? = some (some (.int x))) (k : z_G S d y nx ls (.int x :: st) M r M') : z_G S d y pc ls st M r M' := g_step hc (by simp only [z_stp]; rw [hl]) k
theorem g_ll {n : Nat} {x : Int64} (hc : z_code y pc = some (nx, .lload n)) (hl : ls[n]? = some (some (.long x))) (k : z_G S d y nx ls (.long x :: st) M r M') : z_G S d y pc ls st M r M' := g_step hc (by simp only [z_stp]; rw [hl]) k
theorem g_al {n : Nat} {x : Nat} (hc : z_code y pc = some (nx, .aload n)) (hl : ls[n]? = some (some (.ref x))) (k : z_G S d y nx ls (.ref x :: st) M r M') : z_G S d y pc ls st M r M' := g_step hc (by simp only [z_stp]; rw [hl]) k
theorem g_aln {n : Nat} (hc : z_code y pc = some (nx, .aload n)) (hl : ls[n]? = some (some .null)) (k : z_G S d y nx ls (.null :: st) M r M') : z_G S d y pc ls st M r M' := g_step hc (by simp only [z_stp]; rw [hl]) k
def z_nl (v : Option Value) : Bool := match v with
  | some v => decide (v.category = 1)
  | none => true
theorem z_sto0 {v0 : Option Value} {t : ZL} {x : Value} : z_st1 (v0 :: t) 0 x = (some x :: t) := by
  unfold z_st1 z_cut
  rfl
theorem z_sto1 {v0 v1 : Option Value} {t : ZL} {x : Value} (hv : z_nl v0 = true) : z_st1 (v0 :: v1 :: t) 1 x = (v0 :: some x :: t) := by
  unfold z_st1 z_cut
  have h : (v0 :: v1 :: t)[0]? = some v0 := rfl
  dsimp only
  rw [h]
  cases v0 with
  | none => rfl
  | some w =>
    have hw : w.category = 1 := of_decide_eq_true hv
    dsimp only
    rw [if_neg (by rw [hw]; decide)]
    rfl
theorem z_sto2 {v0 v1 v2 : Option Value} {t : ZL} {x : Value} (hv : z_nl v1 = true) : z_st1 (v0 :: v1 :: v2 :: t) 2 x = (v0 :: v1 :: some x :: t) := by
  unfold z_st1 z_cut
  have h : (v0 :: v1 :: v2 :: t)[1]? = some v1 := rfl
  dsimp only
  rw [h]
  cases v1 with
  | none => rfl
  | some w =>
    have hw : w.category = 1 := of_decide_eq_true hv
    dsimp only
    rw [if_neg (by rw [hw]; decide)]
    rfl
theorem z_sto3 {v0 v1 v2 v3 : Option Value} {t : ZL} {x : Value} (hv : z_nl v2 = true) : z_st1 (v0 :: v1 :: v2 :: v3 :: t) 3 x = (v0 :: v1 :: v2 :: some x :: t) := by
  unfold z_st1 z_cut
  have h : (v0 :: v1 :: v2 :: v3 :: t)[2]? = some v2 := rfl
  dsimp only
  rw [h]
  cases v2 with
  | none => rfl
  | some w =>
    have hw : w.category = 1 := of_decide_eq_true hv
    dsimp only
    rw [if_neg (by rw [hw]; decide)]
    rfl
theorem z_sto4 {v0 v1 v2 v3 v4 : Option Value} {t : ZL} {x : Value} (hv : z_nl v3 = true) : z_st1 (v0 :: v1 :: v2 :: v3 :: v4 :: t) 4 x = (v0 :: v1 :: v2 :: v3 :: some x :: t) := by
  unfold z_st1 z_cut
  have h : (v0 :: v1 :: v2 :: v3 :: v4 :: t)[3]? = some v3 := rfl
  dsimp only
  rw [h]
  cases v3 with
  | none => rfl
  | some w =>
    have hw : w.category = 1 := of_decide_eq_true hv
    dsimp only
    rw [if_neg (by rw [hw]; decide)]
    rfl
theorem z_sto5 {v0 v1 v2 v3 v4 v5 : Option Value} {t : ZL} {x : Value} (hv : z_nl v4 = true) : z_st1 (v0 :: v1 :: v2 :: v3 :: v4 :: v5 :: t) 5 x = (v0 :: v1 :: v2 :: v3 :: v4 :: some x :: t) := by
  unfold z_st1 z_cut
  have h : (v0 :: v1 :: v2 :: v3 :: v4 :: v5 :: t)[4]? = some v4 := rfl
  dsimp only
  rw [h]
  cases v4 with
  | none => rfl
  | some w =>
    have hw : w.category = 1 := of_decide_eq_true hv
    dsimp only
    rw [if_neg (by rw [hw]; decide)]
    rfl
theorem z_sto6 {v0 v1 v2 v3 v4 v5 v6 : Option Value} {t : ZL} {x : Value} (hv : z_nl v5 = true) : z_st1 (v0 :: v1 :: v2 :: v3 :: v4 :: v5 :: v6 :: t) 6 x = (v0 :: v1 :: v2 :: v3 :: v4 :: v5 :: some x :: t) := by
  unfold z_st1 z_cut
  have h : (v0 :: v1 :: v2 :: v3 :: v4 :: v5 :: v6 :: t)[5]? = some v5 := rfl
  dsimp only
  rw [h]
  cases v5 with
  | none => rfl
  | some w =>
    have hw : w.category = 1 := of_decide_eq_true hv
    dsimp only
    rw [if_neg (by rw [hw]; decide)]
    rfl
theorem z_sto7 {v0 v1 v2 v3 v4 v5 v6 v7 : Option Value} {t : ZL} {x : Value} (hv : z_nl v6 = true) : z_st1 (v0 :: v1 :: v2 :: v3 :: v4 :: v5 :: v6 :: v7 :: t) 7 x = (v0 :: v1 :: v2 :: v3 :: v4 :: v5 :: v6 :: some x :: t) := by
  unfold z_st1 z_cut
  have h : (v0 :: v1 :: v2 :: v3 :: v4 :: v5 :: v6 :: v7 :: t)[6]? = some v6 := rfl
  dsimp only
  rw [h]
  cases v6 with
  | none => rfl
  | some w =>
    have hw : w.category = 1 := of_decide_eq_true hv
    dsimp only
    rw [if_neg (by rw [hw]; decide)]
    rfl
theorem z_sto8 {v0 v1 v2 v3 v4 v5 v6 v7 v8 : Option Value} {t : ZL} {x : Value} (hv : z_nl v7 = true) : z_st1 (v0 :: v1 :: v2 :: v3 :: v4 :: v5 :: v6 :: v7 :: v8 :: t) 8 x = (v0 :: v1 :: v2 :: v3 :: v4 :: v5 :: v6 :: v7 :: some x :: t) := by
  unfold z_st1 z_cut
  have h : (v0 :: v1 :: v2 :: v3 :: v4 :: v5 :: v6 :: v7 :: v8 :: t)[7]? = some v7 := rfl
  dsimp only
  rw [h]
  cases v7 with
  | none => rfl
  | some w =>
    have hw : w.category = 1 := of_decide_eq_true hv
    dsimp only
    rw [if_neg (by rw [hw]; decide)]
    rfl
theorem z_sto9 {v0 v1 v2 v3 v4 v5 v6 v7 v8 v9 : Option Value} {t : ZL} {x : Value} (hv : z_nl v8 = true) : z_st1 (v0 :: v1 :: v2 :: v3 :: v4 :: v5 :: v6 :: v7 :: v8 :: v9 :: t) 9 x = (v0 :: v1 :: v2 :: v3 :: v4 :: v5 :: v6 :: v7 :: v8 :: some x :: t) := by
  unfold z_st1 z_cut
  have h : (v0 :: v1 :: v2 :: v3 :: v4 :: v5 :: v6 :: v7 :: v8 :: v9 :: t)[8]? = some v8 := rfl
  dsimp only
  rw [h]
  cases v8 with
  | none => rfl
  | some w =>
    have hw : w.category = 1 := of_decide_eq_true hv
    dsimp only
    rw [if_neg (by rw [hw]; decide)]
    rfl
theorem z_sto10 {v0 v1 v2 v3 v4 v5 v6 v7 v8 v9 v10 : Option Value} {t : ZL} {x : Value} (hv : z_nl v9 = true) : z_st1 (v0 :: v1 :: v2 :: v3 :: v4 :: v5 :: v6 :: v7 :: v8 :: v9 :: v10 :: t) 10 x = (v0 :: v1 :: v2 :: v3 :: v4 :: v5 :: v6 :: v7 :: v8 :: v9 :: some x :: t) := by
  unfold z_st1 z_cut
  have h : (v0 :: v1 :: v2 :: v3 :: v4 :: v5 :: v6 :: v7 :: v8 :: v9 :: v10 :: t)[9]? = some v9 := rfl
  dsimp only
  rw [h]
  cases v9 with
  | none => rfl
  | some w =>
    have hw : w.category = 1 := of_decide_eq_true hv
    dsimp only
    rw [if_neg (by rw [hw]; decide)]
    rfl
theorem z_sto11 {v0 v1 v2 v3 v4 v5 v6 v7 v8 v9 v10 v11 : Option Value} {t : ZL} {x : Value} (hv : z_nl v10 = true) : z_st1 (v0 :: v1 :: v2 :: v3 :: v4 :: v5 :: v6 :: v7 :: v8 :: v9 :: v10 :: v11 :: t) 11 x = (v0 :: v1 :: v2 :: v3 :: v4 :: v5 :: v6 :: v7 :: v8 :: v9 :: v10 :: some x :: t) := by
  unfold z_st1 z_cut
  have h : (v0 :: v1 :: v2 :: v3 :: v4 :: v5 :: v6 :: v7 :: v8 :: v9 :: v10 :: v11 :: t)[10]? = some v10 := rfl
  dsimp only
  rw [h]
  cases v10 with
  | none => rfl
  | some w =>
    have hw : w.category = 1 := of_decide_eq_true hv
    dsimp only
    rw [if_neg (by rw [hw]; decide)]
    rfl
theorem z_sto12 {v0 v1 v2 v3 v4 v5 v6 v7 v8 v9 v10 v11 v12 : Option Value} {t : ZL} {x : Value} (hv : z_nl v11 = true) : z_st1 (v0 :: v1 :: v2 :: v3 :: v4 :: v5 :: v6 :: v7 :: v8 :: v9 :: v10 :: v11 :: v12 :: t) 12 x = (v0 :: v1 :: v2 :: v3 :: v4 :: v5 :: v6 :: v7 :: v8 :: v9 :: v10 :: v11 :: some x :: t) := by
  unfold z_st1 z_cut
  have h : (v0 :: v1 :: v2 :: v3 :: v4 :: v5 :: v6 :: v7 :: v8 :: v9 :: v10 :: v11 :: v12 :: t)[11]? = some v11 := rfl
  dsimp only
  rw [h]
  cases v11 with
  | none => rfl
  | some w =>
    have hw : w.category = 1 := of_decide_eq_true hv
    dsimp only
    rw [if_neg (by rw [hw]; decide)]
    rfl
theorem g_is0 {v0 : Option Value} {t : ZL} {x : Int32} (hc : z_code y pc = some (nx, .istore 0)) (k : z_G S d y nx (some (.int x) :: t) st M r M') : z_G S d y pc (v0 :: t) (.int x :: st) M r M' := g_step hc (by simp only [z_stp]; rw [if_pos (by simp)]; exact congrArg (fun q => some (Sum.inl (nx, q, st, M))) (z_sto0)) k
theorem g_as0 {v0 : Option Value} {t : ZL} {x : Nat} (hc : z_code y pc = some (nx, .astore 0)) (k : z_G S d y nx (some (.ref x) :: t) st M r M') : z_G S d y pc (v0 :: t) (.ref x :: st) M r M' := g_step hc (by simp only [z_stp]; rw [if_pos (by simp)]; exact congrArg (fun q => some (Sum.inl (nx, q, st, M))) (z_sto0)) k
theorem g_an0 {v0 : Option Value} {t : ZL} (hc : z_code y pc = some (nx, .astore 0)) (k : z_G S d y nx (some (.null) :: t) st M r M') : z_G S d y pc (v0 :: t) (.null :: st) M r M' := g_step hc (by simp only [z_stp]; rw [if_pos (by simp)]; exact congrArg (fun q => some (Sum.inl (nx, q, st, M))) (z_sto0)) k
theorem g_is1 {v0 v1 : Option Value} {t : ZL} {x : Int32} (hc : z_code y pc = some (nx, .istore 1)) (hv : z_nl v0 = true) (k : z_G S d y nx (v0 :: some (.int x) :: t) st M r M') : z_G S d y pc (v0 :: v1 :: t) (.int x :: st) M r M' := g_step hc (by simp only [z_stp]; rw [if_pos (by simp)]; exact congrArg (fun q => some (Sum.inl (nx, q, st, M))) (z_sto1 hv)) k
theorem g_as1 {v0 v1 : Option Value} {t : ZL} {x : Nat} (hc : z_code y pc = some (nx, .astore 1)) (hv : z_nl v0 = true) (k : z_G S d y nx (v0 :: some (.ref x) :: t) st M r M') : z_G S d y pc (v0 :: v1 :: t) (.ref x :: st) M r M' := g_step hc (by simp only [z_stp]; rw [if_pos (by simp)]; exact congrArg (fun q => some (Sum.inl (nx, q, st, M))) (z_sto1 hv)) k
theorem g_an1 {v0 v1 : Option Value} {t : ZL} (hc : z_code y pc = some (nx, .astore 1)) (hv : z_nl v0 = true) (k : z_G S d y nx (v0 :: some (.null) :: t) st M r M') : z_G S d y pc (v0 :: v1 :: t) (.null :: st) M r M' := g_step hc (by simp only [z_stp]; rw [if_pos (by simp)]; exact congrArg (fun q => some (Sum.inl (nx, q, st, M))) (z_sto1 hv)) k
theorem g_is2 {v0 v1 v2 : Option Value} {t : ZL} {x : Int32} (hc : z_code y pc = some (nx, .istore 2)) (hv : z_nl v1 = true) (k : z_G S d y nx (v0 :: v1 :: some (.int x) :: t) st M r M') : z_G S d y pc (v0 :: v1 :: v2 :: t) (.int x :: st) M r M' := g_step hc (by simp only [z_stp]; rw [if_pos (by simp)]; exact congrArg (fun q => some (Sum.inl (nx, q, st, M))) (z_sto2 hv)) k
theorem g_as2 {v0 v1 v2 : Option Value} {t : ZL} {x : Nat} (hc : z_code y pc = some (nx, .astore 2)) (hv : z_nl v1 = true) (k : z_G S d y nx (v0 :: v1 :: some (.ref x) :: t) st M r M') : z_G S d y pc (v0 :: v1 :: v2 :: t) (.ref x :: st) M r M' := g_step hc (by simp only [z_stp]; rw [if_pos (by simp)]; exact congrArg (fun q => some (Sum.inl (nx, q, st, M))) (z_sto2 hv)) k
theorem g_an2 {v0 v1 v2 : Option Value} {t : ZL} (hc : z_code y pc = some (nx, .astore 2)) (hv : z_nl v1 = true) (k : z_G S d y nx (v0 :: v1 :: some (.null) :: t) st M r M') : z_G S d y pc (v0 :: v1 :: v2 :: t) (.null :: st) M r M' := g_step hc (by simp only [z_stp]; rw [if_pos (by simp)]; exact congrArg (fun q => some (Sum.inl (nx, q, st, M))) (z_sto2 hv)) k
theorem g_is3 {v0 v1 v2 v3 : Option Value} {t : ZL} {x : Int32} (hc : z_code y pc = some (nx, .istore 3)) (hv : z_nl v2 = true) (k : z_G S d y nx (v0 :: v1 :: v2 :: some (.int x) :: t) st M r M') : z_G S d y pc (v0 :: v1 :: v2 :: v3 :: t) (.int x :: st) M r M' := g_step hc (by simp only [z_stp]; rw [if_pos (by simp)]; exact congrArg (fun q => some (Sum.inl (nx, q, st, M))) (z_sto3 hv)) k
theorem g_as3 {v0 v1 v2 v3 : Option Value} {t : ZL} {x : Nat} (hc : z_code y pc = some (nx, .astore 3)) (hv : z_nl v2 = true) (k : z_G S d y nx (v0 :: v1 :: v2 :: some (.ref x) :: t) st M r M') : z_G S d y pc (v0 :: v1 :: v2 :: v3 :: t) (.ref x :: st) M r M' := g_step hc (by simp only [z_stp]; rw [if_pos (by simp)]; exact congrArg (fun q => some (Sum.inl (nx, q, st, M))) (z_sto3 hv)) k
theorem g_an3 {v0 v1 v2 v3 : Option Value} {t : ZL} (hc : z_code y pc = some (nx, .astore 3)) (hv : z_nl v2 = true) (k : z_G S d y nx (v0 :: v1 :: v2 :: some (.null) :: t) st M r M') : z_G S d y pc (v0 :: v1 :: v2 :: v3 :: t) (.null :: st) M r M' := g_step hc (by simp only [z_stp]; rw [if_pos (by simp)]; exact congrArg (fun q => some (Sum.inl (nx, q, st, M))) (z_sto3 hv)) k
theorem g_is4 {v0 v1 v2 v3 v4 : Option Value} {t : ZL} {x : Int32} (hc : z_code y pc = some (nx, .istore 4)) (hv : z_nl v3 = true) (k : z_G S d y nx (v0 :: v1 :: v2 :: v3 :: some (.int x) :: t) st M r M') : z_G S d y pc (v0 :: v1 :: v2 :: v3 :: v4 :: t) (.int x :: st) M r M' := g_step hc (by simp only [z_stp]; rw [if_pos (by simp)]; exact congrArg (fun q => some (Sum.inl (nx, q, st, M))) (z_sto4 hv)) k
theorem g_as4 {v0 v1 v2 v3 v4 : Option Value} {t : ZL} {x : Nat} (hc : z_code y pc = some (nx, .astore 4)) (hv : z_nl v3 = true) (k : z_G S d y nx (v0 :: v1 :: v2 :: v3 :: some (.ref x) :: t) st M r M') : z_G S d y pc (v0 :: v1 :: v2 :: v3 :: v4 :: t) (.ref x :: st) M r M' := g_step hc (by simp only [z_stp]; rw [if_pos (by simp)]; exact congrArg (fun q => some (Sum.inl (nx, q, st, M))) (z_sto4 hv)) k
theorem g_an4 {v0 v1 v2 v3 v4 : Option Value} {t : ZL} (hc : z_code y pc = some (nx, .astore 4)) (hv : z_nl v3 = true) (k : z_G S d y nx (v0 :: v1 :: v2 :: v3 :: some (.null) :: t) st M r M') : z_G S d y pc (v0 :: v1 :: v2 :: v3 :: v4 :: t) (.null :: st) M r M' := g_step hc (by simp only [z_stp]; rw [if_pos (by simp)]; exact congrArg (fun q => some (Sum.inl (nx, q, st, M))) (z_sto4 hv)) k
theorem g_is5 {v0 v1 v2 v3 v4 v5 : Option Value} {t : ZL} {x : Int32} (hc : z_code y pc = some (nx, .istore 5)) (hv : z_nl v4 = true) (k : z_G S d y nx (v0 :: v1 :: v2 :: v3 :: v4 :: some (.int x) :: t) st M r M') : z_G S d y pc (v0 :: v1 :: v2 :: v3 :: v4 :: v5 :: t) (.int x :: st) M r M' := g_step hc (by simp only [z_stp]; rw [if_pos (by simp)]; exact congrArg (fun q => some (Sum.inl (nx, q, st, M))) (z_sto5 hv)) k
theorem g_as5 {v0 v1 v2 v3 v4 v5 : Option Value} {t : ZL} {x : Nat} (hc : z_code y pc = some (nx, .astore 5)) (hv : z_nl v4 = true) (k : z_G S d y nx (v0 :: v1 :: v2 :: v3 :: v4 :: some (.ref x) :: t) st M r M') : z_G S d y pc (v0 :: v1 :: v2 :: v3 :: v4 :: v5 :: t) (.ref x :: st) M r M' := g_step hc (by simp only [z_stp]; rw [if_pos (by simp)]; exact congrArg (fun q => some (Sum.inl (nx, q, st, M))) (z_sto5 hv)) k
theorem g_an5 {v0 v1 v2 v3 v4 v5 : Option Value} {t : ZL} (hc : z_code y pc = some (nx, .astore 5)) (hv : z_nl v4 = true) (k : z_G S d y nx (v0 :: v1 :: v2 :: v3 :: v4 :: some (.null) :: t) st M r M') : z_G S d y pc (v0 :: v1 :: v2 :: v3 :: v4 :: v5 :: t) (.null :: st) M r M' := g_step hc (by simp only [z_stp]; rw [if_pos (by simp)]; exact congrArg (fun q => some (Sum.inl (nx, q, st, M))) (z_sto5 hv)) k
theorem g_is6 {v0 v1 v2 v3 v4 v5 v6 : Option Value} {t : ZL} {x : Int32} (hc : z_code y pc = some (nx, .istore 6)) (hv : z_nl v5 = true) (k : z_G S d y nx (v0 :: v1 :: v2 :: v3 :: v4 :: v5 :: some (.int x) :: t) st M r M') : z_G S d y pc (v0 :: v1 :: v2 :: v3 :: v4 :: v5 :: v6 :: t) (.int x :: st) M r M' := g_step hc (by simp only [z_stp]; rw [if_pos (by simp)]; exact congrArg (fun q => some (Sum.inl (nx, q, st, M))) (z_sto6 hv)) k
theorem g_as6 {v0 v1 v2 v3 v4 v5 v6 : Option Value} {t : ZL} {x : Nat} (hc : z_code y pc = some (nx, .astore 6)) (hv : z_nl v5 = true) (k : z_G S d y nx (v0 :: v1 :: v2 :: v3 :: v4 :: v5 :: some (.ref x) :: t) st M r M') : z_G S d y pc (v0 :: v1 :: v2 :: v3 :: v4 :: v5 :: v6 :: t) (.ref x :: st) M r M' := g_step hc (by simp only [z_stp]; rw [if_pos (by simp)]; exact congrArg (fun q => some (Sum.inl (nx, q, st, M))) (z_sto6 hv)) k
theorem g_an6 {v0 v1 v2 v3 v4 v5 v6 : Option Value} {t : ZL} (hc : z_code y pc = some (nx, .astore 6)) (hv : z_nl v5 = true) (k : z_G S d y nx (v0 :: v1 :: v2 :: v3 :: v4 :: v5 :: some (.null) :: t) st M r M') : z_G S d y pc (v0 :: v1 :: v2 :: v3 :: v4 :: v5 :: v6 :: t) (.null :: st) M r M' := g_step hc (by simp only [z_stp]; rw [if_pos (by simp)]; exact congrArg (fun q => some (Sum.inl (nx, q, st, M))) (z_sto6 hv)) k
theorem g_is7 {v0 v1 v2 v3 v4 v5 v6 v7 : Option Value} {t : ZL} {x : Int32} (hc : z_code y pc = some (nx, .istore 7)) (hv : z_nl v6 = true) (k : z_G S d y nx (v0 :: v1 :: v2 :: v3 :: v4 :: v5 :: v6 :: some (.int x) :: t) st M r M') : z_G S d y pc (v0 :: v1 :: v2 :: v3 :: v4 :: v5 :: v6 :: v7 :: t) (.int x :: st) M r M' := g_step hc (by simp only [z_stp]; rw [if_pos (by simp)]; exact congrArg (fun q => some (Sum.inl (nx, q, st, M))) (z_sto7 hv)) k
theorem g_as7 {v0 v1 v2 v3 v4 v5 v6 v7 : Option Value} {t : ZL} {x : Nat} (hc : z_code y pc = some (nx, .astore 7)) (hv : z_nl v6 = true) (k : z_G S d y nx (v0 :: v1 :: v2 :: v3 :: v4 :: v5 :: v6 :: some (.ref x) :: t) st M r M') : z_G S d y pc (v0 :: v1 :: v2 :: v3 :: v4 :: v5 :: v6 :: v7 :: t) (.ref x :: st) M r M' := g_step hc (by simp only [z_stp]; rw [if_pos (by simp)]; exact congrArg (fun q => some (Sum.inl (nx, q, st, M))) (z_sto7 hv)) k
theorem g_an7 {v0 v1 v2 v3 v4 v5 v6 v7 : Option Value} {t : ZL} (hc : z_code y pc = some (nx, .astore 7)) (hv : z_nl v6 = true) (k : z_G S d y nx (v0 :: v1 :: v2 :: v3 :: v4 :: v5 :: v6 :: some (.null) :: t) st M r M') : z_G S d y pc (v0 :: v1 :: v2 :: v3 :: v4 :: v5 :: v6 :: v7 :: t) (.null :: st) M r M' := g_step hc (by simp only [z_stp]; rw [if_pos (by simp)]; exact congrArg (fun q => some (Sum.inl (nx, q, st, M))) (z_sto7 hv)) k
theorem g_is8 {v0 v1 v2 v3 v4 v5 v6 v7 v8 : Option Value} {t : ZL} {x : Int32} (hc : z_code y pc = some (nx, .istore 8)) (hv : z_nl v7 = true) (k : z_G S d y nx (v0 :: v1 :: v2 :: v3 :: v4 :: v5 :: v6 :: v7 :: some (.int x) :: t) st M r M') : z_G S d y pc (v0 :: v1 :: v2 :: v3 :: v4 :: v5 :: v6 :: v7 :: v8 :: t) (.int x :: st) M r M' := g_step hc (by simp only [z_stp]; rw [if_pos (by simp)]; exact congrArg (fun q => some (Sum.inl (nx, q, st, M))) (z_sto8 hv)) k
theorem g_as8 {v0 v1 v2 v3 v4 v5 v6 v7 v8 : Option Value} {t : ZL} {x : Nat} (hc : z_code y pc = some (nx, .astore 8)) (hv : z_nl v7 = true) (k : z_G S d y nx (v0 :: v1 :: v2 :: v3 :: v4 :: v5 :: v6 :: v7 :: some (.ref x) :: t) st M r M') : z_G S d y pc (v0 :: v1 :: v2 :: v3 :: v4 :: v5 :: v6 :: v7 :: v8 :: t) (.ref x :: st) M r M' := g_step hc (by simp only [z_stp]; rw [if_pos (by simp)]; exact congrArg (fun q => some (Sum.inl (nx, q, st, M))) (z_sto8 hv)) k
theorem g_an8 {v0 v1 v2 v3 v4 v5 v6 v7 v8 : Option Value} {t : ZL} (hc : z_code y pc = some (nx, .astore 8)) (hv : z_nl v7 = true) (k : z_G S d y nx (v0 :: v1 :: v2 :: v3 :: v4 :: v5 :: v6 :: v7 :: some (.null) :: t) st M r M') : z_G S d y pc (v0 :: v1 :: v2 :: v3 :: v4 :: v5 :: v6 :: v7 :: v8 :: t) (.null :: st) M r M' := g_step hc (by simp only [z_stp]; rw [if_pos (by simp)]; exact congrArg (fun q => some (Sum.inl (nx, q, st, M))) (z_sto8 hv)) k
theorem g_is9 {v0 v1 v2 v3 v4 v5 v6 v7 v8 v9 : Option Value} {t : ZL} {x : Int32} (hc : z_code y pc = some (nx, .istore 9)) (hv : z_nl v8 = true) (k : z_G S d y nx (v0 :: v1 :: v2 :: v3 :: v4 :: v5 :: v6 :: v7 :: v8 :: some (.int x) :: t) st M r M') : z_G S d y pc (v0 :: v1 :: v2 :: v3 :: v4 :: v5 :: v6 :: v7 :: v8 :: v9 :: t) (.int x :: st) M r M' := g_step hc (by simp only [z_stp]; rw [if_pos (by simp)]; exact congrArg (fun q => some (Sum.inl (nx, q, st, M))) (z_sto9 hv)) k
theorem g_as9 {v0 v1 v2 v3 v4 v5 v6 v7 v8 v9 : Option Value} {t : ZL} {x : Nat} (hc : z_code y pc = some (nx, .astore 9)) (hv : z_nl v8 = true) (k : z_G S d y nx (v0 :: v1 :: v2 :: v3 :: v4 :: v5 :: v6 :: v7 :: v8 :: some (.ref x) :: t) st M r M') : z_G S d y pc (v0 :: v1 :: v2 :: v3 :: v4 :: v5 :: v6 :: v7 :: v8 :: v9 :: t) (.ref x :: st) M r M' := g_step hc (by simp only [z_stp]; rw [if_pos (by simp)]; exact congrArg (fun q => some (Sum.inl (nx, q, st, M))) (z_sto9 hv)) k
theorem g_an9 {v0 v1 v2 v3 v4 v5 v6 v7 v8 v9 : Option Value} {t : ZL} (hc : z_code y pc = some (nx, .astore 9)) (hv : z_nl v8 = true) (k : z_G S d y nx (v0 :: v1 :: v2 :: v3 :: v4 :: v5 :: v6 :: v7 :: v8 :: some (.null) :: t) st M r M') : z_G S d y pc (v0 :: v1 :: v2 :: v3 :: v4 :: v5 :: v6 :: v7 :: v8 :: v9 :: t) (.null :: st) M r M' := g_step hc (by simp only [z_stp]; rw [if_pos (by simp)]; exact congrArg (fun q => some (Sum.inl (nx, q, st, M))) (z_sto9 hv)) k
theorem g_is10 {v0 v1 v2 v3 v4 v5 v6 v7 v8 v9 v10 : Option Value} {t : ZL} {x : Int32} (hc : z_code y pc = some (nx, .istore 10)) (hv : z_nl v9 = true) (k : z_G S d y nx (v0 :: v1 :: v2 :: v3 :: v4 :: v5 :: v6 :: v7 :: v8 :: v9 :: some (.int x) :: t) st M r M') : z_G S d y pc (v0 :: v1 :: v2 :: v3 :: v4 :: v5 :: v6 :: v7 :: v8 :: v9 :: v10 :: t) (.int x :: st) M r M' := g_step hc (by simp only [z_stp]; rw [if_pos (by simp)]; exact congrArg (fun q => some (Sum.inl (nx, q, st, M))) (z_sto10 hv)) k
theorem g_as10 {v0 v1 v2 v3 v4 v5 v6 v7 v8 v9 v10 : Option Value} {t : ZL} {x : Nat} (hc : z_code y pc = some (nx, .astore 10)) (hv : z_nl v9 = true) (k : z_G S d y nx (v0 :: v1 :: v2 :: v3 :: v4 :: v5 :: v6 :: v7 :: v8 :: v9 :: some (.ref x) :: t) st M r M') : z_G S d y pc (v0 :: v1 :: v2 :: v3 :: v4 :: v5 :: v6 :: v7 :: v8 :: v9 :: v10 :: t) (.ref x :: st) M r M' := g_step hc (by simp only [z_stp]; rw [if_pos (by simp)]; exact congrArg (fun q => some (Sum.inl (nx, q, st, M))) (z_sto10 hv)) k
theorem g_an10 {v0 v1 v2 v3 v4 v5 v6 v7 v8 v9 v10 : Option Value} {t : ZL} (hc : z_code y pc = some (nx, .astore 10)) (hv : z_nl v9 = true) (k : z_G S d y nx (v0 :: v1 :: v2 :: v3 :: v4 :: v5 :: v6 :: v7 :: v8 :: v9 :: some (.null) :: t) st M r M') : z_G S d y pc (v0 :: v1 :: v2 :: v3 :: v4 :: v5 :: v6 :: v7 :: v8 :: v9 :: v10 :: t) (.null :: st) M r M' := g_step hc (by simp only [z_stp]; rw [if_pos (by simp)]; exact congrArg (fun q => some (Sum.inl (nx, q, st, M))) (z_sto10 hv)) k
theorem g_is11 {v0 v1 v2 v3 v4 v5 v6 v7 v8 v9 v10 v11 : Option Value} {t : ZL} {x : Int32} (hc : z_code y pc = some (nx, .istore 11)) (hv : z_nl v10 = true) (k : z_G S d y nx (v0 :: v1 :: v2 :: v3 :: v4 :: v5 :: v6 :: v7 :: v8 :: v9 :: v10 :: some (.int x) :: t) st M r M') : z_G S d y pc (v0 :: v1 :: v2 :: v3 :: v4 :: v5 :: v6 :: v7 :: v8 :: v9 :: v10 :: v11 :: t) (.int x :: st) M r M' := g_step hc (by simp only [z_stp]; rw [if_pos (by simp)]; exact congrArg (fun q => some (Sum.inl (nx, q, st, M))) (z_sto11 hv)) k
theorem g_as11 {v0 v1 v2 v3 v4 v5 v6 v7 v8 v9 v10 v11 : Option Value} {t : ZL} {x : Nat} (hc : z_code y pc = some (nx, .astore 11)) (hv : z_nl v10 = true) (k : z_G S d y nx (v0 :: v1 :: v2 :: v3 :: v4 :: v5 :: v6 :: v7 :: v8 :: v9 :: v10 :: some (.ref x) :: t) st M r M') : z_G S d y pc (v0 :: v1 :: v2 :: v3 :: v4 :: v5 :: v6 :: v7 :: v8 :: v9 :: v10 :: v11 :: t) (.ref x :: st) M r M' := g_step hc (by simp only [z_stp]; rw [if_pos (by simp)]; exact congrArg (fun q => some (Sum.inl (nx, q, st, M))) (z_sto11 hv)) k
theorem g_an11 {v0 v1 v2 v3 v4 v5 v6 v7 v8 v9 v10 v11 : Option Value} {t : ZL} (hc : z_code y pc = some (nx, .astore 11)) (hv : z_nl v10 = true) (k : z_G S d y nx (v0 :: v1 :: v2 :: v3 :: v4 :: v5 :: v6 :: v7 :: v8 :: v9 :: v10 :: some (.null) :: t) st M r M') : z_G S d y pc (v0 :: v1 :: v2 :: v3 :: v4 :: v5 :: v6 :: v7 :: v8 :: v9 :: v10 :: v11 :: t) (.null :: st) M r M' := g_step hc (by simp only [z_stp]; rw [if_pos (by simp)]; exact congrArg (fun q => some (Sum.inl (nx, q, st, M))) (z_sto11 hv)) k
theorem g_is12 {v0 v1 v2 v3 v4 v5 v6 v7 v8 v9 v10 v11 v12 : Option Value} {t : ZL} {x : Int32} (hc : z_code y pc = some (nx, .istore 12)) (hv : z_nl v11 = true) (k : z_G S d y nx (v0 :: v1 :: v2 :: v3 :: v4 :: v5 :: v6 :: v7 :: v8 :: v9 :: v10 :: v11 :: some (.int x) :: t) st M r M') : z_G S d y pc (v0 :: v1 :: v2 :: v3 :: v4 :: v5 :: v6 :: v7 :: v8 :: v9 :: v10 :: v11 :: v12 :: t) (.int x :: st) M r M' := g_step hc (by simp only [z_stp]; rw [if_pos (by simp)]; exact congrArg (fun q => some (Sum.inl (nx, q, st, M))) (z_sto12 hv)) k
theorem g_as12 {v0 v1 v2 v3 v4 v5 v6 v7 v8 v9 v10 v11 v12 : Option Value} {t : ZL} {x : Nat} (hc : z_code y pc = some (nx, .astore 12)) (hv : z_nl v11 = true) (k : z_G S d y nx (v0 :: v1 :: v2 :: v3 :: v4 :: v5 :: v6 :: v7 :: v8 :: v9 :: v10 :: v11 :: some (.ref x) :: t) st M r M') : z_G S d y pc (v0 :: v1 :: v2 :: v3 :: v4 :: v5 :: v6 :: v7 :: v8 :: v9 :: v10 :: v11 :: v12 :: t) (.ref x :: st) M r M' := g_step hc (by simp only [z_stp]; rw [if_pos (by simp)]; exact congrArg (fun q => some (Sum.inl (nx, q, st, M))) (z_sto12 hv)) k
theorem g_an12 {v0 v1 v2 v3 v4 v5 v6 v7 v8 v9 v10 v11 v12 : Option Value} {t : ZL} (hc : z_code y pc = some (nx, .astore 12)) (hv : z_nl v11 = true) (k : z_G S d y nx (v0 :: v1 :: v2 :: v3 :: v4 :: v5 :: v6 :: v7 :: v8 :: v9 :: v10 :: v11 :: some (.null) :: t) st M r M') : z_G S d y pc (v0 :: v1 :: v2 :: v3 :: v4 :: v5 :: v6 :: v7 :: v8 :: v9 :: v10 :: v11 :: v12 :: t) (.null :: st) M r M' := g_step hc (by simp only [z_stp]; rw [if_pos (by simp)]; exact congrArg (fun q => some (Sum.inl (nx, q, st, M))) (z_sto12 hv)) k
theorem g_ii0 {t : ZL} {x : Int32} {n : Int} (hc : z_code y pc = some (nx, .iinc 0 n)) (k : z_G S d y nx (some (.int (x + zI n)) :: t) st M r M') : z_G S d y pc (some (.int x) :: t) st M r M' := g_step hc (by simp only [z_stp]; exact congrArg (fun q => some (Sum.inl (nx, q, st, M))) (z_sto0)) k
theorem g_ii1 {v0 : Option Value} {t : ZL} {x : Int32} {n : Int} (hc : z_code y pc = some (nx, .iinc 1 n)) (hv : z_nl v0 = true) (k : z_G S d y nx (v0 :: some (.int (x + zI n)) :: t) st M r M') : z_G S d y pc (v0 :: some (.int x) :: t) st M r M' := g_step hc (by simp only [z_stp]; exact congrArg (fun q => some (Sum.inl (nx, q, st, M))) (z_sto1 hv)) k
theorem g_ii2 {v0 v1 : Option Value} {t : ZL} {x : Int32} {n : Int} (hc : z_code y pc = some (nx, .iinc 2 n)) (hv : z_nl v1 = true) (k : z_G S d y nx (v0 :: v1 :: some (.int (x + zI n)) :: t) st M r M') : z_G S d y pc (v0 :: v1 :: some (.int x) :: t) st M r M' := g_step hc (by simp only [z_stp]; exact congrArg (fun q => some (Sum.inl (nx, q, st, M))) (z_sto2 hv)) k
theorem g_ii3 {v0 v1 v2 : Option Value} {t : ZL} {x : Int32} {n : Int} (hc : z_code y pc = some (nx, .iinc 3 n)) (hv : z_nl v2 = true) (k : z_G S d y nx (v0 :: v1 :: v2 :: some (.int (x + zI n)) :: t) st M r M') : z_G S d y pc (v0 :: v1 :: v2 :: some (.int x) :: t) st M r M' := g_step hc (by simp only [z_stp]; exact congrArg (fun q => some (Sum.inl (nx, q, st, M))) (z_sto3 hv)) k
theorem g_ii4 {v0 v1 v2 v3 : Option Value} {t : ZL} {x : Int32} {n : Int} (hc : z_code y pc = some (nx, .iinc 4 n)) (hv : z_nl v3 = true) (k : z_G S d y nx (v0 :: v1 :: v2 :: v3 :: some (.int (x + zI n)) :: t) st M r M') : z_G S d y pc (v0 :: v1 :: v2 :: v3 :: some (.int x) :: t) st M r M' := g_step hc (by simp only [z_stp]; exact congrArg (fun q => some (Sum.inl (nx, q, st, M))) (z_sto4 hv)) k
theorem g_ii5 {v0 v1 v2 v3 v4 : Option Value} {t : ZL} {x : Int32} {n : Int} (hc : z_code y pc = some (nx, .iinc 5 n)) (hv : z_nl v4 = true) (k : z_G S d y nx (v0 :: v1 :: v2 :: v3 :: v4 :: some (.int (x + zI n)) :: t) st M r M') : z_G S d y pc (v0 :: v1 :: v2 :: v3 :: v4 :: some (.int x) :: t) st M r M' := g_step hc (by simp only [z_stp]; exact congrArg (fun q => some (Sum.inl (nx, q, st, M))) (z_sto5 hv)) k
theorem g_ii6 {v0 v1 v2 v3 v4 v5 : Option Value} {t : ZL} {x : Int32} {n : Int} (hc : z_code y pc = some (nx, .iinc 6 n)) (hv : z_nl v5 = true) (k : z_G S d y nx (v0 :: v1 :: v2 :: v3 :: v4 :: v5 :: some (.int (x + zI n)) :: t) st M r M') : z_G S d y pc (v0 :: v1 :: v2 :: v3 :: v4 :: v5 :: some (.int x) :: t) st M r M' := g_step hc (by simp only [z_stp]; exact congrArg (fun q => some (Sum.inl (nx, q, st, M))) (z_sto6 hv)) k
theorem g_ii7 {v0 v1 v2 v3 v4 v5 v6 : Option Value} {t : ZL} {x : Int32} {n : Int} (hc : z_code y pc = some (nx, .iinc 7 n)) (hv : z_nl v6 = true) (k : z_G S d y nx (v0 :: v1 :: v2 :: v3 :: v4 :: v5 :: v6 :: some (.int (x + zI n)) :: t) st M r M') : z_G S d y pc (v0 :: v1 :: v2 :: v3 :: v4 :: v5 :: v6 :: some (.int x) :: t) st M r M' := g_step hc (by simp only [z_stp]; exact congrArg (fun q => some (Sum.inl (nx, q, st, M))) (z_sto7 hv)) k
theorem g_ii8 {v0 v1 v2 v3 v4 v5 v6 v7 : Option Value} {t : ZL} {x : Int32} {n : Int} (hc : z_code y pc = some (nx, .iinc 8 n)) (hv : z_nl v7 = true) (k : z_G S d y nx (v0 :: v1 :: v2 :: v3 :: v4 :: v5 :: v6 :: v7 :: some (.int (x + zI n)) :: t) st M r M') : z_G S d y pc (v0 :: v1 :: v2 :: v3 :: v4 :: v5 :: v6 :: v7 :: some (.int x) :: t) st M r M' := g_step hc (by simp only [z_stp]; exact congrArg (fun q => some (Sum.inl (nx, q, st, M))) (z_sto8 hv)) k
theorem g_ii9 {v0 v1 v2 v3 v4 v5 v6 v7 v8 : Option Value} {t : ZL} {x : Int32} {n : Int} (hc : z_code y pc = some (nx, .iinc 9 n)) (hv : z_nl v8 = true) (k : z_G S d y nx (v0 :: v1 :: v2 :: v3 :: v4 :: v5 :: v6 :: v7 :: v8 :: some (.int (x + zI n)) :: t) st M r M') : z_G S d y pc (v0 :: v1 :: v2 :: v3 :: v4 :: v5 :: v6 :: v7 :: v8 :: some (.int x) :: t) st M r M' := g_step hc (by simp only [z_stp]; exact congrArg (fun q => some (Sum.inl (nx, q, st, M))) (z_sto9 hv)) k
theorem g_ii10 {v0 v1 v2 v3 v4 v5 v6 v7 v8 v9 : Option Value} {t : ZL} {x : Int32} {n : Int} (hc : z_code y pc = some (nx, .iinc 10 n)) (hv : z_nl v9 = true) (k : z_G S d y nx (v0 :: v1 :: v2 :: v3 :: v4 :: v5 :: v6 :: v7 :: v8 :: v9 :: some (.int (x + zI n)) :: t) st M r M') : z_G S d y pc (v0 :: v1 :: v2 :: v3 :: v4 :: v5 :: v6 :: v7 :: v8 :: v9 :: some (.int x) :: t) st M r M' := g_step hc (by simp only [z_stp]; exact congrArg (fun q => some (Sum.inl (nx, q, st, M))) (z_sto10 hv)) k
theorem g_ii11 {v0 v1 v2 v3 v4 v5 v6 v7 v8 v9 v10 : Option Value} {t : ZL} {x : Int32} {n : Int} (hc : z_code y pc = some (nx, .iinc 11 n)) (hv : z_nl v10 = true) (k : z_G S d y nx (v0 :: v1 :: v2 :: v3 :: v4 :: v5 :: v6 :: v7 :: v8 :: v9 :: v10 :: some (.int (x + zI n)) :: t) st M r M') : z_G S d y pc (v0 :: v1 :: v2 :: v3 :: v4 :: v5 :: v6 :: v7 :: v8 :: v9 :: v10 :: some (.int x) :: t) st M r M' := g_step hc (by simp only [z_stp]; exact congrArg (fun q => some (Sum.inl (nx, q, st, M))) (z_sto11 hv)) k
theorem g_ii12 {v0 v1 v2 v3 v4 v5 v6 v7 v8 v9 v10 v11 : Option Value} {t : ZL} {x : Int32} {n : Int} (hc : z_code y pc = some (nx, .iinc 12 n)) (hv : z_nl v11 = true) (k : z_G S d y nx (v0 :: v1 :: v2 :: v3 :: v4 :: v5 :: v6 :: v7 :: v8 :: v9 :: v10 :: v11 :: some (.int (x + zI n)) :: t) st M r M') : z_G S d y pc (v0 :: v1 :: v2 :: v3 :: v4 :: v5 :: v6 :: v7 :: v8 :: v9 :: v10 :: v11 :: some (.int x) :: t) st M r M' := g_step hc (by simp only [z_stp]; exact congrArg (fun q => some (Sum.inl (nx, q, st, M))) (z_sto12 hv)) k
theorem g_iadd {a b : Int32} (hc : z_code y pc = some (nx, .iadd)) (k : z_G S d y nx ls (.int (a + b) :: st) M r M') : z_G S d y pc ls (.int b :: .int a :: st) M r M' := g_step hc rfl k
theorem g_isub {a b : Int32} (hc : z_code y pc = some (nx, .isub)) (k : z_G S d y nx ls (.int (a - b) :: st) M r M') : z_G S d y pc ls (.int b :: .int a :: st) M r M' := g_step hc rfl k
theorem g_imul {a b : Int32} (hc : z_code y pc = some (nx, .imul)) (k : z_G S d y nx ls (.int (a * b) :: st) M r M') : z_G S d y pc ls (.int b :: .int a :: st) M r M' := g_step hc rfl k
theorem g_iand {a b : Int32} (hc : z_code y pc = some (nx, .iand)) (k : z_G S d y nx ls (.int (a &&& b) :: st) M r M') : z_G S d y pc ls (.int b :: .int a :: st) M r M' := g_step hc rfl k
theorem g_ior {a b : Int32} (hc : z_code y pc = some (nx, .ior)) (k : z_G S d y nx ls (.int (a ||| b) :: st) M r M') : z_G S d y pc ls (.int b :: .int a :: st) M r M' := g_step hc rfl k
theorem g_ixor {a b : Int32} (hc : z_code y pc = some (nx, .ixor)) (k : z_G S d y nx ls (.int (a ^^^ b) :: st) M r M') : z_G S d y pc ls (.int b :: .int a :: st) M r M' := g_step hc rfl k
theorem g_ishl {a b : Int32} (hc : z_code y pc = some (nx, .ishl)) (k : z_G S d y nx ls (.int (a <<< (b &&& 31)) :: st) M r M') : z_G S d y pc ls (.int b :: .int a :: st) M r M' := g_step hc rfl k
theorem g_ishr {a b : Int32} (hc : z_code y pc = some (nx, .ishr)) (k : z_G S d y nx ls (.int (a >>> (b &&& 31)) :: st) M r M') : z_G S d y pc ls (.int b :: .int a :: st) M r M' := g_step hc rfl k
theorem g_iushr {a b : Int32} (hc : z_code y pc = some (nx, .iushr)) (k : z_G S d y nx ls (.int ((a.toUInt32 >>> (b.toUInt32 &&& Int32.toUInt32 31)).toInt32) :: st) M r M') : z_G S d y pc ls (.int b :: .int a :: st) M r M' := g_step hc rfl k
theorem g_idiv {a b : Int32} (hc : z_code y pc = some (nx, .idiv)) (hb : ¬ b = 0) (k : z_G S d y nx ls (.int (a / b) :: st) M r M') : z_G S d y pc ls (.int b :: .int a :: st) M r M' := g_step hc (by simp only [z_stp]; rw [if_neg hb]) k
theorem g_irem {a b : Int32} (hc : z_code y pc = some (nx, .irem)) (hb : ¬ b = 0) (k : z_G S d y nx ls (.int (a - a / b * b) :: st) M r M') : z_G S d y pc ls (.int b :: .int a :: st) M r M' := g_step hc (by simp only [z_stp]; rw [if_neg hb]) k
theorem g_ladd {a b : Int64} (hc : z_code y pc = some (nx, .ladd)) (k : z_G S d y nx ls (.long (a + b) :: st) M r M') : z_G S d y pc ls (.long b :: .long a :: st) M r M' := g_step hc rfl k
theorem g_land {a b : Int64} (hc : z_code y pc = some (nx, .land)) (k : z_G S d y nx ls (.long (a &&& b) :: st) M r M') : z_G S d y pc ls (.long b :: .long a :: st) M r M' := g_step hc rfl k
theorem g_lor {a b : Int64} (hc : z_code y pc = some (nx, .lor)) (k : z_G S d y nx ls (.long (a ||| b) :: st) M r M') : z_G S d y pc ls (.long b :: .long a :: st) M r M' := g_step hc rfl k
theorem g_lshl {b : Int32} {a : Int64} (hc : z_code y pc = some (nx, .lshl)) (k : z_G S d y nx ls (.long (a <<< (b.toInt64 &&& 63)) :: st) M r M') : z_G S d y pc ls (.int b :: .long a :: st) M r M' := g_step hc rfl k
theorem g_lshr {b : Int32} {a : Int64} (hc : z_code y pc = some (nx, .lshr)) (k : z_G S d y nx ls (.long (a >>> (b.toInt64 &&& 63)) :: st) M r M') : z_G S d y pc ls (.int b :: .long a :: st) M r M' := g_step hc rfl k
theorem g_lushr {b : Int32} {a : Int64} (hc : z_code y pc = some (nx, .lushr)) (k : z_G S d y nx ls (.long ((a.toUInt64 >>> (b.toInt64.toUInt64 &&& Int64.toUInt64 63)).toInt64) :: st) M r M') : z_G S d y pc ls (.int b :: .long a :: st) M r M' := g_step hc rfl k
theorem g_lcmp {a b : Int64} (hc : z_code y pc = some (nx, .lcmp)) (k : z_G S d y nx ls (.int (lg_cmp a b) :: st) M r M') : z_G S d y pc ls (.long b :: .long a :: st) M r M' := g_step hc rfl k
theorem g_i2l {a : Int32} (hc : z_code y pc = some (nx, .i2l)) (k : z_G S d y nx ls (.long a.toInt64 :: st) M r M') : z_G S d y pc ls (.int a :: st) M r M' := g_step hc rfl k
theorem g_l2i {a : Int64} (hc : z_code y pc = some (nx, .l2i)) (k : z_G S d y nx ls (.int a.toInt32 :: st) M r M') : z_G S d y pc ls (.long a :: st) M r M' := g_step hc rfl k
theorem g_i2b {a : Int32} (hc : z_code y pc = some (nx, .i2b)) (k : z_G S d y nx ls (.int a.toInt8.toInt32 :: st) M r M') : z_G S d y pc ls (.int a :: st) M r M' := g_step hc rfl k
theorem g_dupI {a : Int32} (hc : z_code y pc = some (nx, .dup)) (k : z_G S d y nx ls (.int a :: .int a :: st) M r M') : z_G S d y pc ls (.int a :: st) M r M' := g_step hc rfl k
theorem g_dupA {a : Nat} (hc : z_code y pc = some (nx, .dup)) (k : z_G S d y nx ls (.ref a :: .ref a :: st) M r M') : z_G S d y pc ls (.ref a :: st) M r M' := g_step hc rfl k
theorem g_dup2 {i : Int32} {a : Nat} (hc : z_code y pc = some (nx, .dup2)) (k : z_G S d y nx ls (.int i :: .ref a :: .int i :: .ref a :: st) M r M') : z_G S d y pc ls (.int i :: .ref a :: st) M r M' := g_step hc rfl k
theorem g_popI {a : Int32} (hc : z_code y pc = some (nx, .pop)) (k : z_G S d y nx ls st M r M') : z_G S d y pc ls (.int a :: st) M r M' := g_step hc rfl k
theorem g_goto {t : Nat} (hc : z_code y pc = some (nx, .ret t)) (k : z_G S d y t ls st M r M') : z_G S d y pc ls st M r M' := g_step hc rfl k
theorem g_icT {q t : Nat} {a b : Int32} (hc : z_code y pc = some (nx, .invokeinterface q t)) (h : z_cc q a b = true) (k : z_G S d y t ls st M r M') : z_G S d y pc ls (.int b :: .int a :: st) M r M' := g_step hc (by simp only [z_stp]; rw [if_pos h]) k
theorem g_icF {q t : Nat} {a b : Int32} (hc : z_code y pc = some (nx, .invokeinterface q t)) (h : z_cc q a b = false) (k : z_G S d y nx ls st M r M') : z_G S d y pc ls (.int b :: .int a :: st) M r M' := g_step hc (by simp only [z_stp]; rw [if_neg (by rw [h]; decide)]) k
theorem g_ifT {q t : Nat} {a : Int32} (hc : z_code y pc = some (nx, .multianewarray q t)) (h : z_cc q a (zI 0) = true) (k : z_G S d y t ls st M r M') : z_G S d y pc ls (.int a :: st) M r M' := g_step hc (by simp only [z_stp]; have h : z_cc q a 0 = true := h; rw [if_pos h]) k
theorem g_ifF {q t : Nat} {a : Int32} (hc : z_code y pc = some (nx, .multianewarray q t)) (h : z_cc q a (zI 0) = false) (k : z_G S d y nx ls st M r M') : z_G S d y pc ls (.int a :: st) M r M' := g_step hc (by simp only [z_stp]; have h : z_cc q a 0 = false := h; rw [if_neg (by rw [h]; decide)]) k
theorem g_nuF {t x : Nat} (hc : z_code y pc = some (nx, .dload t)) (k : z_G S d y nx ls st M r M') : z_G S d y pc ls (.ref x :: st) M r M' := g_step hc rfl k
theorem g_nuT {t : Nat} (hc : z_code y pc = some (nx, .dload t)) (k : z_G S d y t ls st M r M') : z_G S d y pc ls (.null :: st) M r M' := g_step hc rfl k
theorem g_nnT {t x : Nat} (hc : z_code y pc = some (nx, .dstore t)) (k : z_G S d y t ls st M r M') : z_G S d y pc ls (.ref x :: st) M r M' := g_step hc rfl k
theorem g_nnF {t : Nat} (hc : z_code y pc = some (nx, .dstore t)) (k : z_G S d y nx ls st M r M') : z_G S d y pc ls (.null :: st) M r M' := g_step hc rfl k
theorem g_tsO {e lo hi : Int} {offs : Array Int} {x : Int32} (hc : z_code y pc = some (nx, .tableswitch e lo hi offs)) (h : x.toInt < lo ∨ hi < x.toInt) (k : z_G S d y e.toNat ls st M r M') : z_G S d y pc ls (.int x :: st) M r M' := g_step hc (by simp only [z_stp]; rw [if_pos h]) k
theorem g_tsI {e lo hi : Int} {offs : Array Int} {x : Int32} {v : Int} (hc : z_code y pc = some (nx, .tableswitch e lo hi offs)) (h : ¬ (x.toInt < lo ∨ hi < x.toInt)) (ho : offs[(x.toInt - lo).toNat]? = some v) (k : z_G S d y v.toNat ls st M r M') : z_G S d y pc ls (.int x :: st) M r M' := g_step hc (by simp only [z_stp]; rw [if_neg h, ho]) k
theorem g_lk {e : Int} {ps : Array (Int × Int)} {x : Int32} (hc : z_code y pc = some (nx, .lookupswitch e ps)) (k : z_G S d y (Op.lookupswitch.offset ps.toList e x.toInt).toNat ls st M r M') : z_G S d y pc ls (.int x :: st) M r M' := g_step hc rfl k
theorem g_gf {n a ci : Nat} {fs : List Value} {v : Value} (hc : z_code y pc = some (nx, .getfield n)) (hM : M[a]? = some (.inl (ci, fs))) (hci : ci = n / 32) (hf : fs[n % 32]? = some v) (k : z_G S d y nx ls (v :: st) M r M') : z_G S d y pc ls (.ref a :: st) M r M' := g_step hc (by simp only [z_stp]; rw [hM]; (try dsimp only); rw [if_pos hci, hf]) k
theorem g_pf {n a ci : Nat} {fs fs2 : List Value} {v : Value} (hc : z_code y pc = some (nx, .putfield n)) (hM : M[a]? = some (.inl (ci, fs))) (hci : ci = n / 32) (hlen : n % 32 < fs.length) (hft : z_fit (z_fty ci (n % 32)) v = true) (hfi : z_fin ci (n % 32) = false ∨ z_ini y ci = true) (hset : fs.set (n % 32) v = fs2) (k : z_G S d y nx ls st (M.set a (.inl (ci, fs2))) r M') : z_G S d y pc ls (v :: .ref a :: st) M r M' := g_step hc (by simp only [z_stp]; rw [hM]; (try dsimp only); rw [if_pos ⟨hci, hlen, hft, hfi⟩, hset]) k
theorem g_ia {a n : Nat} {f : Nat → Int32} {i : Int32} (hc : z_code y pc = some (nx, .iaload)) (h9 : ¬ a = 1000) (hM : M[a]? = some (.inr (0, n, .inl f))) (hi : z_in i n = true) (k : z_G S d y nx ls (.int (f i.toNatClampNeg) :: st) M r M') : z_G S d y pc ls (.int i :: .ref a :: st) M r M' := g_step hc (by simp only [z_stp]; rw [if_neg h9]; rw [hM]; exact if_pos hi) k
theorem g_ba {a n : Nat} {f : Nat → Int32} {i : Int32} (hc : z_code y pc = some (nx, .baload)) (hM : M[a]? = some (.inr (1, n, .inl f))) (hi : z_in i n = true) (k : z_G S d y nx ls (.int (f i.toNatClampNeg) :: st) M r M') : z_G S d y pc ls (.int i :: .ref a :: st) M r M' := g_step hc (by simp only [z_stp]; rw [hM]; exact if_pos hi) k
theorem g_za {a n : Nat} {f : Nat → Int32} {i : Int32} (hc : z_code y pc = some (nx, .baload)) (hM : M[a]? = some (.inr (2, n, .inl f))) (hi : z_in i n = true) (k : z_G S d y nx ls (.int (f i.toNatClampNeg) :: st) M r M') : z_G S d y pc ls (.int i :: .ref a :: st) M r M' := g_step hc (by simp only [z_stp]; rw [hM]; exact if_pos hi) k
theorem g_ja {a n : Nat} {f : Nat → Int64} {i : Int32} (hc : z_code y pc = some (nx, .laload)) (hM : M[a]? = some (.inr (3, n, .inr (.inl f)))) (hi : z_in i n = true) (k : z_G S d y nx ls (.long (f i.toNatClampNeg) :: st) M r M') : z_G S d y pc ls (.int i :: .ref a :: st) M r M' := g_step hc (by simp only [z_stp]; rw [hM]; exact if_pos hi) k
theorem g_aa4 {a n : Nat} {f : Nat → Option Nat} {i : Int32} (hc : z_code y pc = some (nx, .aaload)) (hM : M[a]? = some (.inr (4, n, .inr (.inr f)))) (hi : z_in i n = true) (k : z_G S d y nx ls (va_rf (f i.toNatClampNeg) :: st) M r M') : z_G S d y pc ls (.int i :: .ref a :: st) M r M' := g_step hc (by simp only [z_stp]; rw [hM]; exact if_pos hi) k
theorem g_aa5 {a n : Nat} {f : Nat → Option Nat} {i : Int32} (hc : z_code y pc = some (nx, .aaload)) (hM : M[a]? = some (.inr (5, n, .inr (.inr f)))) (hi : z_in i n = true) (k : z_G S d y nx ls (va_rf (f i.toNatClampNeg) :: st) M r M') : z_G S d y pc ls (.int i :: .ref a :: st) M r M' := g_step hc (by simp only [z_stp]; rw [hM]; exact if_pos hi) k
theorem g_sa {i : Int32} (hc : z_code y pc = some (nx, .iaload)) (hi : z_in i S.1 = true) (k : z_G S d y nx ls (.int (S.2 i.toNatClampNeg) :: st) M r M') : z_G S d y pc ls (.int i :: .ref 1000 :: st) M r M' := g_step hc (by simp only [z_stp]; rw [if_pos trivial, if_pos hi]) k
theorem g_iS {a n : Nat} {f : Nat → Int32} {i : Int32} {x : Int32} (hc : z_code y pc = some (nx, .iastore)) (hM : M[a]? = some (.inr (0, n, .inl f))) (hi : z_in i n = true) (k : z_G S d y nx ls st (M.set a (.inr (0, n, .inl (upd f i.toNatClampNeg x)))) r M') : z_G S d y pc ls (.int x :: .int i :: .ref a :: st) M r M' := g_step hc (by simp only [z_stp]; rw [hM]; exact if_pos hi) k
theorem g_bS {a n : Nat} {f : Nat → Int32} {i : Int32} {x : Int32} (hc : z_code y pc = some (nx, .bastore)) (hM : M[a]? = some (.inr (1, n, .inl f))) (hi : z_in i n = true) (k : z_G S d y nx ls st (M.set a (.inr (1, n, .inl (upd f i.toNatClampNeg (vp_nar .byte x))))) r M') : z_G S d y pc ls (.int x :: .int i :: .ref a :: st) M r M' := g_step hc (by simp only [z_stp]; rw [hM]; exact if_pos hi) k
theorem g_zS {a n : Nat} {f : Nat → Int32} {i : Int32} {x : Int32} (hc : z_code y pc = some (nx, .bastore)) (hM : M[a]? = some (.inr (2, n, .inl f))) (hi : z_in i n = true) (k : z_G S d y nx ls st (M.set a (.inr (2, n, .inl (upd f i.toNatClampNeg (vp_nar .boolean x))))) r M') : z_G S d y pc ls (.int x :: .int i :: .ref a :: st) M r M' := g_step hc (by simp only [z_stp]; rw [hM]; exact if_pos hi) k
theorem g_jS {a n : Nat} {f : Nat → Int64} {i : Int32} {x : Int64} (hc : z_code y pc = some (nx, .lastore)) (hM : M[a]? = some (.inr (3, n, .inr (.inl f)))) (hi : z_in i n = true) (k : z_G S d y nx ls st (M.set a (.inr (3, n, .inr (.inl (vp_updL f i.toNatClampNeg x))))) r M') : z_G S d y pc ls (.long x :: .int i :: .ref a :: st) M r M' := g_step hc (by simp only [z_stp]; rw [hM]; exact if_pos hi) k
theorem g_aS4 {a n x : Nat} {f : Nat → Option Nat} {i : Int32} {fs : List Value} (hc : z_code y pc = some (nx, .aastore)) (hM : M[a]? = some (.inr (4, n, .inr (.inr f)))) (hX : M[x]? = some (.inl (0, fs))) (hi : z_in i n = true) (k : z_G S d y nx ls st (M.set a (.inr (4, n, .inr (.inr (va_up f i.toNatClampNeg (some x)))))) r M') : z_G S d y pc ls (.ref x :: .int i :: .ref a :: st) M r M' := g_step hc (by simp only [z_stp]; rw [hM, hX]; exact if_pos hi) k
theorem g_aS5 {a n x : Nat} {f : Nat → Option Nat} {i : Int32} {fs : List Value} (hc : z_code y pc = some (nx, .aastore)) (hM : M[a]? = some (.inr (5, n, .inr (.inr f)))) (hX : M[x]? = some (.inl (2, fs))) (hi : z_in i n = true) (k : z_G S d y nx ls st (M.set a (.inr (5, n, .inr (.inr (va_up f i.toNatClampNeg (some x)))))) r M') : z_G S d y pc ls (.ref x :: .int i :: .ref a :: st) M r M' := g_step hc (by simp only [z_stp]; rw [hM, hX]; exact if_pos hi) k
theorem g_len0 {a n : Nat} {f : Nat → Int32} (hc : z_code y pc = some (nx, .arraylength)) (h9 : ¬ a = 1000) (hM : M[a]? = some (.inr (0, n, .inl f))) (k : z_G S d y nx ls (.int (zI (n : Int)) :: st) M r M') : z_G S d y pc ls (.ref a :: st) M r M' := g_step hc (by simp only [z_stp]; rw [if_neg h9, hM]; rfl) k
theorem g_len3 {a n : Nat} {f : Nat → Int64} (hc : z_code y pc = some (nx, .arraylength)) (h9 : ¬ a = 1000) (hM : M[a]? = some (.inr (3, n, .inr (.inl f)))) (k : z_G S d y nx ls (.int (zI (n : Int)) :: st) M r M') : z_G S d y pc ls (.ref a :: st) M r M' := g_step hc (by simp only [z_stp]; rw [if_neg h9, hM]; rfl) k
theorem g_slen (hc : z_code y pc = some (nx, .arraylength)) (k : z_G S d y nx ls (.int (zI (S.1 : Int)) :: st) M r M') : z_G S d y pc ls (.ref 1000 :: st) M r M' := g_step hc (by simp only [z_stp]; rw [if_pos trivial]; rfl) k
theorem g_obj {a : Nat} (hc : z_code y pc = some (nx, .monitorenter)) (h8 : z_cat st = true) (k : z_G S d y nx ls st M r M') : z_G S d y pc ls (.ref a :: st) M r M' := g_step hc (by simp only [z_stp]; rw [if_pos h8]) k
theorem g_cpy {a a2 n0 n1 : Nat} {f g : Nat → Int32} {n dp sq : Int32} (hc : z_code y pc = some (nx, .athrow)) (hM : M[a]? = some (.inr (0, n0, .inl f))) (hM2 : M[a2]? = some (.inr (0, n1, .inl g))) (h : ¬ (sq < 0 ∨ dp < 0 ∨ n < 0 ∨ n0 < sq.toNatClampNeg + n.toNatClampNeg ∨ n1 < dp.toNatClampNeg + n.toNatClampNeg ∨ z_cat st = false)) (k : z_G S d y nx ls st (M.set a2 (.inr (0, n1, .inl (va_cpy f g sq.toNatClampNeg dp.toNatClampNeg n.toNatClampNeg)))) r M') : z_G S d y pc ls (.int n :: .int dp :: .ref a2 :: .int sq :: .ref a :: st) M r M' := g_step hc (by simp only [z_stp]; rw [hM, hM2]; exact if_neg h) k
theorem g_max {a b : Int32} (hc : z_code y pc = some (nx, .dadd)) (h8 : z_cat st = true) (k : z_G S d y nx ls (.int (if a < b then b else a) :: st) M r M') : z_G S d y pc ls (.int b :: .int a :: st) M r M' := g_step hc (by simp only [z_stp]; rw [if_pos h8]) k
theorem g_min {a b : Int32} (hc : z_code y pc = some (nx, .dsub)) (h8 : z_cat st = true) (k : z_G S d y nx ls (.int (if b < a then b else a) :: st) M r M') : z_G S d y pc ls (.int b :: .int a :: st) M r M' := g_step hc (by simp only [z_stp]; rw [if_pos h8]) k
theorem g_sl {a : Nat} (hc : z_code y pc = some (nx, .saload)) (h : 1001 ≤ a ∧ a < 1004 ∧ z_cat st = true) (k : z_G S d y nx ls (.int (zI (z_wlen (a - 1001) : Int)) :: st) M r M') : z_G S d y pc ls (.ref a :: st) M r M' := g_step hc (by simp only [z_stp]; rw [if_pos h]; rfl) k
theorem g_sc {a : Nat} {i : Int32} (hc : z_code y pc = some (nx, .sastore)) (h : 1001 ≤ a ∧ a < 1004 ∧ z_in i (z_wlen (a - 1001)) = true ∧ z_cat st = true) (k : z_G S d y nx ls (.int ((z_wch (a - 1001)).getD i.toNatClampNeg 0) :: st) M r M') : z_G S d y pc ls (.int i :: .ref a :: st) M r M' := g_step hc (by simp only [z_stp]; rw [if_pos h]) k
theorem g_reti {v : Int32} (hc : z_code y pc = some (nx, .ireturn)) (hr : r = some (.int v)) (hok : z_rok y (.int v) = true) : z_G S d y pc ls [.int v] M r M := by
  subst hr
  exact g_ret hc (by simp only [z_stp]; rw [if_pos hok])
theorem g_retl {v : Int64} (hc : z_code y pc = some (nx, .lreturn)) (hr : r = some (.long v)) (hok : z_rok y (.long v) = true) : z_G S d y pc ls [.long v] M r M := by
  subst hr
  exact g_ret hc (by simp only [z_stp]; rw [if_pos hok])
theorem g_reta {v : Nat} (hc : z_code y pc = some (nx, .areturn)) (hr : r = some (.ref v)) (hok : z_rok y (.ref v) = true) : z_G S d y pc ls [.ref v] M r M := by
  subst hr
  exact g_ret hc (by simp only [z_stp]; rw [if_pos hok])
theorem g_retn (hc : z_code y pc = some (nx, .areturn)) (hr : r = some .null) (hok : z_rok y .null = true) : z_G S d y pc ls [.null] M r M := by
  subst hr
  exact g_ret hc (by simp only [z_stp]; rw [if_pos hok])
theorem g_retv (hc : z_code y pc = some (nx, .return_)) (hr : r = none) (hok : (z_mt y).2.2.2.1 = none) : z_G S d y pc ls [] M r M := by
  subst hr
  exact g_ret hc (by simp only [z_stp]; rw [hok])
/-- calls: the arguments as they lie on the stack -/
theorem g_cs {q n : Nat} {as rest : List Value} {r1 : Option Value} {M1 : ZM} (hc : z_code y pc = some (nx, .invokestatic q)) (hn : (z_mt q).2.2.2.2.1 = n) (h99 : (z_mt q).2.2.2.2.2 = 99) (hle : n ≤ st.length) (has : (st.take n).reverse = as) (hrs : st.drop n = rest) (h8 : z_cat rest = true) (hcal : z_C S d q as M r1 M1) (k : z_G S (d + 1) y nx ls (r1.toList ++ rest) M1 r M') : z_G S (d + 1) y pc ls st M r M' := by
  subst hn has hrs
  exact g_call hc (by simp only [z_stp]; rw [if_pos ⟨hle, h99, h8⟩]) hcal k
theorem g_cv {q n a ci : Nat} {fs : List Value} {as rest : List Value} {r1 : Option Value} {M1 : ZM} (hc : z_code y pc = some (nx, .invokevirtual q)) (hn : (z_mt q).2.2.2.2.1 = n) (hrs : st.drop n = .ref a :: rest) (has : (st.take n).reverse = as) (hM : M[a]? = some (.inl (ci, fs))) (hci : ci = (z_mt q).2.2.2.2.2) (h7 : ci < 7) (h8 : z_cat rest = true) (hcal : z_C S d q (.ref a :: as) M r1 M1) (k : z_G S (d + 1) y nx ls (r1.toList ++ rest) M1 r M') : z_G S (d + 1) y pc ls st M r M' := by
  subst hn has
  exact g_call hc (by simp only [z_stp]; rw [hrs]; (try dsimp only); rw [hM]; (try dsimp only); rw [if_pos ⟨hci, h7, h8⟩]) hcal k
theorem g_cx {q n a : Nat} {as rest : List Value} {r1 : Option Value} {M1 : ZM} (hc : z_code y pc = some (nx, .invokespecial q)) (hn : (z_mt q).2.2.2.2.1 = n) (hrs : st.drop n = .ref a :: rest) (has : (st.take n).reverse = as) (h8 : z_cat rest = true) (hi : (z_mt q).1.name = "<init>") (hv : (z_mt q).2.2.2.1 = none) (hcal : z_C S d q (.ref a :: as) M r1 M1) (k : z_G S (d + 1) y nx ls (r1.toList ++ rest) M1 r M') : z_G S (d + 1) y pc ls st M r M' := by
  subst hn has
  exact g_call hc (by simp only [z_stp]; rw [hrs]; (try dsimp only); rw [if_pos ⟨h8, hi, hv⟩]) hcal k
end ZG
end
section
/-! whole numbers as ints -/
abbrev z_sm (a : Int) : Prop := -2147483648 ≤ a ∧ a ≤ 2147483647
theorem zI_0 : zI 0 = 0 := rfl
theorem zI_add (a b : Int) : zI a + zI b = zI (a + b) := (Int32.ofInt_add a b).symm
theorem zI_sub (a b : Int) : zI a - zI b = zI (a - b) := (Int32.ofInt_sub a b).symm
theorem zI_mul (a b : Int) : zI a * zI b = zI (a * b) := (Int32.ofInt_mul a b).symm
theorem zI_toInt {a : Int} (h : z_sm a) : (zI a).toInt = a := Int32.toInt_ofInt_of_le (by omega) (by omega)
theorem zI_lt {a b : Int} (ha : z_sm a) (hb : z_sm b) : zI a < zI b ↔ a < b := by rw [Int32.lt_iff_toInt_lt, zI_toInt ha, zI_toInt hb]
theorem zI_le {a b : Int} (ha : z_sm a) (hb : z_sm b) : zI a ≤ zI b ↔ a ≤ b := by rw [Int32.le_iff_toInt_le, zI_toInt ha, zI_toInt hb]
theorem zI_eq {a b : Int} (ha : z_sm a) (hb : z_sm b) : zI a = zI b ↔ a = b := by rw [← Int32.toInt_inj, zI_toInt ha, zI_toInt hb]
theorem zI_cl {a : Int} (h : z_sm a) : (zI a).toNatClampNeg = a.toNat := by
  unfold Int32.toNatClampNeg
  rw [zI_toInt h]
theorem zI_in {a : Int} {n : Nat} (h0 : 0 ≤ a) (hn : a < n) (h : a ≤ 1000000000) : z_in (zI a) n = true := by
  have hs : z_sm a := ⟨by omega, by omega⟩
  unfold z_in
  rw [zI_cl hs]
  have h1 : ¬ zI a < 0 := by
    rw [← zI_0, zI_lt hs ⟨by omega, by omega⟩]
    omega
  have h2 : ¬ n ≤ a.toNat := by omega
  simp [h1, h2]
theorem zI_div {a b : Int} (ha : 0 ≤ a ∧ a ≤ 1000000000) (hb : 0 < b ∧ b ≤ 1000000000) : zI a / zI b = zI (a / b) := by
  have h : Int32.ofInt (a.tdiv b) = Int32.ofInt a / Int32.ofInt b := Int32.ofInt_tdiv (by show (-2147483648 : Int) ≤ a; omega) (by show a ≤ 2147483647; omega) (by show (-2147483648 : Int) ≤ b; omega) (by show b ≤ 2147483647; omega)
  rw [Int.tdiv_eq_ediv_of_nonneg ha.1] at h
  exact h.symm
theorem zI_rem {a b : Int} (ha : 0 ≤ a ∧ a ≤ 1000000000) (hb : 0 < b ∧ b ≤ 1000000000) : zI a - zI a / zI b * zI b = zI (a % b) := by
  rw [zI_div ha hb, zI_mul, zI_sub]
  congr 1
  rw [Int.emod_def, Int.mul_comm]
theorem zI_ne0 {b : Int} (hb : z_sm b) (h : b ≠ 0) : ¬ zI b = 0 := by
  rw [← zI_0, zI_eq hb ⟨by omega, by omega⟩]
  exact h
theorem zcT0 {a b : Int} (h : a = b) : z_cc 0 (zI a) (zI b) = true := decide_eq_true (by rw [h])
theorem zcF0 {a b : Int} (ha : z_sm a) (hb : z_sm b) (h : ¬ a = b) : z_cc 0 (zI a) (zI b) = false := decide_eq_false (by rw [zI_eq ha hb]; exact h)
theorem zcT1 {a b : Int} (ha : z_sm a) (hb : z_sm b) (h : ¬ a = b) : z_cc 1 (zI a) (zI b) = true := by
  show (!decide (zI a = zI b)) = true
  rw [decide_eq_false (by rw [zI_eq ha hb]; exact h)]
  rfl
theorem zcF1 {a b : Int} (h : a = b) : z_cc 1 (zI a) (zI b) = false := by
  show (!decide (zI a = zI b)) = false
  rw [decide_eq_true (by rw [h])]
  rfl
theorem zcT2 {a b : Int} (ha : z_sm a) (hb : z_sm b) (h : a < b) : z_cc 2 (zI a) (zI b) = true := decide_eq_true (by rw [zI_lt ha hb]; exact h)
theorem zcF2 {a b : Int} (ha : z_sm a) (hb : z_sm b) (h : ¬ a < b) : z_cc 2 (zI a) (zI b) = false := decide_eq_false (by rw [zI_lt ha hb]; exact h)
theorem zcT3 {a b : Int} (ha : z_sm a) (hb : z_sm b) (h : ¬ a < b) : z_cc 3 (zI a) (zI b) = true := decide_eq_true (by rw [zI_le hb ha]; omega)
theorem zcF3 {a b : Int} (ha : z_sm a) (hb : z_sm b) (h : a < b) : z_cc 3 (zI a) (zI b) = false := decide_eq_false (by rw [zI_le hb ha]; omega)
theorem zcT4 {a b : Int} (ha : z_sm a) (hb : z_sm b) (h : b < a) : z_cc 4 (zI a) (zI b) = true := decide_eq_true (by rw [zI_lt hb ha]; exact h)
theorem zcF4 {a b : Int} (ha : z_sm a) (hb : z_sm b) (h : ¬ b < a) : z_cc 4 (zI a) (zI b) = false := decide_eq_false (by rw [zI_lt hb ha]; exact h)
theorem zcT5 {a b : Int} (ha : z_sm a) (hb : z_sm b) (h : ¬ b < a) : z_cc 5 (zI a) (zI b) = true := decide_eq_true (by rw [zI_le ha hb]; omega)
theorem zcF5 {a b : Int} (ha : z_sm a) (hb : z_sm b) (h : b < a) : z_cc 5 (zI a) (zI b) = false := decide_eq_false (by rw [zI_le ha hb]; omega)
/-- every int is such a number -/
theorem zI_of (x : Int32) : ∃ a : Int, x = zI a ∧ -2147483648 ≤ a ∧ a ≤ 2147483647 := ⟨x.toInt, (Int32.ofInt_toInt x).symm, Int32.le_toInt x, by have := Int32.toInt_lt x; omega⟩
theorem z_gs {M : ZM} {a : Nat} {x e : ZE} (h : M[a]? = some x) : (M.set a e)[a]? = some e := by
  rw [List.getElem?_set_self]
  exact (List.getElem?_eq_some_iff.mp h).1
theorem z_gn {M : ZM} {a b : Nat} {e : ZE} {x : Option ZE} (h : a ≠ b) (h2 : M[b]? = x) : (M.set a e)[b]? = x := by
  rw [List.getElem?_set_ne h]
  exact h2
section ZGI
variable {S : ZS} {d y pc nx : Nat} {ls : ZL} {st : List Value} {M M' : ZM} {r : Option Value}
theorem g_addI {a b : Int} (hc : z_code y pc = some (nx, .iadd)) (k : z_G S d y nx ls (.int (zI (a + b)) :: st) M r M') : z_G S d y pc ls (.int (zI b) :: .int (zI a) :: st) M r M' := g_iadd hc (by rw [zI_add]; exact k)
theorem g_subI {a b : Int} (hc : z_code y pc = some (nx, .isub)) (k : z_G S d y nx ls (.int (zI (a - b)) :: st) M r M') : z_G S d y pc ls (.int (zI b) :: .int (zI a) :: st) M r M' := g_isub hc (by rw [zI_sub]; exact k)
theorem g_mulI {a b : Int} (hc : z_code y pc = some (nx, .imul)) (k : z_G S d y nx ls (.int (zI (a * b)) :: st) M r M') : z_G S d y pc ls (.int (zI b) :: .int (zI a) :: st) M r M' := g_imul hc (by rw [zI_mul]; exact k)
theorem g_divI {a b : Int} (hc : z_code y pc = some (nx, .idiv)) (ha : 0 ≤ a ∧ a ≤ 1000000000) (hb : 0 < b ∧ b ≤ 1000000000) (k : z_G S d y nx ls (.int (zI (a / b)) :: st) M r M') : z_G S d y pc ls (.int (zI b) :: .int (zI a) :: st) M r M' := g_idiv hc (zI_ne0 ⟨by omega, by omega⟩ (by omega)) (by rw [zI_div ha hb]; exact k)
theorem g_remI {a b : Int} (hc : z_code y pc = some (nx, .irem)) (ha : 0 ≤ a ∧ a ≤ 1000000000) (hb : 0 < b ∧ b ≤ 1000000000) (k : z_G S d y nx ls (.int (zI (a % b)) :: st) M r M') : z_G S d y pc ls (.int (zI b) :: .int (zI a) :: st) M r M' := g_irem hc (zI_ne0 ⟨by omega, by omega⟩ (by omega)) (by rw [zI_rem ha hb]; exact k)
theorem g_jj0 {t : ZL} {a n : Int} (hc : z_code y pc = some (nx, .iinc 0 n)) (k : z_G S d y nx (some (.int (zI (a + n))) :: t) st M r M') : z_G S d y pc (some (.int (zI a)) :: t) st M r M' := g_ii0 hc (by rw [zI_add]; exact k)
theorem g_jj1 {v0 : Option Value} {t : ZL} {a n : Int} (hc : z_code y pc = some (nx, .iinc 1 n)) (hv : z_nl v0 = true) (k : z_G S d y nx (v0 :: some (.int (zI (a + n))) :: t) st M r M') : z_G S d y pc (v0 :: some (.int (zI a)) :: t) st M r M' := g_ii1 hc hv (by rw [zI_add]; exact k)
theorem g_jj2 {v0 v1 : Option Value} {t : ZL} {a n : Int} (hc : z_code y pc = some (nx, .iinc 2 n)) (hv : z_nl v1 = true) (k : z_G S d y nx (v0 :: v1 :: some (.int (zI (a + n))) :: t) st M r M') : z_G S d y pc (v0 :: v1 :: some (.int (zI a)) :: t) st M r M' := g_ii2 hc hv (by rw [zI_add]; exact k)
theorem g_jj3 {v0 v1 v2 : Option Value} {t : ZL} {a n : Int} (hc : z_code y pc = some (nx, .iinc 3 n)) (hv : z_nl v2 = true) (k : z_G S d y nx (v0 :: v1 :: v2 :: some (.int (zI (a + n))) :: t) st M r M') : z_G S d y pc (v0 :: v1 :: v2 :: some (.int (zI a)) :: t) st M r M' := g_ii3 hc hv (by rw [zI_add]; exact k)
theorem g_jj4 {v0 v1 v2 v3 : Option Value} {t : ZL} {a n : Int} (hc : z_code y pc = some (nx, .iinc 4 n)) (hv : z_nl v3 = true) (k : z_G S d y nx (v0 :: v1 :: v2 :: v3 :: some (.int (zI (a + n))) :: t) st M r M') : z_G S d y pc (v0 :: v1 :: v2 :: v3 :: some (.int (zI a)) :: t) st M r M' := g_ii4 hc hv (by rw [zI_add]; exact k)
theorem g_jj5 {v0 v1 v2 v3 v4 : Option Value} {t : ZL} {a n : Int} (hc : z_code y pc = some (nx, .iinc 5 n)) (hv : z_nl v4 = true) (k : z_G S d y nx (v0 :: v1 :: v2 :: v3 :: v4 :: some (.int (zI (a + n))) :: t) st M r M') : z_G S d y pc (v0 :: v1 :: v2 :: v3 :: v4 :: some (.int (zI a)) :: t) st M r M' := g_ii5 hc hv (by rw [zI_add]; exact k)
theorem g_jj6 {v0 v1 v2 v3 v4 v5 : Option Value} {t : ZL} {a n : Int} (hc : z_code y pc = some (nx, .iinc 6 n)) (hv : z_nl v5 = true) (k : z_G S d y nx (v0 :: v1 :: v2 :: v3 :: v4 :: v5 :: some (.int (zI (a + n))) :: t) st M r M') : z_G S d y pc (v0 :: v1 :: v2 :: v3 :: v4 :: v5 :: some (.int (zI a)) :: t) st M r M' := g_ii6 hc hv (by rw [zI_add]; exact k)
theorem g_jj7 {v0 v1 v2 v3 v4 v5 v6 : Option Value} {t : ZL} {a n : Int} (hc : z_code y pc = some (nx, .iinc 7 n)) (hv : z_nl v6 = true) (k : z_G S d y nx (v0 :: v1 :: v2 :: v3 :: v4 :: v5 :: v6 :: some (.int (zI (a + n))) :: t) st M r M') : z_G S d y pc (v0 :: v1 :: v2 :: v3 :: v4 :: v5 :: v6 :: some (.int (zI a)) :: t) st M r M' := g_ii7 hc hv (by rw [zI_add]; exact k)
theorem g_jj8 {v0 v1 v2 v3 v4 v5 v6 v7 : Option Value} {t : ZL} {a n : Int} (hc : z_code y pc = some (nx, .iinc 8 n)) (hv : z_nl v7 = true) (k : z_G S d y nx (v0 :: v1 :: v2 :: v3 :: v4 :: v5 :: v6 :: v7 :: some (.int (zI (a + n))) :: t) st M r M') : z_G S d y pc (v0 :: v1 :: v2 :: v3 :: v4 :: v5 :: v6 :: v7 :: some (.int (zI a)) :: t) st M r M' := g_ii8 hc hv (by rw [zI_add]; exact k)
theorem g_jj9 {v0 v1 v2 v3 v4 v5 v6 v7 v8 : Option Value} {t : ZL} {a n : Int} (hc : z_code y pc = some (nx, .iinc 9 n)) (hv : z_nl v8 = true) (k : z_G S d y nx (v0 :: v1 :: v2 :: v3 :: v4 :: v5 :: v6 :: v7 :: v8 :: some (.int (zI (a + n))) :: t) st M r M') : z_G S d y pc (v0 :: v1 :: v2 :: v3 :: v4 :: v5 :: v6 :: v7 :: v8 :: some (.int (zI a)) :: t) st M r M' := g_ii9 hc hv (by rw [zI_add]; exact k)
theorem g_jj10 {v0 v1 v2 v3 v4 v5 v6 v7 v8 v9 : Option Value} {t : ZL} {a n : Int} (hc : z_code y pc = some (nx, .iinc 10 n)) (hv : z_nl v9 = true) (k : z_G S d y nx (v0 :: v1 :: v2 :: v3 :: v4 :: v5 :: v6 :: v7 :: v8 :: v9 :: some (.int (zI (a + n))) :: t) st M r M') : z_G S d y pc (v0 :: v1 :: v2 :: v3 :: v4 :: v5 :: v6 :: v7 :: v8 :: v9 :: some (.int (zI a)) :: t) st M r M' := g_ii10 hc hv (by rw [zI_add]; exact k)
theorem g_jj11 {v0 v1 v2 v3 v4 v5 v6 v7 v8 v9 v10 : Option Value} {t : ZL} {a n : Int} (hc : z_code y pc = some (nx, .iinc 11 n)) (hv : z_nl v10 = true) (k : z_G S d y nx (v0 :: v1 :: v2 :: v3 :: v4 :: v5 :: v6 :: v7 :: v8 :: v9 :: v10 :: some (.int (zI (a + n))) :: t) st M r M') : z_G S d y pc (v0 :: v1 :: v2 :: v3 :: v4 :: v5 :: v6 :: v7 :: v8 :: v9 :: v10 :: some (.int (zI a)) :: t) st M r M' := g_ii11 hc hv (by rw [zI_add]; exact k)
theorem g_jj12 {v0 v1 v2 v3 v4 v5 v6 v7 v8 v9 v10 v11 : Option Value} {t : ZL} {a n : Int} (hc : z_code y pc = some (nx, .iinc 12 n)) (hv : z_nl v11 = true) (k : z_G S d y nx (v0 :: v1 :: v2 :: v3 :: v4 :: v5 :: v6 :: v7 :: v8 :: v9 :: v10 :: v11 :: some (.int (zI (a + n))) :: t) st M r M') : z_G S d y pc (v0 :: v1 :: v2 :: v3 :: v4 :: v5 :: v6 :: v7 :: v8 :: v9 :: v10 :: v11 :: some (.int (zI a)) :: t) st M r M' := g_ii12 hc hv (by rw [zI_add]; exact k)
theorem g_iaI {a n : Nat} {f : Nat → Int32} {i : Int} (hc : z_code y pc = some (nx, .iaload)) (h9 : ¬ a = 1000) (hM : M[a]? = some (.inr (0, n, .inl f))) (h0 : 0 ≤ i) (hn : i < n) (hs : i ≤ 1000000000) (k : z_G S d y nx ls (.int (f i.toNat) :: st) M r M') : z_G S d y pc ls (.int (zI i) :: .ref a :: st) M r M' := g_ia hc h9 hM (zI_in h0 hn hs) (by rw [zI_cl ⟨by omega, by omega⟩]; exact k)
theorem g_baI {a n : Nat} {f : Nat → Int32} {i : Int} (hc : z_code y pc = some (nx, .baload)) (hM : M[a]? = some (.inr (1, n, .inl f))) (h0 : 0 ≤ i) (hn : i < n) (hs : i ≤ 1000000000) (k : z_G S d y nx ls (.int (f i.toNat) :: st) M r M') : z_G S d y pc ls (.int (zI i) :: .ref a :: st) M r M' := g_ba hc hM (zI_in h0 hn hs) (by rw [zI_cl ⟨by omega, by omega⟩]; exact k)
theorem g_zaI {a n : Nat} {f : Nat → Int32} {i : Int} (hc : z_code y pc = some (nx, .baload)) (hM : M[a]? = some (.inr (2, n, .inl f))) (h0 : 0 ≤ i) (hn : i < n) (hs : i ≤ 1000000000) (k : z_G S d y nx ls (.int (f i.toNat) :: st) M r M') : z_G S d y pc ls (.int (zI i) :: .ref a :: st) M r M' := g_za hc hM (zI_in h0 hn hs) (by rw [zI_cl ⟨by omega, by omega⟩]; exact k)
theorem g_jaI {a n : Nat} {f : Nat → Int64} {i : Int} (hc : z_code y pc = some (nx, .laload)) (hM : M[a]? = some (.inr (3, n, .inr (.inl f)))) (h0 : 0 ≤ i) (hn : i < n) (hs : i ≤ 1000000000) (k : z_G S d y nx ls (.long (f i.toNat) :: st) M r M') : z_G S d y pc ls (.int (zI i) :: .ref a :: st) M r M' := g_ja hc hM (zI_in h0 hn hs) (by rw [zI_cl ⟨by omega, by omega⟩]; exact k)
theorem g_aaI4 {a n : Nat} {f : Nat → Option Nat} {i : Int} {v : Value} (hc : z_code y pc = some (nx, .aaload)) (hM : M[a]? = some (.inr (4, n, .inr (.inr f)))) (h0 : 0 ≤ i) (hn : i < n) (hs : i ≤ 1000000000) (hv : va_rf (f i.toNat) = v) (k : z_G S d y nx ls (v :: st) M r M') : z_G S d y pc ls (.int (zI i) :: .ref a :: st) M r M' := g_aa4 hc hM (zI_in h0 hn hs) (by rw [zI_cl ⟨by omega, by omega⟩, hv]; exact k)
theorem g_aaI5 {a n : Nat} {f : Nat → Option Nat} {i : Int} {v : Value} (hc : z_code y pc = some (nx, .aaload)) (hM : M[a]? = some (.inr (5, n, .inr (.inr f)))) (h0 : 0 ≤ i) (hn : i < n) (hs : i ≤ 1000000000) (hv : va_rf (f i.toNat) = v) (k : z_G S d y nx ls (v :: st) M r M') : z_G S d y pc ls (.int (zI i) :: .ref a :: st) M r M' := g_aa5 hc hM (zI_in h0 hn hs) (by rw [zI_cl ⟨by omega, by omega⟩, hv]; exact k)
theorem g_iSI {a n : Nat} {f : Nat → Int32} {i : Int} {x : Int32} (hc : z_code y pc = some (nx, .iastore)) (hM : M[a]? = some (.inr (0, n, .inl f))) (h0 : 0 ≤ i) (hn : i < n) (hs : i ≤ 1000000000) (k : z_G S d y nx ls st (M.set a (.inr (0, n, .inl (upd f i.toNat x)))) r M') : z_G S d y pc ls (.int x :: .int (zI i) :: .ref a :: st) M r M' := g_iS hc hM (zI_in h0 hn hs) (by rw [zI_cl ⟨by omega, by omega⟩]; exact k)
theorem g_bSI {a n : Nat} {f : Nat → Int32} {i : Int} {x : Int32} (hc : z_code y pc = some (nx, .bastore)) (hM : M[a]? = some (.inr (1, n, .inl f))) (h0 : 0 ≤ i) (hn : i < n) (hs : i ≤ 1000000000) (k : z_G S d y nx ls st (M.set a (.inr (1, n, .inl (upd f i.toNat (vp_nar .byte x))))) r M') : z_G S d y pc ls (.int x :: .int (zI i) :: .ref a :: st) M r M' := g_bS hc hM (zI_in h0 hn hs) (by rw [zI_cl ⟨by omega, by omega⟩]; exact k)
theorem g_zSI {a n : Nat} {f : Nat → Int32} {i : Int} {x : Int32} (hc : z_code y pc = some (nx, .bastore)) (hM : M[a]? = some (.inr (2, n, .inl f))) (h0 : 0 ≤ i) (hn : i < n) (hs : i ≤ 1000000000) (k : z_G S d y nx ls st (M.set a (.inr (2, n, .inl (upd f i.toNat (vp_nar .boolean x))))) r M') : z_G S d y pc ls (.int x :: .int (zI i) :: .ref a :: st) M r M' := g_zS hc hM (zI_in h0 hn hs) (by rw [zI_cl ⟨by omega, by omega⟩]; exact k)
theorem g_jSI {a n : Nat} {f : Nat → Int64} {i : Int} {x : Int64} (hc : z_code y pc = some (nx, .lastore)) (hM : M[a]? = some (.inr (3, n, .inr (.inl f)))) (h0 : 0 ≤ i) (hn : i < n) (hs : i ≤ 1000000000) (k : z_G S d y nx ls st (M.set a (.inr (3, n, .inr (.inl (vp_updL f i.toNat x))))) r M') : z_G S d y pc ls (.long x :: .int (zI i) :: .ref a :: st) M r M' := g_jS hc hM (zI_in h0 hn hs) (by rw [zI_cl ⟨by omega, by omega⟩]; exact k)
end ZGI
section ZPF
variable {S : ZS} {d y pc nx : Nat} {ls : ZL} {st : List Value} {M M' : ZM} {r : Option Value}
theorem g_pf0 {n a ci : Nat} {v0 v : Value} {t : List Value} (hc : z_code y pc = some (nx, .putfield n)) (hM : M[a]? = some (.inl (ci, (v0 :: t)))) (hci : ci = n / 32) (hk : n % 32 = 0) (hft : z_fit (z_fty ci 0) v = true) (hfi : z_fin ci 0 = false ∨ z_ini y ci = true) (k : z_G S d y nx ls st (M.set a (.inl (ci, (v :: t)))) r M') : z_G S d y pc ls (v :: .ref a :: st) M r M' := g_pf hc hM hci (by rw [hk]; simp) (by rw [hk]; exact hft) (by rw [hk]; exact hfi) (by rw [hk]; rfl) k
theorem g_pf1 {n a ci : Nat} {v0 v1 v : Value} {t : List Value} (hc : z_code y pc = some (nx, .putfield n)) (hM : M[a]? = some (.inl (ci, (v0 :: v1 :: t)))) (hci : ci = n / 32) (hk : n % 32 = 1) (hft : z_fit (z_fty ci 1) v = true) (hfi : z_fin ci 1 = false ∨ z_ini y ci = true) (k : z_G S d y nx ls st (M.set a (.inl (ci, (v0 :: v :: t)))) r M') : z_G S d y pc ls (v :: .ref a :: st) M r M' := g_pf hc hM hci (by rw [hk]; simp) (by rw [hk]; exact hft) (by rw [hk]; exact hfi) (by rw [hk]; rfl) k
theorem g_pf2 {n a ci : Nat} {v0 v1 v2 v : Value} {t : List Value} (hc : z_code y pc = some (nx, .putfield n)) (hM : M[a]? = some (.inl (ci, (v0 :: v1 :: v2 :: t)))) (hci : ci = n / 32) (hk : n % 32 = 2) (hft : z_fit (z_fty ci 2) v = true) (hfi : z_fin ci 2 = false ∨ z_ini y ci = true) (k : z_G S d y nx ls st (M.set a (.inl (ci, (v0 :: v1 :: v :: t)))) r M') : z_G S d y pc ls (v :: .ref a :: st) M r M' := g_pf hc hM hci (by rw [hk]; simp) (by rw [hk]; exact hft) (by rw [hk]; exact hfi) (by rw [hk]; rfl) k
theorem g_pf3 {n a ci : Nat} {v0 v1 v2 v3 v : Value} {t : List Value} (hc : z_code y pc = some (nx, .putfield n)) (hM : M[a]? = some (.inl (ci, (v0 :: v1 :: v2 :: v3 :: t)))) (hci : ci = n / 32) (hk : n % 32 = 3) (hft : z_fit (z_fty ci 3) v = true) (hfi : z_fin ci 3 = false ∨ z_ini y ci = true) (k : z_G S d y nx ls st (M.set a (.inl (ci, (v0 :: v1 :: v2 :: v :: t)))) r M') : z_G S d y pc ls (v :: .ref a :: st) M r M' := g_pf hc hM hci (by rw [hk]; simp) (by rw [hk]; exact hft) (by rw [hk]; exact hfi) (by rw [hk]; rfl) k
theorem g_pf4 {n a ci : Nat} {v0 v1 v2 v3 v4 v : Value} {t : List Value} (hc : z_code y pc = some (nx, .putfield n)) (hM : M[a]? = some (.inl (ci, (v0 :: v1 :: v2 :: v3 :: v4 :: t)))) (hci : ci = n / 32) (hk : n % 32 = 4) (hft : z_fit (z_fty ci 4) v = true) (hfi : z_fin ci 4 = false ∨ z_ini y ci = true) (k : z_G S d y nx ls st (M.set a (.inl (ci, (v0 :: v1 :: v2 :: v3 :: v :: t)))) r M') : z_G S d y pc ls (v :: .ref a :: st) M r M' := g_pf hc hM hci (by rw [hk]; simp) (by rw [hk]; exact hft) (by rw [hk]; exact hfi) (by rw [hk]; rfl) k
theorem g_pf5 {n a ci : Nat} {v0 v1 v2 v3 v4 v5 v : Value} {t : List Value} (hc : z_code y pc = some (nx, .putfield n)) (hM : M[a]? = some (.inl (ci, (v0 :: v1 :: v2 :: v3 :: v4 :: v5 :: t)))) (hci : ci = n / 32) (hk : n % 32 = 5) (hft : z_fit (z_fty ci 5) v = true) (hfi : z_fin ci 5 = false ∨ z_ini y ci = true) (k : z_G S d y nx ls st (M.set a (.inl (ci, (v0 :: v1 :: v2 :: v3 :: v4 :: v :: t)))) r M') : z_G S d y pc ls (v :: .ref a :: st) M r M' := g_pf hc hM hci (by rw [hk]; simp) (by rw [hk]; exact hft) (by rw [hk]; exact hfi) (by rw [hk]; rfl) k
theorem g_pf6 {n a ci : Nat} {v0 v1 v2 v3 v4 v5 v6 v : Value} {t : List Value} (hc : z_code y pc = some (nx, .putfield n)) (hM : M[a]? = some (.inl (ci, (v0 :: v1 :: v2 :: v3 :: v4 :: v5 :: v6 :: t)))) (hci : ci = n / 32) (hk : n % 32 = 6) (hft : z_fit (z_fty ci 6) v = true) (hfi : z_fin ci 6 = false ∨ z_ini y ci = true) (k : z_G S d y nx ls st (M.set a (.inl (ci, (v0 :: v1 :: v2 :: v3 :: v4 :: v5 :: v :: t)))) r M') : z_G S d y pc ls (v :: .ref a :: st) M r M' := g_pf hc hM hci (by rw [hk]; simp) (by rw [hk]; exact hft) (by rw [hk]; exact hfi) (by rw [hk]; rfl) k
theorem g_pf7 {n a ci : Nat} {v0 v1 v2 v3 v4 v5 v6 v7 v : Value} {t : List Value} (hc : z_code y pc = some (nx, .putfield n)) (hM : M[a]? = some (.inl (ci, (v0 :: v1 :: v2 :: v3 :: v4 :: v5 :: v6 :: v7 :: t)))) (hci : ci = n / 32) (hk : n % 32 = 7) (hft : z_fit (z_fty ci 7) v = true) (hfi : z_fin ci 7 = false ∨ z_ini y ci = true) (k : z_G S d y nx ls st (M.set a (.inl (ci, (v0 :: v1 :: v2 :: v3 :: v4 :: v5 :: v6 :: v :: t)))) r M') : z_G S d y pc ls (v :: .ref a :: st) M r M' := g_pf hc hM hci (by rw [hk]; simp) (by rw [hk]; exact hft) (by rw [hk]; exact hfi) (by rw [hk]; rfl) k
theorem g_pf8 {n a ci : Nat} {v0 v1 v2 v3 v4 v5 v6 v7 v8 v : Value} {t : List Value} (hc : z_code y pc = some (nx, .putfield n)) (hM : M[a]? = some (.inl (ci, (v0 :: v1 :: v2 :: v3 :: v4 :: v5 :: v6 :: v7 :: v8 :: t)))) (hci : ci = n / 32) (hk : n % 32 = 8) (hft : z_fit (z_fty ci 8) v = true) (hfi : z_fin ci 8 = false ∨ z_ini y ci = true) (k : z_G S d y nx ls st (M.set a (.inl (ci, (v0 :: v1 :: v2 :: v3 :: v4 :: v5 :: v6 :: v7 :: v :: t)))) r M') : z_G S d y pc ls (v :: .ref a :: st) M r M' := g_pf hc hM hci (by rw [hk]; simp) (by rw [hk]; exact hft) (by rw [hk]; exact hfi) (by rw [hk]; rfl) k
theorem g_pf9 {n a ci : Nat} {v0 v1 v2 v3 v4 v5 v6 v7 v8 v9 v : Value} {t : List Value} (hc : z_code y pc = some (nx, .putfield n)) (hM : M[a]? = some (.inl (ci, (v0 :: v1 :: v2 :: v3 :: v4 :: v5 :: v6 :: v7 :: v8 :: v9 :: t)))) (hci : ci = n / 32) (hk : n % 32 = 9) (hft : z_fit (z_fty ci 9) v = true) (hfi : z_fin ci 9 = false ∨ z_ini y ci = true) (k : z_G S d y nx ls st (M.set a (.inl (ci, (v0 :: v1 :: v2 :: v3 :: v4 :: v5 :: v6 :: v7 :: v8 :: v :: t)))) r M') : z_G S d y pc ls (v :: .ref a :: st) M r M' := g_pf hc hM hci (by rw [hk]; simp) (by rw [hk]; exact hft) (by rw [hk]; exact hfi) (by rw [hk]; rfl) k
theorem g_pf10 {n a ci : Nat} {v0 v1 v2 v3 v4 v5 v6 v7 v8 v9 v10 v : Value} {t : List Value} (hc : z_code y pc = some (nx, .putfield n)) (hM : M[a]? = some (.inl (ci, (v0 :: v1 :: v2 :: v3 :: v4 :: v5 :: v6 :: v7 :: v8 :: v9 :: v10 :: t)))) (hci : ci = n / 32) (hk : n % 32 = 10) (hft : z_fit (z_fty ci 10) v = true) (hfi : z_fin ci 10 = false ∨ z_ini y ci = true) (k : z_G S d y nx ls st (M.set a (.inl (ci, (v0 :: v1 :: v2 :: v3 :: v4 :: v5 :: v6 :: v7 :: v8 :: v9 :: v :: t)))) r M') : z_G S d y pc ls (v :: .ref a :: st) M r M' := g_pf hc hM hci (by rw [hk]; simp) (by rw [hk]; exact hft) (by rw [hk]; exact hfi) (by rw [hk]; rfl) k
theorem g_pf11 {n a ci : Nat} {v0 v1 v2 v3 v4 v5 v6 v7 v8 v9 v10 v11 v : Value} {t : List Value} (hc : z_code y pc = some (nx, .putfield n)) (hM : M[a]? = some (.inl (ci, (v0 :: v1 :: v2 :: v3 :: v4 :: v5 :: v6 :: v7 :: v8 :: v9 :: v10 :: v11 :: t)))) (hci : ci = n / 32) (hk : n % 32 = 11) (hft : z_fit (z_fty ci 11) v = true) (hfi : z_fin ci 11 = false ∨ z_ini y ci = true) (k : z_G S d y nx ls st (M.set a (.inl (ci, (v0 :: v1 :: v2 :: v3 :: v4 :: v5 :: v6 :: v7 :: v8 :: v9 :: v10 :: v :: t)))) r M') : z_G S d y pc ls (v :: .ref a :: st) M r M' := g_pf hc hM hci (by rw [hk]; simp) (by rw [hk]; exact hft) (by rw [hk]; exact hfi) (by rw [hk]; rfl) k
theorem g_pf12 {n a ci : Nat} {v0 v1 v2 v3 v4 v5 v6 v7 v8 v9 v10 v11 v12 v : Value} {t : List Value} (hc : z_code y pc = some (nx, .putfield n)) (hM : M[a]? = some (.inl (ci, (v0 :: v1 :: v2 :: v3 :: v4 :: v5 :: v6 :: v7 :: v8 :: v9 :: v10 :: v11 :: v12 :: t)))) (hci : ci = n / 32) (hk : n % 32 = 12) (hft : z_fit (z_fty ci 12) v = true) (hfi : z_fin ci 12 = false ∨ z_ini y ci = true) (k : z_G S d y nx ls st (M.set a (.inl (ci, (v0 :: v1 :: v2 :: v3 :: v4 :: v5 :: v6 :: v7 :: v8 :: v9 :: v10 :: v11 :: v :: t)))) r M') : z_G S d y pc ls (v :: .ref a :: st) M r M' := g_pf hc hM hci (by rw [hk]; simp) (by rw [hk]; exact hft) (by rw [hk]; exact hfi) (by rw [hk]; rfl) k
theorem g_pf13 {n a ci : Nat} {v0 v1 v2 v3 v4 v5 v6 v7 v8 v9 v10 v11 v12 v13 v : Value} {t : List Value} (hc : z_code y pc = some (nx, .putfield n)) (hM : M[a]? = some (.inl (ci, (v0 :: v1 :: v2 :: v3 :: v4 :: v5 :: v6 :: v7 :: v8 :: v9 :: v10 :: v11 :: v12 :: v13 :: t)))) (hci : ci = n / 32) (hk : n % 32 = 13) (hft : z_fit (z_fty ci 13) v = true) (hfi : z_fin ci 13 = false ∨ z_ini y ci = true) (k : z_G S d y nx ls st (M.set a (.inl (ci, (v0 :: v1 :: v2 :: v3 :: v4 :: v5 :: v6 :: v7 :: v8 :: v9 :: v10 :: v11 :: v12 :: v :: t)))) r M') : z_G S d y pc ls (v :: .ref a :: st) M r M' := g_pf hc hM hci (by rw [hk]; simp) (by rw [hk]; exact hft) (by rw [hk]; exact hfi) (by rw [hk]; rfl) k
theorem g_pf14 {n a ci : Nat} {v0 v1 v2 v3 v4 v5 v6 v7 v8 v9 v10 v11 v12 v13 v14 v : Value} {t : List Value} (hc : z_code y pc = some (nx, .putfield n)) (hM : M[a]? = some (.inl (ci, (v0 :: v1 :: v2 :: v3 :: v4 :: v5 :: v6 :: v7 :: v8 :: v9 :: v10 :: v11 :: v12 :: v13 :: v14 :: t)))) (hci : ci = n / 32) (hk : n % 32 = 14) (hft : z_fit (z_fty ci 14) v = true) (hfi : z_fin ci 14 = false ∨ z_ini y ci = true) (k : z_G S d y nx ls st (M.set a (.inl (ci, (v0 :: v1 :: v2 :: v3 :: v4 :: v5 :: v6 :: v7 :: v8 :: v9 :: v10 :: v11 :: v12 :: v13 :: v :: t)))) r M') : z_G S d y pc ls (v :: .ref a :: st) M r M' := g_pf hc hM hci (by rw [hk]; simp) (by rw [hk]; exact hft) (by rw [hk]; exact hfi) (by rw [hk]; rfl) k
theorem g_pf15 {n a ci : Nat} {v0 v1 v2 v3 v4 v5 v6 v7 v8 v9 v10 v11 v12 v13 v14 v15 v : Value} {t : List Value} (hc : z_code y pc = some (nx, .putfield n)) (hM : M[a]? = some (.inl (ci, (v0 :: v1 :: v2 :: v3 :: v4 :: v5 :: v6 :: v7 :: v8 :: v9 :: v10 :: v11 :: v12 :: v13 :: v14 :: v15 :: t)))) (hci : ci = n / 32) (hk : n % 32 = 15) (hft : z_fit (z_fty ci 15) v = true) (hfi : z_fin ci 15 = false ∨ z_ini y ci = true) (k : z_G S d y nx ls st (M.set a (.inl (ci, (v0 :: v1 :: v2 :: v3 :: v4 :: v5 :: v6 :: v7 :: v8 :: v9 :: v10 :: v11 :: v12 :: v13 :: v14 :: v :: t)))) r M') : z_G S d y pc ls (v :: .ref a :: st) M r M' := g_pf hc hM hci (by rw [hk]; simp) (by rw [hk]; exact hft) (by rw [hk]; exact hfi) (by rw [hk]; rfl) k
theorem g_pf16 {n a ci : Nat} {v0 v1 v2 v3 v4 v5 v6 v7 v8 v9 v10 v11 v12 v13 v14 v15 v16 v : Value} {t : List Value} (hc : z_code y pc = some (nx, .putfield n)) (hM : M[a]? = some (.inl (ci, (v0 :: v1 :: v2 :: v3 :: v4 :: v5 :: v6 :: v7 :: v8 :: v9 :: v10 :: v11 :: v12 :: v13 :: v14 :: v15 :: v16 :: t)))) (hci : ci = n / 32) (hk : n % 32 = 16) (hft : z_fit (z_fty ci 16) v = true) (hfi : z_fin ci 16 = false ∨ z_ini y ci = true) (k : z_G S d y nx ls st (M.set a (.inl (ci, (v0 :: v1 :: v2 :: v3 :: v4 :: v5 :: v6 :: v7 :: v8 :: v9 :: v10 :: v11 :: v12 :: v13 :: v14 :: v15 :: v :: t)))) r M') : z_G S d y pc ls (v :: .ref a :: st) M r M' := g_pf hc hM hci (by rw [hk]; simp) (by rw [hk]; exact hft) (by rw [hk]; exact hfi) (by rw [hk]; rfl) k
theorem g_pf17 {n a ci : Nat} {v0 v1 v2 v3 v4 v5 v6 v7 v8 v9 v10 v11 v12 v13 v14 v15 v16 v17 v : Value} {t : List Value} (hc : z_code y pc = some (nx, .putfield n)) (hM : M[a]? = some (.inl (ci, (v0 :: v1 :: v2 :: v3 :: v4 :: v5 :: v6 :: v7 :: v8 :: v9 :: v10 :: v11 :: v12 :: v13 :: v14 :: v15 :: v16 :: v17 :: t)))) (hci : ci = n / 32) (hk : n % 32 = 17) (hft : z_fit (z_fty ci 17) v = true) (hfi : z_fin ci 17 = false ∨ z_ini y ci = true) (k : z_G S d y nx ls st (M.set a (.inl (ci, (v0 :: v1 :: v2 :: v3 :: v4 :: v5 :: v6 :: v7 :: v8 :: v9 :: v10 :: v11 :: v12 :: v13 :: v14 :: v15 :: v16 :: v :: t)))) r M') : z_G S d y pc ls (v :: .ref a :: st) M r M' := g_pf hc hM hci (by rw [hk]; simp) (by rw [hk]; exact hft) (by rw [hk]; exact hfi) (by rw [hk]; rfl) k
theorem g_pf18 {n a ci : Nat} {v0 v1 v2 v3 v4 v5 v6 v7 v8 v9 v10 v11 v12 v13 v14 v15 v16 v17 v18 v : Value} {t : List Value} (hc : z_code y pc = some (nx, .putfield n)) (hM : M[a]? = some (.inl (ci, (v0 :: v1 :: v2 :: v3 :: v4 :: v5 :: v6 :: v7 :: v8 :: v9 :: v10 :: v11 :: v12 :: v13 :: v14 :: v15 :: v16 :: v17 :: v18 :: t)))) (hci : ci = n / 32) (hk : n % 32 = 18) (hft : z_fit (z_fty ci 18) v = true) (hfi : z_fin ci 18 = false ∨ z_ini y ci = true) (k : z_G S d y nx ls st (M.set a (.inl (ci, (v0 :: v1 :: v2 :: v3 :: v4 :: v5 :: v6 :: v7 :: v8 :: v9 :: v10 :: v11 :: v12 :: v13 :: v14 :: v15 :: v16 :: v17 :: v :: t)))) r M') : z_G S d y pc ls (v :: .ref a :: st) M r M' := g_pf hc hM hci (by rw [hk]; simp) (by rw [hk]; exact hft) (by rw [hk]; exact hfi) (by rw [hk]; rfl) k
theorem g_pf19 {n a ci : Nat} {v0 v1 v2 v3 v4 v5 v6 v7 v8 v9 v10 v11 v12 v13 v14 v15 v16 v17 v18 v19 v : Value} {t : List Value} (hc : z_code y pc = some (nx, .putfield n)) (hM : M[a]? = some (.inl (ci, (v0 :: v1 :: v2 :: v3 :: v4 :: v5 :: v6 :: v7 :: v8 :: v9 :: v10 :: v11 :: v12 :: v13 :: v14 :: v15 :: v16 :: v17 :: v18 :: v19 :: t)))) (hci : ci = n / 32) (hk : n % 32 = 19) (hft : z_fit (z_fty ci 19) v = true) (hfi : z_fin ci 19 = false ∨ z_ini y ci = true) (k : z_G S d y nx ls st (M.set a (.inl (ci, (v0 :: v1 :: v2 :: v3 :: v4 :: v5 :: v6 :: v7 :: v8 :: v9 :: v10 :: v11 :: v12 :: v13 :: v14 :: v15 :: v16 :: v17 :: v18 :: v :: t)))) r M') : z_G S d y pc ls (v :: .ref a :: st) M r M' := g_pf hc hM hci (by rw [hk]; simp) (by rw [hk]; exact hft) (by rw [hk]; exact hfi) (by rw [hk]; rfl) k
theorem g_pf20 {n a ci : Nat} {v0 v1 v2 v3 v4 v5 v6 v7 v8 v9 v10 v11 v12 v13 v14 v15 v16 v17 v18 v19 v20 v : Value} {t : List Value} (hc : z_code y pc = some (nx, .putfield n)) (hM : M[a]? = some (.inl (ci, (v0 :: v1 :: v2 :: v3 :: v4 :: v5 :: v6 :: v7 :: v8 :: v9 :: v10 :: v11 :: v12 :: v13 :: v14 :: v15 :: v16 :: v17 :: v18 :: v19 :: v20 :: t)))) (hci : ci = n / 32) (hk : n % 32 = 20) (hft : z_fit (z_fty ci 20) v = true) (hfi : z_fin ci 20 = false ∨ z_ini y ci = true) (k : z_G S d y nx ls st (M.set a (.inl (ci, (v0 :: v1 :: v2 :: v3 :: v4 :: v5 :: v6 :: v7 :: v8 :: v9 :: v10 :: v11 :: v12 :: v13 :: v14 :: v15 :: v16 :: v17 :: v18 :: v19 :: v :: t)))) r M') : z_G S d y pc ls (v :: .ref a :: st) M r M' := g_pf hc hM hci (by rw [hk]; simp) (by rw [hk]; exact hft) (by rw [hk]; exact hfi) (by rw [hk]; rfl) k
theorem g_pf21 {n a ci : Nat} {v0 v1 v2 v3 v4 v5 v6 v7 v8 v9 v10 v11 v12 v13 v14 v15 v16 v17 v18 v19 v20 v21 v : Value} {t : List Value} (hc : z_code y pc = some (nx, .putfield n)) (hM : M[a]? = some (.inl (ci, (v0 :: v1 :: v2 :: v3 :: v4 :: v5 :: v6 :: v7 :: v8 :: v9 :: v10 :: v11 :: v12 :: v13 :: v14 :: v15 :: v16 :: v17 :: v18 :: v19 :: v20 :: v21 :: t)))) (hci : ci = n / 32) (hk : n % 32 = 21) (hft : z_fit (z_fty ci 21) v = true) (hfi : z_fin ci 21 = false ∨ z_ini y ci = true) (k : z_G S d y nx ls st (M.set a (.inl (ci, (v0 :: v1 :: v2 :: v3 :: v4 :: v5 :: v6 :: v7 :: v8 :: v9 :: v10 :: v11 :: v12 :: v13 :: v14 :: v15 :: v16 :: v17 :: v18 :: v19 :: v20 :: v :: t)))) r M') : z_G S d y pc ls (v :: .ref a :: st) M r M' := g_pf hc hM hci (by rw [hk]; simp) (by rw [hk]; exact hft) (by rw [hk]; exact hfi) (by rw [hk]; rfl) k
theorem g_pf22 {n a ci : Nat} {v0 v1 v2 v3 v4 v5 v6 v7 v8 v9 v10 v11 v12 v13 v14 v15 v16 v17 v18 v19 v20 v21 v22 v : Value} {t : List Value} (hc : z_code y pc = some (nx, .putfield n)) (hM : M[a]? = some (.inl (ci, (v0 :: v1 :: v2 :: v3 :: v4 :: v5 :: v6 :: v7 :: v8 :: v9 :: v10 :: v11 :: v12 :: v13 :: v14 :: v15 :: v16 :: v17 :: v18 :: v19 :: v20 :: v21 :: v22 :: t)))) (hci : ci = n / 32) (hk : n % 32 = 22) (hft : z_fit (z_fty ci 22) v = true) (hfi : z_fin ci 22 = false ∨ z_ini y ci = true) (k : z_G S d y nx ls st (M.set a (.inl (ci, (v0 :: v1 :: v2 :: v3 :: v4 :: v5 :: v6 :: v7 :: v8 :: v9 :: v10 :: v11 :: v12 :: v13 :: v14 :: v15 :: v16 :: v17 :: v18 :: v19 :: v20 :: v21 :: v :: t)))) r M') : z_G S d y pc ls (v :: .ref a :: st) M r M' := g_pf hc hM hci (by rw [hk]; simp) (by rw [hk]; exact hft) (by rw [hk]; exact hfi) (by rw [hk]; rfl) k
theorem g_pf23 {n a ci : Nat} {v0 v1 v2 v3 v4 v5 v6 v7 v8 v9 v10 v11 v12 v13 v14 v15 v16 v17 v18 v19 v20 v21 v22 v23 v : Value} {t : List Value} (hc : z_code y pc = some (nx, .putfield n)) (hM : M[a]? = some (.inl (ci, (v0 :: v1 :: v2 :: v3 :: v4 :: v5 :: v6 :: v7 :: v8 :: v9 :: v10 :: v11 :: v12 :: v13 :: v14 :: v15 :: v16 :: v17 :: v18 :: v19 :: v20 :: v21 :: v22 :: v23 :: t)))) (hci : ci = n / 32) (hk : n % 32 = 23) (hft : z_fit (z_fty ci 23) v = true) (hfi : z_fin ci 23 = false ∨ z_ini y ci = true) (k : z_G S d y nx ls st (M.set a (.inl (ci, (v0 :: v1 :: v2 :: v3 :: v4 :: v5 :: v6 :: v7 :: v8 :: v9 :: v10 :: v11 :: v12 :: v13 :: v14 :: v15 :: v16 :: v17 :: v18 :: v19 :: v20 :: v21 :: v22 :: v :: t)))) r M') : z_G S d y pc ls (v :: .ref a :: st) M r M' := g_pf hc hM hci (by rw [hk]; simp) (by rw [hk]; exact hft) (by rw [hk]; exact hfi) (by rw [hk]; rfl) k
theorem g_pf24 {n a ci : Nat} {v0 v1 v2 v3 v4 v5 v6 v7 v8 v9 v10 v11 v12 v13 v14 v15 v16 v17 v18 v19 v20 v21 v22 v23 v24 v : Value} {t : List Value} (hc : z_code y pc = some (nx, .putfield n)) (hM : M[a]? = some (.inl (ci, (v0 :: v1 :: v2 :: v3 :: v4 :: v5 :: v6 :: v7 :: v8 :: v9 :: v10 :: v11 :: v12 :: v13 :: v14 :: v15 :: v16 :: v17 :: v18 :: v19 :: v20 :: v21 :: v22 :: v23 :: v24 :: t)))) (hci : ci = n / 32) (hk : n % 32 = 24) (hft : z_fit (z_fty ci 24) v = true) (hfi : z_fin ci 24 = false ∨ z_ini y ci = true) (k : z_G S d y nx ls st (M.set a (.inl (ci, (v0 :: v1 :: v2 :: v3 :: v4 :: v5 :: v6 :: v7 :: v8 :: v9 :: v10 :: v11 :: v12 :: v13 :: v14 :: v15 :: v16 :: v17 :: v18 :: v19 :: v20 :: v21 :: v22 :: v23 :: v :: t)))) r M') : z_G S d y pc ls (v :: .ref a :: st) M r M' := g_pf hc hM hci (by rw [hk]; simp) (by rw [hk]; exact hft) (by rw [hk]; exact hfi) (by rw [hk]; rfl) k
end ZPF
section ZCN
variable {S : ZS} {d y pc nx : Nat} {ls : ZL} {rest : List Value} {M M' M1 : ZM} {r : Option Value} {a1 a2 a3 a4 w : Value} {q : Nat}
theorem g_cs0 (hc : z_code y pc = some (nx, .invokestatic q)) (hn : (z_mt q).2.2.2.2.1 = 0) (h99 : (z_mt q).2.2.2.2.2 = 99) (h8 : z_cat rest = true) (hcal : z_C S d q [] M (some w) M1) (k : z_G S (d + 1) y nx ls (w :: rest) M1 r M') : z_G S (d + 1) y pc ls (rest) M r M' := g_cs hc hn h99 (by simp) rfl rfl h8 hcal k
theorem g_cv0 {a ci : Nat} {fs : List Value} (hc : z_code y pc = some (nx, .invokevirtual q)) (hn : (z_mt q).2.2.2.2.1 = 0) (hM : M[a]? = some (.inl (ci, fs))) (hci : ci = (z_mt q).2.2.2.2.2) (h7 : ci < 7) (h8 : z_cat rest = true) (hcal : z_C S d q (.ref a :: []) M (some w) M1) (k : z_G S (d + 1) y nx ls (w :: rest) M1 r M') : z_G S (d + 1) y pc ls (.ref a :: rest) M r M' := g_cv hc hn rfl rfl hM hci h7 h8 hcal k
theorem g_cs0v (hc : z_code y pc = some (nx, .invokestatic q)) (hn : (z_mt q).2.2.2.2.1 = 0) (h99 : (z_mt q).2.2.2.2.2 = 99) (h8 : z_cat rest = true) (hcal : z_C S d q [] M none M1) (k : z_G S (d + 1) y nx ls rest M1 r M') : z_G S (d + 1) y pc ls (rest) M r M' := g_cs hc hn h99 (by simp) rfl rfl h8 hcal k
theorem g_cv0v {a ci : Nat} {fs : List Value} (hc : z_code y pc = some (nx, .invokevirtual q)) (hn : (z_mt q).2.2.2.2.1 = 0) (hM : M[a]? = some (.inl (ci, fs))) (hci : ci = (z_mt q).2.2.2.2.2) (h7 : ci < 7) (h8 : z_cat rest = true) (hcal : z_C S d q (.ref a :: []) M none M1) (k : z_G S (d + 1) y nx ls rest M1 r M') : z_G S (d + 1) y pc ls (.ref a :: rest) M r M' := g_cv hc hn rfl rfl hM hci h7 h8 hcal k
theorem g_cx0v {a : Nat} (hc : z_code y pc = some (nx, .invokespecial q)) (hn : (z_mt q).2.2.2.2.1 = 0) (h8 : z_cat rest = true) (hi : (z_mt q).1.name = "<init>") (hv : (z_mt q).2.2.2.1 = none) (hcal : z_C S d q [.ref a] M none M1) (k : z_G S (d + 1) y nx ls rest M1 r M') : z_G S (d + 1) y pc ls (.ref a :: rest) M r M' := g_cx hc hn rfl rfl h8 hi hv hcal k
theorem g_cs1 (hc : z_code y pc = some (nx, .invokestatic q)) (hn : (z_mt q).2.2.2.2.1 = 1) (h99 : (z_mt q).2.2.2.2.2 = 99) (h8 : z_cat rest = true) (hcal : z_C S d q [a1] M (some w) M1) (k : z_G S (d + 1) y nx ls (w :: rest) M1 r M') : z_G S (d + 1) y pc ls (a1 :: rest) M r M' := g_cs hc hn h99 (by simp) rfl rfl h8 hcal k
theorem g_cv1 {a ci : Nat} {fs : List Value} (hc : z_code y pc = some (nx, .invokevirtual q)) (hn : (z_mt q).2.2.2.2.1 = 1) (hM : M[a]? = some (.inl (ci, fs))) (hci : ci = (z_mt q).2.2.2.2.2) (h7 : ci < 7) (h8 : z_cat rest = true) (hcal : z_C S d q (.ref a :: [a1]) M (some w) M1) (k : z_G S (d + 1) y nx ls (w :: rest) M1 r M') : z_G S (d + 1) y pc ls (a1 :: .ref a :: rest) M r M' := g_cv hc hn rfl rfl hM hci h7 h8 hcal k
theorem g_cs1v (hc : z_code y pc = some (nx, .invokestatic q)) (hn : (z_mt q).2.2.2.2.1 = 1) (h99 : (z_mt q).2.2.2.2.2 = 99) (h8 : z_cat rest = true) (hcal : z_C S d q [a1] M none M1) (k : z_G S (d + 1) y nx ls rest M1 r M') : z_G S (d + 1) y pc ls (a1 :: rest) M r M' := g_cs hc hn h99 (by simp) rfl rfl h8 hcal k
theorem g_cv1v {a ci : Nat} {fs : List Value} (hc : z_code y pc = some (nx, .invokevirtual q)) (hn : (z_mt q).2.2.2.2.1 = 1) (hM : M[a]? = some (.inl (ci, fs))) (hci : ci = (z_mt q).2.2.2.2.2) (h7 : ci < 7) (h8 : z_cat rest = true) (hcal : z_C S d q (.ref a :: [a1]) M none M1) (k : z_G S (d + 1) y nx ls rest M1 r M') : z_G S (d + 1) y pc ls (a1 :: .ref a :: rest) M r M' := g_cv hc hn rfl rfl hM hci h7 h8 hcal k
theorem g_cs2 (hc : z_code y pc = some (nx, .invokestatic q)) (hn : (z_mt q).2.2.2.2.1 = 2) (h99 : (z_mt q).2.2.2.2.2 = 99) (h8 : z_cat rest = true) (hcal : z_C S d q [a1, a2] M (some w) M1) (k : z_G S (d + 1) y nx ls (w :: rest) M1 r M') : z_G S (d + 1) y pc ls (a2 :: a1 :: rest) M r M' := g_cs hc hn h99 (by simp) rfl rfl h8 hcal k
theorem g_cv2 {a ci : Nat} {fs : List Value} (hc : z_code y pc = some (nx, .invokevirtual q)) (hn : (z_mt q).2.2.2.2.1 = 2) (hM : M[a]? = some (.inl (ci, fs))) (hci : ci = (z_mt q).2.2.2.2.2) (h7 : ci < 7) (h8 : z_cat rest = true) (hcal : z_C S d q (.ref a :: [a1, a2]) M (some w) M1) (k : z_G S (d + 1) y nx ls (w :: rest) M1 r M') : z_G S (d + 1) y pc ls (a2 :: a1 :: .ref a :: rest) M r M' := g_cv hc hn rfl rfl hM hci h7 h8 hcal k
theorem g_cs2v (hc : z_code y pc = some (nx, .invokestatic q)) (hn : (z_mt q).2.2.2.2.1 = 2) (h99 : (z_mt q).2.2.2.2.2 = 99) (h8 : z_cat rest = true) (hcal : z_C S d q [a1, a2] M none M1) (k : z_G S (d + 1) y nx ls rest M1 r M') : z_G S (d + 1) y pc ls (a2 :: a1 :: rest) M r M' := g_cs hc hn h99 (by simp) rfl rfl h8 hcal k
theorem g_cv2v {a ci : Nat} {fs : List Value} (hc : z_code y pc = some (nx, .invokevirtual q)) (hn : (z_mt q).2.2.2.2.1 = 2) (hM : M[a]? = some (.inl (ci, fs))) (hci : ci = (z_mt q).2.2.2.2.2) (h7 : ci < 7) (h8 : z_cat rest = true) (hcal : z_C S d q (.ref a :: [a1, a2]) M none M1) (k : z_G S (d + 1) y nx ls rest M1 r M') : z_G S (d + 1) y pc ls (a2 :: a1 :: .ref a :: rest) M r M' := g_cv hc hn rfl rfl hM hci h7 h8 hcal k
theorem g_cs3 (hc : z_code y pc = some (nx, .invokestatic q)) (hn : (z_mt q).2.2.2.2.1 = 3) (h99 : (z_mt q).2.2.2.2.2 = 99) (h8 : z_cat rest = true) (hcal : z_C S d q [a1, a2, a3] M (some w) M1) (k : z_G S (d + 1) y nx ls (w :: rest) M1 r M') : z_G S (d + 1) y pc ls (a3 :: a2 :: a1 :: rest) M r M' := g_cs hc hn h99 (by simp) rfl rfl h8 hcal k
theorem g_cv3 {a ci : Nat} {fs : List Value} (hc : z_code y pc = some (nx, .invokevirtual q)) (hn : (z_mt q).2.2.2.2.1 = 3) (hM : M[a]? = some (.inl (ci, fs))) (hci : ci = (z_mt q).2.2.2.2.2) (h7 : ci < 7) (h8 : z_cat rest = true) (hcal : z_C S d q (.ref a :: [a1, a2, a3]) M (some w) M1) (k : z_G S (d + 1) y nx ls (w :: rest) M1 r M') : z_G S (d + 1) y pc ls (a3 :: a2 :: a1 :: .ref a :: rest) M r M' := g_cv hc hn rfl rfl hM hci h7 h8 hcal k
theorem g_cs3v (hc : z_code y pc = some (nx, .invokestatic q)) (hn : (z_mt q).2.2.2.2.1 = 3) (h99 : (z_mt q).2.2.2.2.2 = 99) (h8 : z_cat rest = true) (hcal : z_C S d q [a1, a2, a3] M none M1) (k : z_G S (d + 1) y nx ls rest M1 r M') : z_G S (d + 1) y pc ls (a3 :: a2 :: a1 :: rest) M r M' := g_cs hc hn h99 (by simp) rfl rfl h8 hcal k
theorem g_cv3v {a ci : Nat} {fs : List Value} (hc : z_code y pc = some (nx, .invokevirtual q)) (hn : (z_mt q).2.2.2.2.1 = 3) (hM : M[a]? = some (.inl (ci, fs))) (hci : ci = (z_mt q).2.2.2.2.2) (h7 : ci < 7) (h8 : z_cat rest = true) (hcal : z_C S d q (.ref a :: [a1, a2, a3]) M none M1) (k : z_G S (d + 1) y nx ls rest M1 r M') : z_G S (d + 1) y pc ls (a3 :: a2 :: a1 :: .ref a :: rest) M r M' := g_cv hc hn rfl rfl hM hci h7 h8 hcal k
theorem g_cs4 (hc : z_code y pc = some (nx, .invokestatic q)) (hn : (z_mt q).2.2.2.2.1 = 4) (h99 : (z_mt q).2.2.2.2.2 = 99) (h8 : z_cat rest = true) (hcal : z_C S d q [a1, a2, a3, a4] M (some w) M1) (k : z_G S (d + 1) y nx ls (w :: rest) M1 r M') : z_G S (d + 1) y pc ls (a4 :: a3 :: a2 :: a1 :: rest) M r M' := g_cs hc hn h99 (by simp) rfl rfl h8 hcal k
theorem g_cv4 {a ci : Nat} {fs : List Value} (hc : z_code y pc = some (nx, .invokevirtual q)) (hn : (z_mt q).2.2.2.2.1 = 4) (hM : M[a]? = some (.inl (ci, fs))) (hci : ci = (z_mt q).2.2.2.2.2) (h7 : ci < 7) (h8 : z_cat rest = true) (hcal : z_C S d q (.ref a :: [a1, a2, a3, a4]) M (some w) M1) (k : z_G S (d + 1) y nx ls (w :: rest) M1 r M') : z_G S (d + 1) y pc ls (a4 :: a3 :: a2 :: a1 :: .ref a :: rest) M r M' := g_cv hc hn rfl rfl hM hci h7 h8 hcal k
theorem g_cs4v (hc : z_code y pc = some (nx, .invokestatic q)) (hn : (z_mt q).2.2.2.2.1 = 4) (h99 : (z_mt q).2.2.2.2.2 = 99) (h8 : z_cat rest = true) (hcal : z_C S d q [a1, a2, a3, a4] M none M1) (k : z_G S (d + 1) y nx ls rest M1 r M') : z_G S (d + 1) y pc ls (a4 :: a3 :: a2 :: a1 :: rest) M r M' := g_cs hc hn h99 (by simp) rfl rfl h8 hcal k
theorem g_cv4v {a ci : Nat} {fs : List Value} (hc : z_code y pc = some (nx, .invokevirtual q)) (hn : (z_mt q).2.2.2.2.1 = 4) (hM : M[a]? = some (.inl (ci, fs))) (hci : ci = (z_mt q).2.2.2.2.2) (h7 : ci < 7) (h8 : z_cat rest = true) (hcal : z_C S d q (.ref a :: [a1, a2, a3, a4]) M none M1) (k : z_G S (d + 1) y nx ls rest M1 r M') : z_G S (d + 1) y pc ls (a4 :: a3 :: a2 :: a1 :: .ref a :: rest) M r M' := g_cv hc hn rfl rfl hM hci h7 h8 hcal k
end ZCN
end
section
/-! bits of an int: a family out of kit/laws/BITS.to-paste, and what stands on it -/
def bt (x : Int32) (i : Nat) : Bool := x.toBitVec.getLsbD i
theorem b_ext {x y : Int32} (h : ∀ i, i < 32 → bt x i = bt y i) : x = y := Int32.toBitVec_inj.mp (BitVec.eq_of_getLsbD_eq (fun i hi => h i hi))
theorem b_or (x y : Int32) (i : Nat) : bt (x ||| y) i = (bt x i || bt y i) := by unfold bt; rw [Int32.toBitVec_or, BitVec.getLsbD_or]
theorem b_and (x y : Int32) (i : Nat) : bt (x &&& y) i = (bt x i && bt y i) := by unfold bt; rw [Int32.toBitVec_and, BitVec.getLsbD_and]
theorem b_xor (x y : Int32) (i : Nat) : bt (x ^^^ y) i = (bt x i ^^ bt y i) := by unfold bt; rw [Int32.toBitVec_xor, BitVec.getLsbD_xor]
theorem b_big {x : Int32} {i : Nat} (h : 32 ≤ i) : bt x i = false := BitVec.getLsbD_of_ge _ _ h
theorem b_255 (i : Nat) : bt 255 i = decide (i < 8) := by
  rcases Nat.lt_or_ge i 32 with h | h
  · exact (by decide +kernel : ∀ i, i < 32 → bt 255 i = decide (i < 8)) i h
  · rw [b_big h, decide_eq_false (by omega)]
theorem b_65535 (i : Nat) : bt 65535 i = decide (i < 16) := by
  rcases Nat.lt_or_ge i 32 with h | h
  · exact (by decide +kernel : ∀ i, i < 32 → bt 65535 i = decide (i < 16)) i h
  · rw [b_big h, decide_eq_false (by omega)]
theorem b_m1 : ∀ i, i < 32 → bt (-1) i = true := by decide +kernel
theorem b_0 (i : Nat) : bt 0 i = false := BitVec.getLsbD_zero
theorem s_l : ∀ n, n < 32 → ((nI n &&& 31).toBitVec.smod 32).toNat = n := by decide +kernel
theorem s_u : ∀ n, n < 32 → (((nI n).toUInt32 &&& Int32.toUInt32 31).toBitVec % 32).toNat = n := by decide +kernel
theorem b_shl (n : Nat) (hn : n < 32) (x : Int32) {i : Nat} (hi : i < 32) : bt (x <<< (nI n &&& 31)) i = (decide (n ≤ i) && bt x (i - n)) := by
  unfold bt
  rw [Int32.toBitVec_shiftLeft]
  show (x.toBitVec <<< ((nI n &&& 31).toBitVec.smod 32).toNat).getLsbD i = _
  rw [s_l n hn, BitVec.getLsbD_shiftLeft]
  rcases Nat.lt_or_ge i n with h | h
  · simp [h, Nat.not_le.mpr h]
  · simp [hi, h, Nat.not_lt.mpr h]
theorem b_ushr (n : Nat) (hn : n < 32) (x : Int32) (i : Nat) : bt ((x.toUInt32 >>> ((nI n).toUInt32 &&& Int32.toUInt32 31)).toInt32) i = bt x (n + i) := by
  show (x.toUInt32 >>> ((nI n).toUInt32 &&& Int32.toUInt32 31)).toBitVec.getLsbD i = x.toUInt32.toBitVec.getLsbD (n + i)
  rw [UInt32.toBitVec_shiftRight]
  show (x.toUInt32.toBitVec >>> (((nI n).toUInt32 &&& Int32.toUInt32 31).toBitVec % 32).toNat).getLsbD i = _
  rw [s_u n hn, BitVec.getLsbD_ushiftRight]
theorem b_sshr (n : Nat) (hn : n < 32) (x : Int32) {i : Nat} (hi : i < 32) : bt (x >>> (nI n &&& 31)) i = if n + i < 32 then bt x (n + i) else bt x 31 := by
  unfold bt
  rw [Int32.toBitVec_shiftRight]
  show (x.toBitVec.sshiftRight ((nI n &&& 31).toBitVec.smod 32).toNat).getLsbD i = _
  rw [s_l n hn, BitVec.getLsbD_sshiftRight, BitVec.msb_eq_getLsbD_last]
  simp [hi]
theorem b_one : ∀ i, i < 32 → bt (zI 1) i = decide (i = 0) := by decide +kernel
theorem z_nI (n : Nat) : zI (n : Int) = nI n := rfl
/-- the bit of a cell, as the code asks it -/
theorem z_bit (h : Int32) {c : Nat} (hc : c < 32) : (h >>> (zI (c : Int) &&& 31)) &&& zI 1 = zI (if bt h c = true then 1 else 0) := by
  apply b_ext
  intro i hi
  rw [b_and, z_nI, b_sshr c hc h hi, b_one i hi]
  by_cases h0 : i = 0
  · subst h0
    rw [if_pos (by omega), Nat.add_zero]
    cases bt h c
    · exact (b_0 0).symm
    · exact (b_one 0 (by omega)).symm
  · rw [decide_eq_false h0, Bool.and_false]
    cases bt h c
    · exact (b_0 i).symm
    · exact ((b_one i hi).trans (decide_eq_false h0)).symm
theorem b_pow {c : Nat} (hc : c < 32) {i : Nat} (hi : i < 32) : bt (zI 1 <<< (zI (c : Int) &&& 31)) i = decide (i = c) := by
  rw [z_nI, b_shl c hc _ hi]
  by_cases h1 : c ≤ i
  · rw [decide_eq_true h1, Bool.true_and, b_one _ (by omega)]
    by_cases h2 : i = c
    · rw [decide_eq_true h2, decide_eq_true (by omega)]
    · rw [decide_eq_false h2, decide_eq_false (by omega)]
  · rw [decide_eq_false h1, Bool.false_and, decide_eq_false (by omega)]
theorem b_neg (x : Int32) {i : Nat} (hi : i < 32) : bt (x ^^^ zI (-1)) i = !bt x i := by
  rw [b_xor, show zI (-1) = -1 from rfl, b_m1 i hi]
  cases bt x i <;> rfl
/-- the cells from 0 on, so many -/
theorem b_low : ∀ n : Nat, n < 26 → ∀ i, i < 32 → bt ((zI 1 <<< (zI (n : Int) &&& 31)) - zI 1) i = decide (i < n) := by decide +kernel
end
section
/-! Integer.bitCount counts bits -/
def n_pc (N : Nat) : Nat → Nat
  | 0 => 0
  | n + 1 => n_pc N n + (N.testBit n).toNat
theorem n_pc_c {A B : Nat} : ∀ {n : Nat}, (∀ j, j < n → A.testBit j = B.testBit j) → n_pc A n = n_pc B n := by
  intro n
  induction n with
  | zero => intro _; rfl
  | succ n ih =>
    intro h
    show n_pc A n + (A.testBit n).toNat = n_pc B n + (B.testBit n).toNat
    rw [ih (fun j hj => h j (by omega)), h n (by omega)]
theorem n_pc_8 (N : Nat) : ∀ n : Nat, n_pc N (8 + n) = n_pc (N % 256) 8 + n_pc (N / 256) n := by
  intro n
  induction n with
  | zero =>
    show n_pc N 8 = n_pc (N % 256) 8 + 0
    rw [Nat.add_zero]
    exact n_pc_c (fun j hj => by rw [show 256 = 2 ^ 8 from rfl, Nat.testBit_mod_two_pow, decide_eq_true hj, Bool.true_and])
  | succ n ih =>
    show n_pc N (8 + n) + (N.testBit (8 + n)).toNat = n_pc (N % 256) 8 + (n_pc (N / 256) n + ((N / 256).testBit n).toNat)
    rw [ih, show 256 = 2 ^ 8 from rfl, Nat.testBit_div_two_pow, Nat.add_comm n 8]
    omega
theorem n_and {b m R Q : Nat} (hb : b < 256) (hm : m < 256) : (b + 256 * R) &&& (m + 256 * Q) = (b &&& m) + 256 * (R &&& Q) := by
  have hb8 : b < 2 ^ 8 := hb
  have hm8 : m < 2 ^ 8 := hm
  have h1 : b &&& m < 2 ^ 8 := Nat.and_lt_two_pow b hm8
  apply Nat.eq_of_testBit_eq
  intro j
  rw [Nat.testBit_and, Nat.add_comm b, Nat.add_comm m, Nat.add_comm (b &&& m), show 256 = 2 ^ 8 from rfl, Nat.testBit_two_pow_mul_add (i := 8) R hb8, Nat.testBit_two_pow_mul_add (i := 8) Q hm8, Nat.testBit_two_pow_mul_add (i := 8) (R &&& Q) h1]
  split
  · rw [Nat.testBit_and]
  · rw [Nat.testBit_and]
theorem n_k1 : ∀ y, y < 128 → ∀ r, r < 2 → (y + 128 * r) &&& 0x55 = y &&& 0x55 := by decide +kernel
theorem n_k2 : ∀ y, y < 64 → ∀ r, r < 4 → (y + 64 * r) &&& 0x33 = y &&& 0x33 := by decide +kernel
theorem n_s1 {b R Q : Nat} (hb : b < 256) : (b + 256 * R) / 2 &&& (0x55 + 256 * Q) = (b / 2 &&& 0x55) + 256 * (R / 2 &&& Q) := by
  rw [show (b + 256 * R) / 2 = (b / 2 + 128 * (R % 2)) + 256 * (R / 2) by omega, n_and (by omega) (by omega), n_k1 _ (by omega) _ (by omega)]
theorem n_s2 {b R Q : Nat} (hb : b < 256) : (b + 256 * R) / 4 &&& (0x33 + 256 * Q) = (b / 4 &&& 0x33) + 256 * (R / 4 &&& Q) := by
  rw [show (b + 256 * R) / 4 = (b / 4 + 64 * (R % 4)) + 256 * (R / 4) by omega, n_and (by omega) (by omega), n_k2 _ (by omega) _ (by omega)]
def n_f1 (b : Nat) : Nat := b - (b / 2 &&& 0x55)
def n_f2 (b : Nat) : Nat := (n_f1 b &&& 0x33) + (n_f1 b / 4 &&& 0x33)
theorem n_b1 : ∀ b, b < 256 → (b / 2 &&& 0x55) ≤ b ∧ n_f1 b < 256 := by decide +kernel
theorem n_b2 : ∀ b, b < 256 → n_f2 b ≤ 68 ∧ n_f2 b % 16 ≤ 4 := by decide +kernel
theorem n_b3 : ∀ b, b < 256 → (n_f2 b + n_f2 b / 16) % 16 = n_pc b 8 ∧ n_pc b 8 ≤ 8 := by decide +kernel
end
section
theorem n_e1 {b0 b1 b2 b3 : Nat} (h0 : b0 < 256) (h1 : b1 < 256) (h2 : b2 < 256) : (b0 + 256 * (b1 + 256 * (b2 + 256 * b3))) / 2 &&& 0x55555555 = (b0 / 2 &&& 0x55) + 256 * ((b1 / 2 &&& 0x55) + 256 * ((b2 / 2 &&& 0x55) + 256 * (b3 / 2 &&& 0x55))) := by
  have e : (0x55555555 : Nat) = 0x55 + 256 * (0x55 + 256 * (0x55 + 256 * 0x55)) := by decide
  rw [e, n_s1 h0, n_s1 h1, n_s1 h2]
theorem n_e3 {b0 b1 b2 b3 : Nat} (h0 : b0 < 256) (h1 : b1 < 256) (h2 : b2 < 256) : (b0 + 256 * (b1 + 256 * (b2 + 256 * b3))) &&& 0x33333333 = (b0 &&& 0x33) + 256 * ((b1 &&& 0x33) + 256 * ((b2 &&& 0x33) + 256 * (b3 &&& 0x33))) := by
  have e : (0x33333333 : Nat) = 0x33 + 256 * (0x33 + 256 * (0x33 + 256 * 0x33)) := by decide
  rw [e, n_and h0 (by decide), n_and h1 (by decide), n_and h2 (by decide)]
theorem n_e4 {b0 b1 b2 b3 : Nat} (h0 : b0 < 256) (h1 : b1 < 256) (h2 : b2 < 256) : (b0 + 256 * (b1 + 256 * (b2 + 256 * b3))) / 4 &&& 0x33333333 = (b0 / 4 &&& 0x33) + 256 * ((b1 / 4 &&& 0x33) + 256 * ((b2 / 4 &&& 0x33) + 256 * (b3 / 4 &&& 0x33))) := by
  have e : (0x33333333 : Nat) = 0x33 + 256 * (0x33 + 256 * (0x33 + 256 * 0x33)) := by decide
  rw [e, n_s2 h0, n_s2 h1, n_s2 h2]
theorem n_e5 {b0 b1 b2 b3 : Nat} (h0 : b0 < 256) (h1 : b1 < 256) (h2 : b2 < 256) : (b0 + 256 * (b1 + 256 * (b2 + 256 * b3))) &&& 0x0f0f0f0f = b0 % 16 + 256 * (b1 % 16 + 256 * (b2 % 16 + 256 * (b3 % 16))) := by
  have e : (0x0f0f0f0f : Nat) = 0x0f + 256 * (0x0f + 256 * (0x0f + 256 * 0x0f)) := by decide
  have k15 : ∀ x : Nat, x &&& 15 = x % 16 := fun x => Nat.and_two_pow_sub_one_eq_mod x 4
  rw [e, n_and h0 (by decide), n_and h1 (by decide), n_and h2 (by decide), k15, k15, k15, k15]
theorem n_d16 {l h R : Nat} (hl : l < 16) : (l + 16 * h + 256 * R) / 16 = h + 16 * R := by
  rw [show l + 16 * h + 256 * R = l + 16 * (h + 16 * R) by omega, Nat.add_mul_div_left _ _ (by decide), Nat.div_eq_of_lt hl, Nat.zero_add]
theorem n_sum {l0 h0 l1 h1 l2 h2 l3 h3 : Nat} (a0 : l0 < 16) : (l0 + 16 * h0 + 256 * (l1 + 16 * h1 + 256 * (l2 + 16 * h2 + 256 * (l3 + 16 * h3)))) + (l0 + 16 * h0 + 256 * (l1 + 16 * h1 + 256 * (l2 + 16 * h2 + 256 * (l3 + 16 * h3)))) / 16 = (l0 + 16 * h0 + h0 + 16 * l1) + 256 * ((l1 + 16 * h1 + h1 + 16 * l2) + 256 * ((l2 + 16 * h2 + h2 + 16 * l3) + 256 * (l3 + 16 * h3 + h3))) := by
  rw [n_d16 a0]
  omega
theorem n_mod {x l : Nat} : (x + 16 * l) % 16 = x % 16 := Nat.add_mul_mod_self_left x 16 l
theorem n_B {b : Nat} (hb : b < 256) : ∃ l h : Nat, n_f2 b = l + 16 * h ∧ l ≤ 4 ∧ h ≤ 4 ∧ (l + 16 * h + h) % 16 = n_pc b 8 := by
  have t := n_b2 b hb
  have p := (n_b3 b hb).1
  refine ⟨n_f2 b % 16, n_f2 b / 16, by omega, t.2, by omega, ?_⟩
  rw [show n_f2 b % 16 + 16 * (n_f2 b / 16) = n_f2 b by omega]
  exact p
theorem n_all1 {b0 b1 b2 b3 : Nat} (h0 : b0 < 256) (h1 : b1 < 256) (h2 : b2 < 256) (h3 : b3 < 256) : (b0 + 256 * (b1 + 256 * (b2 + 256 * b3))) - ((b0 + 256 * (b1 + 256 * (b2 + 256 * b3))) / 2 &&& 0x55555555) = n_f1 b0 + 256 * (n_f1 b1 + 256 * (n_f1 b2 + 256 * n_f1 b3)) ∧ ((b0 + 256 * (b1 + 256 * (b2 + 256 * b3))) / 2 &&& 0x55555555) ≤ b0 + 256 * (b1 + 256 * (b2 + 256 * b3)) := by
  rw [n_e1 h0 h1 h2]
  have g0 := (n_b1 b0 h0).1
  have g1 := (n_b1 b1 h1).1
  have g2 := (n_b1 b2 h2).1
  have g3 := (n_b1 b3 h3).1
  unfold n_f1
  generalize (b0 / 2 &&& 85) = x0 at *
  generalize (b1 / 2 &&& 85) = x1 at *
  generalize (b2 / 2 &&& 85) = x2 at *
  generalize (b3 / 2 &&& 85) = x3 at *
  omega
theorem n_all2 {b0 b1 b2 b3 : Nat} (h0 : b0 < 256) (h1 : b1 < 256) (h2 : b2 < 256) : ((n_f1 b0 + 256 * (n_f1 b1 + 256 * (n_f1 b2 + 256 * n_f1 b3))) &&& 0x33333333) + ((n_f1 b0 + 256 * (n_f1 b1 + 256 * (n_f1 b2 + 256 * n_f1 b3))) / 4 &&& 0x33333333) = n_f2 b0 + 256 * (n_f2 b1 + 256 * (n_f2 b2 + 256 * n_f2 b3)) := by
  rw [n_e3 (n_b1 b0 h0).2 (n_b1 b1 h1).2 (n_b1 b2 h2).2, n_e4 (n_b1 b0 h0).2 (n_b1 b1 h1).2 (n_b1 b2 h2).2]
  unfold n_f2
  generalize (n_f1 b0 &&& 51) = x0
  generalize (n_f1 b1 &&& 51) = x1
  generalize (n_f1 b2 &&& 51) = x2
  generalize (n_f1 b3 &&& 51) = x3
  generalize (n_f1 b0 / 4 &&& 51) = z0
  generalize (n_f1 b1 / 4 &&& 51) = z1
  generalize (n_f1 b2 / 4 &&& 51) = z2
  generalize (n_f1 b3 / 4 &&& 51) = z3
  omega
theorem n_all3 {b0 b1 b2 b3 : Nat} (h0 : b0 < 256) (h1 : b1 < 256) (h2 : b2 < 256) (h3 : b3 < 256) : ∀ B : Nat, B = n_f2 b0 + 256 * (n_f2 b1 + 256 * (n_f2 b2 + 256 * n_f2 b3)) → B + B / 16 < 4294967296 ∧ (B + B / 16) &&& 0x0f0f0f0f = n_pc b0 8 + 256 * (n_pc b1 8 + 256 * (n_pc b2 8 + 256 * n_pc b3 8)) := by
  intro B hB
  obtain ⟨l0, q0, e0, u0, v0, p0⟩ := n_B h0
  obtain ⟨l1, q1, e1, u1, v1, p1⟩ := n_B h1
  obtain ⟨l2, q2, e2, u2, v2, p2⟩ := n_B h2
  obtain ⟨l3, q3, e3, u3, v3, p3⟩ := n_B h3
  rw [e0, e1, e2, e3] at hB
  subst hB
  rw [n_sum (by omega)]
  refine ⟨by omega, ?_⟩
  rw [n_e5 (by omega) (by omega) (by omega), n_mod, n_mod, n_mod, p0, p1, p2, p3]
end
section
/-! RUNS that come to something: Q says what of the answer and the cells -/
def z_R (S : ZS) (d y pc : Nat) (ls : ZL) (st : List Value) (M : ZM) (Q : Option Value → ZM → Prop) : Prop := ∃ r M', z_G S d y pc ls st M r M' ∧ Q r M'
theorem r_of {S : ZS} {d y pc : Nat} {ls : ZL} {st : List Value} {M : ZM} {Q Q' : Option Value → ZM → Prop} (h : z_R S d y pc ls st M Q) (hq : ∀ r M', Q r M' → Q' r M') : z_R S d y pc ls st M Q' := by
  obtain ⟨r, M', h1, h2⟩ := h
  exact ⟨r, M', h1, hq r M' h2⟩
theorem k_of {S : ZS} {d y : Nat} {as : List Value} {n : Nat} {L : ZL} {M : ZM} {Q : Option Value → ZM → Prop} (hn : (z_mt y).2.2.1 = n) (hl : z_ent as n = L) (h0 : (z_sl as).length ≤ n) (k : z_R S d y 0 L [] M Q) : ∃ r M', z_C S d y as M r M' ∧ Q r M' := by
  obtain ⟨r, M', h1, h2⟩ := k
  exact ⟨r, M', c_of hn hl h0 h1, h2⟩
/-- the answer is known -/
theorem k_an {S : ZS} {d y : Nat} {as : List Value} {M : ZM} {a : Option Value} {Q : ZM → Prop} (h : ∃ r M', z_C S d y as M r M' ∧ (r = a ∧ Q M')) : ∃ M', z_C S d y as M a M' ∧ Q M' := by
  obtain ⟨r, M', h1, rfl, h2⟩ := h
  exact ⟨M', h1, h2⟩
section ZR
variable {S : ZS} {d y pc nx : Nat} {ls : ZL} {st : List Value} {M : ZM} {Q : Option Value → ZM → Prop}
theorem r_ic {n : Int} (hc : z_code y pc = some (nx, .iconst n)) (k : z_R S d y nx ls (.int (zI n) :: st) M Q) : z_R S d y pc ls st M Q := by
  obtain ⟨r, M', k, hq⟩ := k
  exact ⟨r, M', g_ic hc k, hq⟩
theorem r_lc {n : Int} (hc : z_code y pc = some (nx, .goto_w n)) (k : z_R S d y nx ls (.long (Int64.ofInt n) :: st) M Q) : z_R S d y pc ls st M Q := by
  obtain ⟨r, M', k, hq⟩ := k
  exact ⟨r, M', g_lc hc k, hq⟩
theorem r_null (hc : z_code y pc = some (nx, .aconst_null)) (k : z_R S d y nx ls (.null :: st) M Q) : z_R S d y pc ls st M Q := by
  obtain ⟨r, M', k, hq⟩ := k
  exact ⟨r, M', g_null hc k, hq⟩
theorem r_ldc {n : Nat} (hc : z_code y pc = some (nx, .ldc n)) (hn : n < 3) (k : z_R S d y nx ls (.ref (1001 + n) :: st) M Q) : z_R S d y pc ls st M Q := by
  obtain ⟨r, M', k, hq⟩ := k
  exact ⟨r, M', g_ldc hc hn k, hq⟩
theorem r_il {n : Nat} {x : Int32} (hc : z_code y pc = some (nx, .iload n)) (hl : ls[n]? = some (some (.int x))) (k : z_R S d y nx ls (.int x :: st) M Q) : z_R S d y pc ls st M Q := by
  obtain ⟨r, M', k, hq⟩ := k
  exact ⟨r, M', g_il hc hl k, hq⟩
theorem r_ll {n : Nat} {x : Int64} (hc : z_code y pc = some (nx, .lload n)) (hl : ls[n]? = some (some (.long x))) (k : z_R S d y nx ls (.long x :: st) M Q) : z_R S d y pc ls st M Q := by
  obtain ⟨r, M', k, hq⟩ := k
  exact ⟨r, M', g_ll hc hl k, hq⟩
theorem r_al {n : Nat} {x : Nat} (hc : z_code y pc = some (nx, .aload n)) (hl : ls[n]? = some (some (.ref x))) (k : z_R S d y nx ls (.ref x :: st) M Q) : z_R S d y pc ls st M Q := by
  obtain ⟨r, M', k, hq⟩ := k
  exact ⟨r, M', g_al hc hl k, hq⟩
theorem r_aln {n : Nat} (hc : z_code y pc = some (nx, .aload n)) (hl : ls[n]? = some (some .null)) (k : z_R S d y nx ls (.null :: st) M Q) : z_R S d y pc ls st M Q := by
  obtain ⟨r, M', k, hq⟩ := k
  exact ⟨r, M', g_aln hc hl k, hq⟩
theorem r_is0 {v0 : Option Value} {t : ZL} {x : Int32} (hc : z_code y pc = some (nx, .istore 0)) (k : z_R S d y nx (some (.int x) :: t) st M Q) : z_R S d y pc (v0 :: t) (.int x :: st) M Q := by
  obtain ⟨r, M', k, hq⟩ := k
  exact ⟨r, M', g_is0 hc k, hq⟩
theorem r_as0 {v0 : Option Value} {t : ZL} {x : Nat} (hc : z_code y pc = some (nx, .astore 0)) (k : z_R S d y nx (some (.ref x) :: t) st M Q) : z_R S d y pc (v0 :: t) (.ref x :: st) M Q := by
  obtain ⟨r, M', k, hq⟩ := k
  exact ⟨r, M', g_as0 hc k, hq⟩
theorem r_an0 {v0 : Option Value} {t : ZL} (hc : z_code y pc = some (nx, .astore 0)) (k : z_R S d y nx (some (.null) :: t) st M Q) : z_R S d y pc (v0 :: t) (.null :: st) M Q := by
  obtain ⟨r, M', k, hq⟩ := k
  exact ⟨r, M', g_an0 hc k, hq⟩
theorem r_is1 {v0 v1 : Option Value} {t : ZL} {x : Int32} (hc : z_code y pc = some (nx, .istore 1)) (hv : z_nl v0 = true) (k : z_R S d y nx (v0 :: some (.int x) :: t) st M Q) : z_R S d y pc (v0 :: v1 :: t) (.int x :: st) M Q := by
  obtain ⟨r, M', k, hq⟩ := k
  exact ⟨r, M', g_is1 hc hv k, hq⟩
theorem r_as1 {v0 v1 : Option Value} {t : ZL} {x : Nat} (hc : z_code y pc = some (nx, .astore 1)) (hv : z_nl v0 = true) (k : z_R S d y nx (v0 :: some (.ref x) :: t) st M Q) : z_R S d y pc (v0 :: v1 :: t) (.ref x :: st) M Q := by
  obtain ⟨r, M', k, hq⟩ := k
  exact ⟨r, M', g_as1 hc hv k, hq⟩
theorem r_an1 {v0 v1 : Option Value} {t : ZL} (hc : z_code y pc = some (nx, .astore 1)) (hv : z_nl v0 = true) (k : z_R S d y nx (v0 :: some (.null) :: t) st M Q) : z_R S d y pc (v0 :: v1 :: t) (.null :: st) M Q := by
  obtain ⟨r, M', k, hq⟩ := k
  exact ⟨r, M', g_an1 hc hv k, hq⟩
theorem r_is2 {v0 v1 v2 : Option Value} {t : ZL} {x : Int32} (hc : z_code y pc = some (nx, .istore 2)) (hv : z_nl v1 = true) (k : z_R S d y nx (v0 :: v1 :: some (.int x) :: t) st M Q) : z_R S d y pc (v0 :: v1 :: v2 :: t) (.int x :: st) M Q := by
  obtain ⟨r, M', k, hq⟩ := k
  exact ⟨r, M', g_is2 hc hv k, hq⟩
theorem r_as2 {v0 v1 v2 : Option Value} {t : ZL} {x : Nat} (hc : z_code y pc = some (nx, .astore 2)) (hv : z_nl v1 = true) (k : z_R S d y nx (v0 :: v1 :: some (.ref x) :: t) st M Q) : z_R S d y pc (v0 :: v1 :: v2 :: t) (.ref x :: st) M Q := by
  obtain ⟨r, M', k, hq⟩ := k
  exact ⟨r, M', g_as2 hc hv k, hq⟩
theorem r_an2 {v0 v1 v2 : Option Value} {t : ZL} (hc : z_code y pc = some (nx, .astore 2)) (hv : z_nl v1 = true) (k : z_R S d y nx (v0 :: v1 :: some (.null) :: t) st M Q) : z_R S d y pc (v0 :: v1 :: v2 :: t) (.null :: st) M Q := by
  obtain ⟨r, M', k, hq⟩ := k
  exact ⟨r, M', g_an2 hc hv k, hq⟩
theorem r_is3 {v0 v1 v2 v3 : Option Value} {t : ZL} {x : Int32} (hc : z_code y pc = some (nx, .istore 3)) (hv : z_nl v2 = true) (k : z_R S d y nx (v0 :: v1 :: v2 :: some (.int x) :: t) st M Q) : z_R S d y pc (v0 :: v1 :: v2 :: v3 :: t) (.int x :: st) M Q := by
  obtain ⟨r, M', k, hq⟩ := k
  exact ⟨r, M', g_is3 hc hv k, hq⟩
theorem r_as3 {v0 v1 v2 v3 : Option Value} {t : ZL} {x : Nat} (hc : z_code y pc = some (nx, .astore 3)) (hv : z_nl v2 = true) (k : z_R S d y nx (v0 :: v1 :: v2 :: some (.ref x) :: t) st M Q) : z_R S d y pc (v0 :: v1 :: v2 :: v3 :: t) (.ref x :: st) M Q := by
  obtain ⟨r, M', k, hq⟩ := k
  exact ⟨r, M', g_as3 hc hv k, hq⟩
theorem r_an3 {v0 v1 v2 v3 : Option Value} {t : ZL} (hc : z_code y pc = some (nx, .astore 3)) (hv : z_nl v2 = true) (k : z_R S d y nx (v0 :: v1 :: v2 :: some (.null) :: t) st M Q) : z_R S d y pc (v0 :: v1 :: v2 :: v3 :: t) (.null :: st) M Q := by
  obtain ⟨r, M', k, hq⟩ := k
  exact ⟨r, M', g_an3 hc hv k, hq⟩
theorem r_is4 {v0 v1 v2 v3 v4 : Option Value} {t : ZL} {x : Int32} (hc : z_code y pc = some (nx, .istore 4)) (hv : z_nl v3 = true) (k : z_R S d y nx (v0 :: v1 :: v2 :: v3 :: some (.int x) :: t) st M Q) : z_R S d y pc (v0 :: v1 :: v2 :: v3 :: v4 :: t) (.int x :: st) M Q := by
  obtain ⟨r, M', k, hq⟩ := k
  exact ⟨r, M', g_is4 hc hv k, hq⟩
theorem r_as4 {v0 v1 v2 v3 v4 : Option Value} {t : ZL} {x : Nat} (hc : z_code y pc = some (nx, .astore 4)) (hv : z_nl v3 = true) (k : z_R S d y nx (v0 :: v1 :: v2 :: v3 :: some (.ref x) :: t) st M Q) : z_R S d y pc (v0 :: v1 :: v2 :: v3 :: v4 :: t) (.ref x :: st) M Q := by
  obtain ⟨r, M', k, hq⟩ := k
  exact ⟨r, M', g_as4 hc hv k, hq⟩
theorem r_an4 {v0 v1 v2 v3 v4 : Option Value} {t : ZL} (hc : z_code y pc = some (nx, .astore 4)) (hv : z_nl v3 = true) (k : z_R S d y nx (v0 :: v1 :: v2 :: v3 :: some (.null) :: t) st M Q) : z_R S d y pc (v0 :: v1 :: v2 :: v3 :: v4 :: t) (.null :: st) M Q := by
  obtain ⟨r, M', k, hq⟩ := k
  exact ⟨r, M', g_an4 hc hv k, hq⟩
theorem r_is5 {v0 v1 v2 v3 v4 v5 : Option Value} {t : ZL} {x : Int32} (hc : z_code y pc = some (nx, .istore 5)) (hv : z_nl v4 = true) (k : z_R S d y nx (v0 :: v1 :: v2 :: v3 :: v4 :: some (.int x) :: t) st M Q) : z_R S d y pc (v0 :: v1 :: v2 :: v3 :: v4 :: v5 :: t) (.int x :: st) M Q := by
  obtain ⟨r, M', k, hq⟩ := k
  exact ⟨r, M', g_is5 hc hv k, hq⟩
theorem r_as5 {v0 v1 v2 v3 v4 v5 : Option Value} {t : ZL} {x : Nat} (hc : z_code y pc = some (nx, .astore 5)) (hv : z_nl v4 = true) (k : z_R S d y nx (v0 :: v1 :: v2 :: v3 :: v4 :: some (.ref x) :: t) st M Q) : z_R S d y pc (v0 :: v1 :: v2 :: v3 :: v4 :: v5 :: t) (.ref x :: st) M Q := by
  obtain ⟨r, M', k, hq⟩ := k
  exact ⟨r, M', g_as5 hc hv k, hq⟩
theorem r_an5 {v0 v1 v2 v3 v4 v5 : Option Value} {t : ZL} (hc : z_code y pc = some (nx, .astore 5)) (hv : z_nl v4 = true) (k : z_R S d y nx (v0 :: v1 :: v2 :: v3 :: v4 :: some (.null) :: t) st M Q) : z_R S d y pc (v0 :: v1 :: v2 :: v3 :: v4 :: v5 :: t) (.null :: st) M Q := by
  obtain ⟨r, M', k, hq⟩ := k
  exact ⟨r, M', g_an5 hc hv k, hq⟩
theorem r_is6 {v0 v1 v2 v3 v4 v5 v6 : Option Value} {t : ZL} {x : Int32} (hc : z_code y pc = some (nx, .istore 6)) (hv : z_nl v5 = true) (k : z_R S d y nx (v0 :: v1 :: v2 :: v3 :: v4 :: v5 :: some (.int x) :: t) st M Q) : z_R S d y pc (v0 :: v1 :: v2 :: v3 :: v4 :: v5 :: v6 :: t) (.int x :: st) M Q := by
  obtain ⟨r, M', k, hq⟩ := k
  exact ⟨r, M', g_is6 hc hv k, hq⟩
theorem r_as6 {v0 v1 v2 v3 v4 v5 v6 : Option Value} {t : ZL} {x : Nat} (hc : z_code y pc = some (nx, .astore 6)) (hv : z_nl v5 = true) (k : z_R S d y nx (v0 :: v1 :: v2 :: v3 :: v4 :: v5 :: some (.ref x) :: t) st M Q) : z_R S d y pc (v0 :: v1 :: v2 :: v3 :: v4 :: v5 :: v6 :: t) (.ref x :: st) M Q := by
  obtain ⟨r, M', k, hq⟩ := k
  exact ⟨r, M', g_as6 hc hv k, hq⟩
theorem r_an6 {v0 v1 v2 v3 v4 v5 v6 : Option Value} {t : ZL} (hc : z_code y pc = some (nx, .astore 6)) (hv : z_nl v5 = true) (k : z_R S d y nx (v0 :: v1 :: v2 :: v3 :: v4 :: v5 :: some (.null) :: t) st M Q) : z_R S d y pc (v0 :: v1 :: v2 :: v3 :: v4 :: v5 :: v6 :: t) (.null :: st) M Q := by
  obtain ⟨r, M', k, hq⟩ := k
  exact ⟨r, M', g_an6 hc hv k, hq⟩
theorem r_is7 {v0 v1 v2 v3 v4 v5 v6 v7 : Option Value} {t : ZL} {x : Int32} (hc : z_code y pc = some (nx, .istore 7)) (hv : z_nl v6 = true) (k : z_R S d y nx (v0 :: v1 :: v2 :: v3 :: v4 :: v5 :: v6 :: some (.int x) :: t) st M Q) : z_R S d y pc (v0 :: v1 :: v2 :: v3 :: v4 :: v5 :: v6 :: v7 :: t) (.int x :: st) M Q := by
  obtain ⟨r, M', k, hq⟩ := k
  exact ⟨r, M', g_is7 hc hv k, hq⟩
theorem r_as7 {v0 v1 v2 v3 v4 v5 v6 v7 : Option Value} {t : ZL} {x : Nat} (hc : z_code y pc = some (nx, .astore 7)) (hv : z_nl v6 = true) (k : z_R S d y nx (v0 :: v1 :: v2 :: v3 :: v4 :: v5 :: v6 :: some (.ref x) :: t) st M Q) : z_R S d y pc (v0 :: v1 :: v2 :: v3 :: v4 :: v5 :: v6 :: v7 :: t) (.ref x :: st) M Q := by
  obtain ⟨r, M', k, hq⟩ := k
  exact ⟨r, M', g_as7 hc hv k, hq⟩
theorem r_an7 {v0 v1 v2 v3 v4 v5 v6 v7 : Option Value} {t : ZL} (hc : z_code y pc = some (nx, .astore 7)) (hv : z_nl v6 = true) (k : z_R S d y nx (v0 :: v1 :: v2 :: v3 :: v4 :: v5 :: v6 :: some (.null) :: t) st M Q) : z_R S d y pc (v0 :: v1 :: v2 :: v3 :: v4 :: v5 :: v6 :: v7 :: t) (.null :: st) M Q := by
  obtain ⟨r, M', k, hq⟩ := k
  exact ⟨r, M', g_an7 hc hv k, hq⟩
theorem r_is8 {v0 v1 v2 v3 v4 v5 v6 v7 v8 : Option Value} {t : ZL} {x : Int32} (hc : z_code y pc = some (nx, .istore 8)) (hv : z_nl v7 = true) (k : z_R S d y nx (v0 :: v1 :: v2 :: v3 :: v4 :: v5 :: v6 :: v7 :: some (.int x) :: t) st M Q) : z_R S d y pc (v0 :: v1 :: v2 :: v3 :: v4 :: v5 :: v6 :: v7 :: v8 :: t) (.int x :: st) M Q := by
  obtain ⟨r, M', k, hq⟩ := k
  exact ⟨r, M', g_is8 hc hv k, hq⟩
theorem r_as8 {v0 v1 v2 v3 v4 v5 v6 v7 v8 : Option Value} {t : ZL} {x : Nat} (hc : z_code y pc = some (nx, .astore 8)) (hv : z_nl v7 = true) (k : z_R S d y nx (v0 :: v1 :: v2 :: v3 :: v4 :: v5 :: v6 :: v7 :: some (.ref x) :: t) st M Q) : z_R S d y pc (v0 :: v1 :: v2 :: v3 :: v4 :: v5 :: v6 :: v7 :: v8 :: t) (.ref x :: st) M Q := by
  obtain ⟨r, M', k, hq⟩ := k
  exact ⟨r, M', g_as8 hc hv k, hq⟩
theorem r_an8 {v0 v1 v2 v3 v4 v5 v6 v7 v8 : Option Value} {t : ZL} (hc : z_code y pc = some (nx, .astore 8)) (hv : z_nl v7 = true) (k : z_R S d y nx (v0 :: v1 :: v2 :: v3 :: v4 :: v5 :: v6 :: v7 :: some (.null) :: t) st M Q) : z_R S d y pc (v0 :: v1 :: v2 :: v3 :: v4 :: v5 :: v6 :: v7 :: v8 :: t) (.null :: st) M Q := by
  obtain ⟨r, M', k, hq⟩ := k
  exact ⟨r, M', g_an8 hc hv k, hq⟩
theorem r_is9 {v0 v1 v2 v3 v4 v5 v6 v7 v8 v9 : Option Value} {t : ZL} {x : Int32} (hc : z_code y pc = some (nx, .istore 9)) (hv : z_nl v8 = true) (k : z_R S d y nx (v0 :: v1 :: v2 :: v3 :: v4 :: v5 :: v6 :: v7 :: v8 :: some (.int x) :: t) st M Q) : z_R S d y pc (v0 :: v1 :: v2 :: v3 :: v4 :: v5 :: v6 :: v7 :: v8 :: v9 :: t) (.int x :: st) M Q := by
  obtain ⟨r, M', k, hq⟩ := k
  exact ⟨r, M', g_is9 hc hv k, hq⟩
theorem r_as9 {v0 v1 v2 v3 v4 v5 v6 v7 v8 v9 : Option Value} {t : ZL} {x : Nat} (hc : z_code y pc = some (nx, .astore 9)) (hv : z_nl v8 = true) (k : z_R S d y nx (v0 :: v1 :: v2 :: v3 :: v4 :: v5 :: v6 :: v7 :: v8 :: some (.ref x) :: t) st M Q) : z_R S d y pc (v0 :: v1 :: v2 :: v3 :: v4 :: v5 :: v6 :: v7 :: v8 :: v9 :: t) (.ref x :: st) M Q := by
  obtain ⟨r, M', k, hq⟩ := k
  exact ⟨r, M', g_as9 hc hv k, hq⟩
theorem r_an9 {v0 v1 v2 v3 v4 v5 v6 v7 v8 v9 : Option Value} {t : ZL} (hc : z_code y pc = some (nx, .astore 9)) (hv : z_nl v8 = true) (k : z_R S d y nx (v0 :: v1 :: v2 :: v3 :: v4 :: v5 :: v6 :: v7 :: v8 :: some (.null) :: t) st M Q) : z_R S d y pc (v0 :: v1 :: v2 :: v3 :: v4 :: v5 :: v6 :: v7 :: v8 :: v9 :: t) (.null :: st) M Q := by
  obtain ⟨r, M', k, hq⟩ := k
  exact ⟨r, M', g_an9 hc hv k, hq⟩
theorem r_is10 {v0 v1 v2 v3 v4 v5 v6 v7 v8 v9 v10 : Option Value} {t : ZL} {x : Int32} (hc : z_code y pc = some (nx, .istore 10)) (hv : z_nl v9 = true) (k : z_R S d y nx (v0 :: v1 :: v2 :: v3 :: v4 :: v5 :: v6 :: v7 :: v8 :: v9 :: some (.int x) :: t) st M Q) : z_R S d y pc (v0 :: v1 :: v2 :: v3 :: v4 :: v5 :: v6 :: v7 :: v8 :: v9 :: v10 :: t) (.int x :: st) M Q := by
  obtain ⟨r, M', k, hq⟩ := k
  exact ⟨r, M', g_is10 hc hv k, hq⟩
theorem r_as10 {v0 v1 v2 v3 v4 v5 v6 v7 v8 v9 v10 : Option Value} {t : ZL} {x : Nat} (hc : z_code y pc = some (nx, .astore 10)) (hv : z_nl v9 = true) (k : z_R S d y nx (v0 :: v1 :: v2 :: v3 :: v4 :: v5 :: v6 :: v7 :: v8 :: v9 :: some (.ref x) :: t) st M Q) : z_R S d y pc (v0 :: v1 :: v2 :: v3 :: v4 :: v5 :: v6 :: v7 :: v8 :: v9 :: v10 :: t) (.ref x :: st) M Q := by
  obtain ⟨r, M', k, hq⟩ := k
  exact ⟨r, M', g_as10 hc hv k, hq⟩
theorem r_an10 {v0 v1 v2 v3 v4 v5 v6 v7 v8 v9 v10 : Option Value} {t : ZL} (hc : z_code y pc = some (nx, .astore 10)) (hv : z_nl v9 = true) (k : z_R S d y nx (v0 :: v1 :: v2 :: v3 :: v4 :: v5 :: v6 :: v7 :: v8 :: v9 :: some (.null) :: t) st M Q) : z_R S d y pc (v0 :: v1 :: v2 :: v3 :: v4 :: v5 :: v6 :: v7 :: v8 :: v9 :: v10 :: t) (.null :: st) M Q := by
  obtain ⟨r, M', k, hq⟩ := k
  exact ⟨r, M', g_an10 hc hv k, hq⟩
theorem r_is11 {v0 v1 v2 v3 v4 v5 v6 v7 v8 v9 v10 v11 : Option Value} {t : ZL} {x : Int32} (hc : z_code y pc = some (nx, .istore 11)) (hv : z_nl v10 = true) (k : z_R S d y nx (v0 :: v1 :: v2 :: v3 :: v4 :: v5 :: v6 :: v7 :: v8 :: v9 :: v10 :: some (.int x) :: t) st M Q) : z_R S d y pc (v0 :: v1 :: v2 :: v3 :: v4 :: v5 :: v6 :: v7 :: v8 :: v9 :: v10 :: v11 :: t) (.int x :: st) M Q := by
  obtain ⟨r, M', k, hq⟩ := k
  exact ⟨r, M', g_is11 hc hv k, hq⟩
theorem r_as11 {v0 v1 v2 v3 v4 v5 v6 v7 v8 v9 v10 v11 : Option Value} {t : ZL} {x : Nat} (hc : z_code y pc = some (nx, .astore 11)) (hv : z_nl v10 = true) (k : z_R S d y nx (v0 :: v1 :: v2 :: v3 :: v4 :: v5 :: v6 :: v7 :: v8 :: v9 :: v10 :: some (.ref x) :: t) st M Q) : z_R S d y pc (v0 :: v1 :: v2 :: v3 :: v4 :: v5 :: v6 :: v7 :: v8 :: v9 :: v10 :: v11 :: t) (.ref x :: st) M Q := by
  obtain ⟨r, M', k, hq⟩ := k
  exact ⟨r, M', g_as11 hc hv k, hq⟩
theorem r_an11 {v0 v1 v2 v3 v4 v5 v6 v7 v8 v9 v10 v11 : Option Value} {t : ZL} (hc : z_code y pc = some (nx, .astore 11)) (hv : z_nl v10 = true) (k : z_R S d y nx (v0 :: v1 :: v2 :: v3 :: v4 :: v5 :: v6 :: v7 :: v8 :: v9 :: v10 :: some (.null) :: t) st M Q) : z_R S d y pc (v0 :: v1 :: v2 :: v3 :: v4 :: v5 :: v6 :: v7 :: v8 :: v9 :: v10 :: v11 :: t) (.null :: st) M Q := by
  obtain ⟨r, M', k, hq⟩ := k
  exact ⟨r, M', g_an11 hc hv k, hq⟩
theorem r_is12 {v0 v1 v2 v3 v4 v5 v6 v7 v8 v9 v10 v11 v12 : Option Value} {t : ZL} {x : Int32} (hc : z_code y pc = some (nx, .istore 12)) (hv : z_nl v11 = true) (k : z_R S d y nx (v0 :: v1 :: v2 :: v3 :: v4 :: v5 :: v6 :: v7 :: v8 :: v9 :: v10 :: v11 :: some (.int x) :: t) st M Q) : z_R S d y pc (v0 :: v1 :: v2 :: v3 :: v4 :: v5 :: v6 :: v7 :: v8 :: v9 :: v10 :: v11 :: v12 :: t) (.int x :: st) M Q := by
  obtain ⟨r, M', k, hq⟩ := k
  exact ⟨r, M', g_is12 hc hv k, hq⟩
theorem r_as12 {v0 v1 v2 v3 v4 v5 v6 v7 v8 v9 v10 v11 v12 : Option Value} {t : ZL} {x : Nat} (hc : z_code y pc = some (nx, .astore 12)) (hv : z_nl v11 = true) (k : z_R S d y nx (v0 :: v1 :: v2 :: v3 :: v4 :: v5 :: v6 :: v7 :: v8 :: v9 :: v10 :: v11 :: some (.ref x) :: t) st M Q) : z_R S d y pc (v0 :: v1 :: v2 :: v3 :: v4 :: v5 :: v6 :: v7 :: v8 :: v9 :: v10 :: v11 :: v12 :: t) (.ref x :: st) M Q := by
  obtain ⟨r, M', k, hq⟩ := k
  exact ⟨r, M', g_as12 hc hv k, hq⟩
theorem r_an12 {v0 v1 v2 v3 v4 v5 v6 v7 v8 v9 v10 v11 v12 : Option Value} {t : ZL} (hc : z_code y pc = some (nx, .astore 12)) (hv : z_nl v11 = true) (k : z_R S d y nx (v0 :: v1 :: v2 :: v3 :: v4 :: v5 :: v6 :: v7 :: v8 :: v9 :: v10 :: v11 :: some (.null) :: t) st M Q) : z_R S d y pc (v0 :: v1 :: v2 :: v3 :: v4 :: v5 :: v6 :: v7 :: v8 :: v9 :: v10 :: v11 :: v12 :: t) (.null :: st) M Q := by
  obtain ⟨r, M', k, hq⟩ := k
  exact ⟨r, M', g_an12 hc hv k, hq⟩
theorem r_ii0 {t : ZL} {x : Int32} {n : Int} (hc : z_code y pc = some (nx, .iinc 0 n)) (k : z_R S d y nx (some (.int (x + zI n)) :: t) st M Q) : z_R S d y pc (some (.int x) :: t) st M Q := by
  obtain ⟨r, M', k, hq⟩ := k
  exact ⟨r, M', g_ii0 hc k, hq⟩
theorem r_ii1 {v0 : Option Value} {t : ZL} {x : Int32} {n : Int} (hc : z_code y pc = some (nx, .iinc 1 n)) (hv : z_nl v0 = true) (k : z_R S d y nx (v0 :: some (.int (x + zI n)) :: t) st M Q) : z_R S d y pc (v0 :: some (.int x) :: t) st M Q := by
  obtain ⟨r, M', k, hq⟩ := k
  exact ⟨r, M', g_ii1 hc hv k, hq⟩
theorem r_ii2 {v0 v1 : Option Value} {t : ZL} {x : Int32} {n : Int} (hc : z_code y pc = some (nx, .iinc 2 n)) (hv : z_nl v1 = true) (k : z_R S d y nx (v0 :: v1 :: some (.int (x + zI n)) :: t) st M Q) : z_R S d y pc (v0 :: v1 :: some (.int x) :: t) st M Q := by
  obtain ⟨r, M', k, hq⟩ := k
  exact ⟨r, M', g_ii2 hc hv k, hq⟩
theorem r_ii3 {v0 v1 v2 : Option Value} {t : ZL} {x : Int32} {n : Int} (hc : z_code y pc = some (nx, .iinc 3 n)) (hv : z_nl v2 = true) (k : z_R S d y nx (v0 :: v1 :: v2 :: some (.int (x + zI n)) :: t) st M Q) : z_R S d y pc (v0 :: v1 :: v2 :: some (.int x) :: t) st M Q := by
  obtain ⟨r, M', k, hq⟩ := k
  exact ⟨r, M', g_ii3 hc hv k, hq⟩
theorem r_ii4 {v0 v1 v2 v3 : Option Value} {t : ZL} {x : Int32} {n : Int} (hc : z_code y pc = some (nx, .iinc 4 n)) (hv : z_nl v3 = true) (k : z_R S d y nx (v0 :: v1 :: v2 :: v3 :: some (.int (x + zI n)) :: t) st M Q) : z_R S d y pc (v0 :: v1 :: v2 :: v3 :: some (.int x) :: t) st M Q := by
  obtain ⟨r, M', k, hq⟩ := k
  exact ⟨r, M', g_ii4 hc hv k, hq⟩
theorem r_ii5 {v0 v1 v2 v3 v4 : Option Value} {t : ZL} {x : Int32} {n : Int} (hc : z_code y pc = some (nx, .iinc 5 n)) (hv : z_nl v4 = true) (k : z_R S d y nx (v0 :: v1 :: v2 :: v3 :: v4 :: some (.int (x + zI n)) :: t) st M Q) : z_R S d y pc (v0 :: v1 :: v2 :: v3 :: v4 :: some (.int x) :: t) st M Q := by
  obtain ⟨r, M', k, hq⟩ := k
  exact ⟨r, M', g_ii5 hc hv k, hq⟩
theorem r_ii6 {v0 v1 v2 v3 v4 v5 : Option Value} {t : ZL} {x : Int32} {n : Int} (hc : z_code y pc = some (nx, .iinc 6 n)) (hv : z_nl v5 = true) (k : z_R S d y nx (v0 :: v1 :: v2 :: v3 :: v4 :: v5 :: some (.int (x + zI n)) :: t) st M Q) : z_R S d y pc (v0 :: v1 :: v2 :: v3 :: v4 :: v5 :: some (.int x) :: t) st M Q := by
  obtain ⟨r, M', k, hq⟩ := k
  exact ⟨r, M', g_ii6 hc hv k, hq⟩
theorem r_ii7 {v0 v1 v2 v3 v4 v5 v6 : Option Value} {t : ZL} {x : Int32} {n : Int} (hc : z_code y pc = some (nx, .iinc 7 n)) (hv : z_nl v6 = true) (k : z_R S d y nx (v0 :: v1 :: v2 :: v3 :: v4 :: v5 :: v6 :: some (.int (x + zI n)) :: t) st M Q) : z_R S d y pc (v0 :: v1 :: v2 :: v3 :: v4 :: v5 :: v6 :: some (.int x) :: t) st M Q := by
  obtain ⟨r, M', k, hq⟩ := k
  exact ⟨r, M', g_ii7 hc hv k, hq⟩
theorem r_ii8 {v0 v1 v2 v3 v4 v5 v6 v7 : Option Value} {t : ZL} {x : Int32} {n : Int} (hc : z_code y pc = some (nx, .iinc 8 n)) (hv : z_nl v7 = true) (k : z_R S d y nx (v0 :: v1 :: v2 :: v3 :: v4 :: v5 :: v6 :: v7 :: some (.int (x + zI n)) :: t) st M Q) : z_R S d y pc (v0 :: v1 :: v2 :: v3 :: v4 :: v5 :: v6 :: v7 :: some (.int x) :: t) st M Q := by
  obtain ⟨r, M', k, hq⟩ := k
  exact ⟨r, M', g_ii8 hc hv k, hq⟩
theorem r_ii9 {v0 v1 v2 v3 v4 v5 v6 v7 v8 : Option Value} {t : ZL} {x : Int32} {n : Int} (hc : z_code y pc = some (nx, .iinc 9 n)) (hv : z_nl v8 = true) (k : z_R S d y nx (v0 :: v1 :: v2 :: v3 :: v4 :: v5 :: v6 :: v7 :: v8 :: some (.int (x + zI n)) :: t) st M Q) : z_R S d y pc (v0 :: v1 :: v2 :: v3 :: v4 :: v5 :: v6 :: v7 :: v8 :: some (.int x) :: t) st M Q := by
  obtain ⟨r, M', k, hq⟩ := k
  exact ⟨r, M', g_ii9 hc hv k, hq⟩
theorem r_ii10 {v0 v1 v2 v3 v4 v5 v6 v7 v8 v9 : Option Value} {t : ZL} {x : Int32} {n : Int} (hc : z_code y pc = some (nx, .iinc 10 n)) (hv : z_nl v9 = true) (k : z_R S d y nx (v0 :: v1 :: v2 :: v3 :: v4 :: v5 :: v6 :: v7 :: v8 :: v9 :: some (.int (x + zI n)) :: t) st M Q) : z_R S d y pc (v0 :: v1 :: v2 :: v3 :: v4 :: v5 :: v6 :: v7 :: v8 :: v9 :: some (.int x) :: t) st M Q := by
  obtain ⟨r, M', k, hq⟩ := k
  exact ⟨r, M', g_ii10 hc hv k, hq⟩
theorem r_ii11 {v0 v1 v2 v3 v4 v5 v6 v7 v8 v9 v10 : Option Value} {t : ZL} {x : Int32} {n : Int} (hc : z_code y pc = some (nx, .iinc 11 n)) (hv : z_nl v10 = true) (k : z_R S d y nx (v0 :: v1 :: v2 :: v3 :: v4 :: v5 :: v6 :: v7 :: v8 :: v9 :: v10 :: some (.int (x + zI n)) :: t) st M Q) : z_R S d y pc (v0 :: v1 :: v2 :: v3 :: v4 :: v5 :: v6 :: v7 :: v8 :: v9 :: v10 :: some (.int x) :: t) st M Q := by
  obtain ⟨r, M', k, hq⟩ := k
  exact ⟨r, M', g_ii11 hc hv k, hq⟩
theorem r_ii12 {v0 v1 v2 v3 v4 v5 v6 v7 v8 v9 v10 v11 : Option Value} {t : ZL} {x : Int32} {n : Int} (hc : z_code y pc = some (nx, .iinc 12 n)) (hv : z_nl v11 = true) (k : z_R S d y nx (v0 :: v1 :: v2 :: v3 :: v4 :: v5 :: v6 :: v7 :: v8 :: v9 :: v10 :: v11 :: some (.int (x + zI n)) :: t) st M Q) : z_R S d y pc (v0 :: v1 :: v2 :: v3 :: v4 :: v5 :: v6 :: v7 :: v8 :: v9 :: v10 :: v11 :: some (.int x) :: t) st M Q := by
  obtain ⟨r, M', k, hq⟩ := k
  exact ⟨r, M', g_ii12 hc hv k, hq⟩
theorem r_iadd {a b : Int32} (hc : z_code y pc = some (nx, .iadd)) (k : z_R S d y nx ls (.int (a + b) :: st) M Q) : z_R S d y pc ls (.int b :: .int a :: st) M Q := by
  obtain ⟨r, M', k, hq⟩ := k
  exact ⟨r, M', g_iadd hc k, hq⟩
theorem r_isub {a b : Int32} (hc : z_code y pc = some (nx, .isub)) (k : z_R S d y nx ls (.int (a - b) :: st) M Q) : z_R S d y pc ls (.int b :: .int a :: st) M Q := by
  obtain ⟨r, M', k, hq⟩ := k
  exact ⟨r, M', g_isub hc k, hq⟩
theorem r_imul {a b : Int32} (hc : z_code y pc = some (nx, .imul)) (k : z_R S d y nx ls (.int (a * b) :: st) M Q) : z_R S d y pc ls (.int b :: .int a :: st) M Q := by
  obtain ⟨r, M', k, hq⟩ := k
  exact ⟨r, M', g_imul hc k, hq⟩
theorem r_iand {a b : Int32} (hc : z_code y pc = some (nx, .iand)) (k : z_R S d y nx ls (.int (a &&& b) :: st) M Q) : z_R S d y pc ls (.int b :: .int a :: st) M Q := by
  obtain ⟨r, M', k, hq⟩ := k
  exact ⟨r, M', g_iand hc k, hq⟩
theorem r_ior {a b : Int32} (hc : z_code y pc = some (nx, .ior)) (k : z_R S d y nx ls (.int (a ||| b) :: st) M Q) : z_R S d y pc ls (.int b :: .int a :: st) M Q := by
  obtain ⟨r, M', k, hq⟩ := k
  exact ⟨r, M', g_ior hc k, hq⟩
theorem r_ixor {a b : Int32} (hc : z_code y pc = some (nx, .ixor)) (k : z_R S d y nx ls (.int (a ^^^ b) :: st) M Q) : z_R S d y pc ls (.int b :: .int a :: st) M Q := by
  obtain ⟨r, M', k, hq⟩ := k
  exact ⟨r, M', g_ixor hc k, hq⟩
theorem r_ishl {a b : Int32} (hc : z_code y pc = some (nx, .ishl)) (k : z_R S d y nx ls (.int (a <<< (b &&& 31)) :: st) M Q) : z_R S d y pc ls (.int b :: .int a :: st) M Q := by
  obtain ⟨r, M', k, hq⟩ := k
  exact ⟨r, M', g_ishl hc k, hq⟩
theorem r_ishr {a b : Int32} (hc : z_code y pc = some (nx, .ishr)) (k : z_R S d y nx ls (.int (a >>> (b &&& 31)) :: st) M Q) : z_R S d y pc ls (.int b :: .int a :: st) M Q := by
  obtain ⟨r, M', k, hq⟩ := k
  exact ⟨r, M', g_ishr hc k, hq⟩
theorem r_iushr {a b : Int32} (hc : z_code y pc = some (nx, .iushr)) (k : z_R S d y nx ls (.int ((a.toUInt32 >>> (b.toUInt32 &&& Int32.toUInt32 31)).toInt32) :: st) M Q) : z_R S d y pc ls (.int b :: .int a :: st) M Q := by
  obtain ⟨r, M', k, hq⟩ := k
  exact ⟨r, M', g_iushr hc k, hq⟩
theorem r_idiv {a b : Int32} (hc : z_code y pc = some (nx, .idiv)) (hb : ¬ b = 0) (k : z_R S d y nx ls (.int (a / b) :: st) M Q) : z_R S d y pc ls (.int b :: .int a :: st) M Q := by
  obtain ⟨r, M', k, hq⟩ := k
  exact ⟨r, M', g_idiv hc hb k, hq⟩
theorem r_irem {a b : Int32} (hc : z_code y pc = some (nx, .irem)) (hb : ¬ b = 0) (k : z_R S d y nx ls (.int (a - a / b * b) :: st) M Q) : z_R S d y pc ls (.int b :: .int a :: st) M Q := by
  obtain ⟨r, M', k, hq⟩ := k
  exact ⟨r, M', g_irem hc hb k, hq⟩
theorem r_ladd {a b : Int64} (hc : z_code y pc = some (nx, .ladd)) (k : z_R S d y nx ls (.long (a + b) :: st) M Q) : z_R S d y pc ls (.long b :: .long a :: st) M Q := by
  obtain ⟨r, M', k, hq⟩ := k
  exact ⟨r, M', g_ladd hc k, hq⟩
theorem r_land {a b : Int64} (hc : z_code y pc = some (nx, .land)) (k : z_R S d y nx ls (.long (a &&& b) :: st) M Q) : z_R S d y pc ls (.long b :: .long a :: st) M Q := by
  obtain ⟨r, M', k, hq⟩ := k
  exact ⟨r, M', g_land hc k, hq⟩
theorem r_lor {a b : Int64} (hc : z_code y pc = some (nx, .lor)) (k : z_R S d y nx ls (.long (a ||| b) :: st) M Q) : z_R S d y pc ls (.long b :: .long a :: st) M Q := by
  obtain ⟨r, M', k, hq⟩ := k
  exact ⟨r, M', g_lor hc k, hq⟩
theorem r_lshl {b : Int32} {a : Int64} (hc : z_code y pc = some (nx, .lshl)) (k : z_R S d y nx ls (.long (a <<< (b.toInt64 &&& 63)) :: st) M Q) : z_R S d y pc ls (.int b :: .long a :: st) M Q := by
  obtain ⟨r, M', k, hq⟩ := k
  exact ⟨r, M', g_lshl hc k, hq⟩
theorem r_lshr {b : Int32} {a : Int64} (hc : z_code y pc = some (nx, .lshr)) (k : z_R S d y nx ls (.long (a >>> (b.toInt64 &&& 63)) :: st) M Q) : z_R S d y pc ls (.int b :: .long a :: st) M Q := by
  obtain ⟨r, M', k, hq⟩ := k
  exact ⟨r, M', g_lshr hc k, hq⟩
theorem r_lushr {b : Int32} {a : Int64} (hc : z_code y pc = some (nx, .lushr)) (k : z_R S d y nx ls (.long ((a.toUInt64 >>> (b.toInt64.toUInt64 &&& Int64.toUInt64 63)).toInt64) :: st) M Q) : z_R S d y pc ls (.int b :: .long a :: st) M Q := by
  obtain ⟨r, M', k, hq⟩ := k
  exact ⟨r, M', g_lushr hc k, hq⟩
theorem r_lcmp {a b : Int64} (hc : z_code y pc = some (nx, .lcmp)) (k : z_R S d y nx ls (.int (lg_cmp a b) :: st) M Q) : z_R S d y pc ls (.long b :: .long a :: st) M Q := by
  obtain ⟨r, M', k, hq⟩ := k
  exact ⟨r, M', g_lcmp hc k, hq⟩
theorem r_i2l {a : Int32} (hc : z_code y pc = some (nx, .i2l)) (k : z_R S d y nx ls (.long a.toInt64 :: st) M Q) : z_R S d y pc ls (.int a :: st) M Q := by
  obtain ⟨r, M', k, hq⟩ := k
  exact ⟨r, M', g_i2l hc k, hq⟩
theorem r_l2i {a : Int64} (hc : z_code y pc = some (nx, .l2i)) (k : z_R S d y nx ls (.int a.toInt32 :: st) M Q) : z_R S d y pc ls (.long a :: st) M Q := by
  obtain ⟨r, M', k, hq⟩ := k
  exact ⟨r, M', g_l2i hc k, hq⟩
theorem r_i2b {a : Int32} (hc : z_code y pc = some (nx, .i2b)) (k : z_R S d y nx ls (.int a.toInt8.toInt32 :: st) M Q) : z_R S d y pc ls (.int a :: st) M Q := by
  obtain ⟨r, M', k, hq⟩ := k
  exact ⟨r, M', g_i2b hc k, hq⟩
theorem r_dupI {a : Int32} (hc : z_code y pc = some (nx, .dup)) (k : z_R S d y nx ls (.int a :: .int a :: st) M Q) : z_R S d y pc ls (.int a :: st) M Q := by
  obtain ⟨r, M', k, hq⟩ := k
  exact ⟨r, M', g_dupI hc k, hq⟩
theorem r_dupA {a : Nat} (hc : z_code y pc = some (nx, .dup)) (k : z_R S d y nx ls (.ref a :: .ref a :: st) M Q) : z_R S d y pc ls (.ref a :: st) M Q := by
  obtain ⟨r, M', k, hq⟩ := k
  exact ⟨r, M', g_dupA hc k, hq⟩
theorem r_dup2 {i : Int32} {a : Nat} (hc : z_code y pc = some (nx, .dup2)) (k : z_R S d y nx ls (.int i :: .ref a :: .int i :: .ref a :: st) M Q) : z_R S d y pc ls (.int i :: .ref a :: st) M Q := by
  obtain ⟨r, M', k, hq⟩ := k
  exact ⟨r, M', g_dup2 hc k, hq⟩
theorem r_popI {a : Int32} (hc : z_code y pc = some (nx, .pop)) (k : z_R S d y nx ls st M Q) : z_R S d y pc ls (.int a :: st) M Q := by
  obtain ⟨r, M', k, hq⟩ := k
  exact ⟨r, M', g_popI hc k, hq⟩
theorem r_goto {t : Nat} (hc : z_code y pc = some (nx, .ret t)) (k : z_R S d y t ls st M Q) : z_R S d y pc ls st M Q := by
  obtain ⟨r, M', k, hq⟩ := k
  exact ⟨r, M', g_goto hc k, hq⟩
theorem r_icT {q t : Nat} {a b : Int32} (hc : z_code y pc = some (nx, .invokeinterface q t)) (h : z_cc q a b = true) (k : z_R S d y t ls st M Q) : z_R S d y pc ls (.int b :: .int a :: st) M Q := by
  obtain ⟨r, M', k, hq⟩ := k
  exact ⟨r, M', g_icT hc h k, hq⟩
theorem r_icF {q t : Nat} {a b : Int32} (hc : z_code y pc = some (nx, .invokeinterface q t)) (h : z_cc q a b = false) (k : z_R S d y nx ls st M Q) : z_R S d y pc ls (.int b :: .int a :: st) M Q := by
  obtain ⟨r, M', k, hq⟩ := k
  exact ⟨r, M', g_icF hc h k, hq⟩
theorem r_ifT {q t : Nat} {a : Int32} (hc : z_code y pc = some (nx, .multianewarray q t)) (h : z_cc q a (zI 0) = true) (k : z_R S d y t ls st M Q) : z_R S d y pc ls (.int a :: st) M Q := by
  obtain ⟨r, M', k, hq⟩ := k
  exact ⟨r, M', g_ifT hc h k, hq⟩
theorem r_ifF {q t : Nat} {a : Int32} (hc : z_code y pc = some (nx, .multianewarray q t)) (h : z_cc q a (zI 0) = false) (k : z_R S d y nx ls st M Q) : z_R S d y pc ls (.int a :: st) M Q := by
  obtain ⟨r, M', k, hq⟩ := k
  exact ⟨r, M', g_ifF hc h k, hq⟩
theorem r_nuF {t x : Nat} (hc : z_code y pc = some (nx, .dload t)) (k : z_R S d y nx ls st M Q) : z_R S d y pc ls (.ref x :: st) M Q := by
  obtain ⟨r, M', k, hq⟩ := k
  exact ⟨r, M', g_nuF hc k, hq⟩
theorem r_nuT {t : Nat} (hc : z_code y pc = some (nx, .dload t)) (k : z_R S d y t ls st M Q) : z_R S d y pc ls (.null :: st) M Q := by
  obtain ⟨r, M', k, hq⟩ := k
  exact ⟨r, M', g_nuT hc k, hq⟩
theorem r_nnT {t x : Nat} (hc : z_code y pc = some (nx, .dstore t)) (k : z_R S d y t ls st M Q) : z_R S d y pc ls (.ref x :: st) M Q := by
  obtain ⟨r, M', k, hq⟩ := k
  exact ⟨r, M', g_nnT hc k, hq⟩
theorem r_nnF {t : Nat} (hc : z_code y pc = some (nx, .dstore t)) (k : z_R S d y nx ls st M Q) : z_R S d y pc ls (.null :: st) M Q := by
  obtain ⟨r, M', k, hq⟩ := k
  exact ⟨r, M', g_nnF hc k, hq⟩
theorem r_tsO {e lo hi : Int} {offs : Array Int} {x : Int32} (hc : z_code y pc = some (nx, .tableswitch e lo hi offs)) (h : x.toInt < lo ∨ hi < x.toInt) (k : z_R S d y e.toNat ls st M Q) : z_R S d y pc ls (.int x :: st) M Q := by
  obtain ⟨r, M', k, hq⟩ := k
  exact ⟨r, M', g_tsO hc h k, hq⟩
theorem r_tsI {e lo hi : Int} {offs : Array Int} {x : Int32} {v : Int} (hc : z_code y pc = some (nx, .tableswitch e lo hi offs)) (h : ¬ (x.toInt < lo ∨ hi < x.toInt)) (ho : offs[(x.toInt - lo).toNat]? = some v) (k : z_R S d y v.toNat ls st M Q) : z_R S d y pc ls (.int x :: st) M Q := by
  obtain ⟨r, M', k, hq⟩ := k
  exact ⟨r, M', g_tsI hc h ho k, hq⟩
theorem r_lk {e : Int} {ps : Array (Int × Int)} {x : Int32} (hc : z_code y pc = some (nx, .lookupswitch e ps)) (k : z_R S d y (Op.lookupswitch.offset ps.toList e x.toInt).toNat ls st M Q) : z_R S d y pc ls (.int x :: st) M Q := by
  obtain ⟨r, M', k, hq⟩ := k
  exact ⟨r, M', g_lk hc k, hq⟩
theorem r_gf {n a ci : Nat} {fs : List Value} {v : Value} (hc : z_code y pc = some (nx, .getfield n)) (hM : M[a]? = some (.inl (ci, fs))) (hci : ci = n / 32) (hf : fs[n % 32]? = some v) (k : z_R S d y nx ls (v :: st) M Q) : z_R S d y pc ls (.ref a :: st) M Q := by
  obtain ⟨r, M', k, hq⟩ := k
  exact ⟨r, M', g_gf hc hM hci hf k, hq⟩
theorem r_pf {n a ci : Nat} {fs fs2 : List Value} {v : Value} (hc : z_code y pc = some (nx, .putfield n)) (hM : M[a]? = some (.inl (ci, fs))) (hci : ci = n / 32) (hlen : n % 32 < fs.length) (hft : z_fit (z_fty ci (n % 32)) v = true) (hfi : z_fin ci (n % 32) = false ∨ z_ini y ci = true) (hset : fs.set (n % 32) v = fs2) (k : z_R S d y nx ls st (M.set a (.inl (ci, fs2))) Q) : z_R S d y pc ls (v :: .ref a :: st) M Q := by
  obtain ⟨r, M', k, hq⟩ := k
  exact ⟨r, M', g_pf hc hM hci hlen hft hfi hset k, hq⟩
theorem r_ia {a n : Nat} {f : Nat → Int32} {i : Int32} (hc : z_code y pc = some (nx, .iaload)) (h9 : ¬ a = 1000) (hM : M[a]? = some (.inr (0, n, .inl f))) (hi : z_in i n = true) (k : z_R S d y nx ls (.int (f i.toNatClampNeg) :: st) M Q) : z_R S d y pc ls (.int i :: .ref a :: st) M Q := by
  obtain ⟨r, M', k, hq⟩ := k
  exact ⟨r, M', g_ia hc h9 hM hi k, hq⟩
theorem r_ba {a n : Nat} {f : Nat → Int32} {i : Int32} (hc : z_code y pc = some (nx, .baload)) (hM : M[a]? = some (.inr (1, n, .inl f))) (hi : z_in i n = true) (k : z_R S d y nx ls (.int (f i.toNatClampNeg) :: st) M Q) : z_R S d y pc ls (.int i :: .ref a :: st) M Q := by
  obtain ⟨r, M', k, hq⟩ := k
  exact ⟨r, M', g_ba hc hM hi k, hq⟩
theorem r_za {a n : Nat} {f : Nat → Int32} {i : Int32} (hc : z_code y pc = some (nx, .baload)) (hM : M[a]? = some (.inr (2, n, .inl f))) (hi : z_in i n = true) (k : z_R S d y nx ls (.int (f i.toNatClampNeg) :: st) M Q) : z_R S d y pc ls (.int i :: .ref a :: st) M Q := by
  obtain ⟨r, M', k, hq⟩ := k
  exact ⟨r, M', g_za hc hM hi k, hq⟩
theorem r_ja {a n : Nat} {f : Nat → Int64} {i : Int32} (hc : z_code y pc = some (nx, .laload)) (hM : M[a]? = some (.inr (3, n, .inr (.inl f)))) (hi : z_in i n = true) (k : z_R S d y nx ls (.long (f i.toNatClampNeg) :: st) M Q) : z_R S d y pc ls (.int i :: .ref a :: st) M Q := by
  obtain ⟨r, M', k, hq⟩ := k
  exact ⟨r, M', g_ja hc hM hi k, hq⟩
theorem r_aa4 {a n : Nat} {f : Nat → Option Nat} {i : Int32} (hc : z_code y pc = some (nx, .aaload)) (hM : M[a]? = some (.inr (4, n, .inr (.inr f)))) (hi : z_in i n = true) (k : z_R S d y nx ls (va_rf (f i.toNatClampNeg) :: st) M Q) : z_R S d y pc ls (.int i :: .ref a :: st) M Q := by
  obtain ⟨r, M', k, hq⟩ := k
  exact ⟨r, M', g_aa4 hc hM hi k, hq⟩
theorem r_aa5 {a n : Nat} {f : Nat → Option Nat} {i : Int32} (hc : z_code y pc = some (nx, .aaload)) (hM : M[a]? = some (.inr (5, n, .inr (.inr f)))) (hi : z_in i n = true) (k : z_R S d y nx ls (va_rf (f i.toNatClampNeg) :: st) M Q) : z_R S d y pc ls (.int i :: .ref a :: st) M Q := by
  obtain ⟨r, M', k, hq⟩ := k
  exact ⟨r, M', g_aa5 hc hM hi k, hq⟩
theorem r_sa {i : Int32} (hc : z_code y pc = some (nx, .iaload)) (hi : z_in i S.1 = true) (k : z_R S d y nx ls (.int (S.2 i.toNatClampNeg) :: st) M Q) : z_R S d y pc ls (.int i :: .ref 1000 :: st) M Q := by
  obtain ⟨r, M', k, hq⟩ := k
  exact ⟨r, M', g_sa hc hi k, hq⟩
theorem r_iS {a n : Nat} {f : Nat → Int32} {i : Int32} {x : Int32} (hc : z_code y pc = some (nx, .iastore)) (hM : M[a]? = some (.inr (0, n, .inl f))) (hi : z_in i n = true) (k : z_R S d y nx ls st (M.set a (.inr (0, n, .inl (upd f i.toNatClampNeg x)))) Q) : z_R S d y pc ls (.int x :: .int i :: .ref a :: st) M Q := by
  obtain ⟨r, M', k, hq⟩ := k
  exact ⟨r, M', g_iS hc hM hi k, hq⟩
theorem r_bS {a n : Nat} {f : Nat → Int32} {i : Int32} {x : Int32} (hc : z_code y pc = some (nx, .bastore)) (hM : M[a]? = some (.inr (1, n, .inl f))) (hi : z_in i n = true) (k : z_R S d y nx ls st (M.set a (.inr (1, n, .inl (upd f i.toNatClampNeg (vp_nar .byte x))))) Q) : z_R S d y pc ls (.int x :: .int i :: .ref a :: st) M Q := by
  obtain ⟨r, M', k, hq⟩ := k
  exact ⟨r, M', g_bS hc hM hi k, hq⟩
theorem r_zS {a n : Nat} {f : Nat → Int32} {i : Int32} {x : Int32} (hc : z_code y pc = some (nx, .bastore)) (hM : M[a]? = some (.inr (2, n, .inl f))) (hi : z_in i n = true) (k : z_R S d y nx ls st (M.set a (.inr (2, n, .inl (upd f i.toNatClampNeg (vp_nar .boolean x))))) Q) : z_R S d y pc ls (.int x :: .int i :: .ref a :: st) M Q := by
  obtain ⟨r, M', k, hq⟩ := k
  exact ⟨r, M', g_zS hc hM hi k, hq⟩
theorem r_jS {a n : Nat} {f : Nat → Int64} {i : Int32} {x : Int64} (hc : z_code y pc = some (nx, .lastore)) (hM : M[a]? = some (.inr (3, n, .inr (.inl f)))) (hi : z_in i n = true) (k : z_R S d y nx ls st (M.set a (.inr (3, n, .inr (.inl (vp_updL f i.toNatClampNeg x))))) Q) : z_R S d y pc ls (.long x :: .int i :: .ref a :: st) M Q := by
  obtain ⟨r, M', k, hq⟩ := k
  exact ⟨r, M', g_jS hc hM hi k, hq⟩
theorem r_aS4 {a n x : Nat} {f : Nat → Option Nat} {i : Int32} {fs : List Value} (hc : z_code y pc = some (nx, .aastore)) (hM : M[a]? = some (.inr (4, n, .inr (.inr f)))) (hX : M[x]? = some (.inl (0, fs))) (hi : z_in i n = true) (k : z_R S d y nx ls st (M.set a (.inr (4, n, .inr (.inr (va_up f i.toNatClampNeg (some x)))))) Q) : z_R S d y pc ls (.ref x :: .int i :: .ref a :: st) M Q := by
  obtain ⟨r, M', k, hq⟩ := k
  exact ⟨r, M', g_aS4 hc hM hX hi k, hq⟩
theorem r_aS5 {a n x : Nat} {f : Nat → Option Nat} {i : Int32} {fs : List Value} (hc : z_code y pc = some (nx, .aastore)) (hM : M[a]? = some (.inr (5, n, .inr (.inr f)))) (hX : M[x]? = some (.inl (2, fs))) (hi : z_in i n = true) (k : z_R S d y nx ls st (M.set a (.inr (5, n, .inr (.inr (va_up f i.toNatClampNeg (some x)))))) Q) : z_R S d y pc ls (.ref x :: .int i :: .ref a :: st) M Q := by
  obtain ⟨r, M', k, hq⟩ := k
  exact ⟨r, M', g_aS5 hc hM hX hi k, hq⟩
theorem r_len0 {a n : Nat} {f : Nat → Int32} (hc : z_code y pc = some (nx, .arraylength)) (h9 : ¬ a = 1000) (hM : M[a]? = some (.inr (0, n, .inl f))) (k : z_R S d y nx ls (.int (zI (n : Int)) :: st) M Q) : z_R S d y pc ls (.ref a :: st) M Q := by
  obtain ⟨r, M', k, hq⟩ := k
  exact ⟨r, M', g_len0 hc h9 hM k, hq⟩
theorem r_len3 {a n : Nat} {f : Nat → Int64} (hc : z_code y pc = some (nx, .arraylength)) (h9 : ¬ a = 1000) (hM : M[a]? = some (.inr (3, n, .inr (.inl f)))) (k : z_R S d y nx ls (.int (zI (n : Int)) :: st) M Q) : z_R S d y pc ls (.ref a :: st) M Q := by
  obtain ⟨r, M', k, hq⟩ := k
  exact ⟨r, M', g_len3 hc h9 hM k, hq⟩
theorem r_slen (hc : z_code y pc = some (nx, .arraylength)) (k : z_R S d y nx ls (.int (zI (S.1 : Int)) :: st) M Q) : z_R S d y pc ls (.ref 1000 :: st) M Q := by
  obtain ⟨r, M', k, hq⟩ := k
  exact ⟨r, M', g_slen hc k, hq⟩
theorem r_obj {a : Nat} (hc : z_code y pc = some (nx, .monitorenter)) (h8 : z_cat st = true) (k : z_R S d y nx ls st M Q) : z_R S d y pc ls (.ref a :: st) M Q := by
  obtain ⟨r, M', k, hq⟩ := k
  exact ⟨r, M', g_obj hc h8 k, hq⟩
theorem r_cpy {a a2 n0 n1 : Nat} {f g : Nat → Int32} {n dp sq : Int32} (hc : z_code y pc = some (nx, .athrow)) (hM : M[a]? = some (.inr (0, n0, .inl f))) (hM2 : M[a2]? = some (.inr (0, n1, .inl g))) (h : ¬ (sq < 0 ∨ dp < 0 ∨ n < 0 ∨ n0 < sq.toNatClampNeg + n.toNatClampNeg ∨ n1 < dp.toNatClampNeg + n.toNatClampNeg ∨ z_cat st = false)) (k : z_R S d y nx ls st (M.set a2 (.inr (0, n1, .inl (va_cpy f g sq.toNatClampNeg dp.toNatClampNeg n.toNatClampNeg)))) Q) : z_R S d y pc ls (.int n :: .int dp :: .ref a2 :: .int sq :: .ref a :: st) M Q := by
  obtain ⟨r, M', k, hq⟩ := k
  exact ⟨r, M', g_cpy hc hM hM2 h k, hq⟩
theorem r_max {a b : Int32} (hc : z_code y pc = some (nx, .dadd)) (h8 : z_cat st = true) (k : z_R S d y nx ls (.int (if a < b then b else a) :: st) M Q) : z_R S d y pc ls (.int b :: .int a :: st) M Q := by
  obtain ⟨r, M', k, hq⟩ := k
  exact ⟨r, M', g_max hc h8 k, hq⟩
theorem r_min {a b : Int32} (hc : z_code y pc = some (nx, .dsub)) (h8 : z_cat st = true) (k : z_R S d y nx ls (.int (if b < a then b else a) :: st) M Q) : z_R S d y pc ls (.int b :: .int a :: st) M Q := by
  obtain ⟨r, M', k, hq⟩ := k
  exact ⟨r, M', g_min hc h8 k, hq⟩
theorem r_sl {a : Nat} (hc : z_code y pc = some (nx, .saload)) (h : 1001 ≤ a ∧ a < 1004 ∧ z_cat st = true) (k : z_R S d y nx ls (.int (zI (z_wlen (a - 1001) : Int)) :: st) M Q) : z_R S d y pc ls (.ref a :: st) M Q := by
  obtain ⟨r, M', k, hq⟩ := k
  exact ⟨r, M', g_sl hc h k, hq⟩
theorem r_sc {a : Nat} {i : Int32} (hc : z_code y pc = some (nx, .sastore)) (h : 1001 ≤ a ∧ a < 1004 ∧ z_in i (z_wlen (a - 1001)) = true ∧ z_cat st = true) (k : z_R S d y nx ls (.int ((z_wch (a - 1001)).getD i.toNatClampNeg 0) :: st) M Q) : z_R S d y pc ls (.int i :: .ref a :: st) M Q := by
  obtain ⟨r, M', k, hq⟩ := k
  exact ⟨r, M', g_sc hc h k, hq⟩
theorem r_cs {q n : Nat} {as rest : List Value} {r1 : Option Value} {M1 : ZM} (hc : z_code y pc = some (nx, .invokestatic q)) (hn : (z_mt q).2.2.2.2.1 = n) (h99 : (z_mt q).2.2.2.2.2 = 99) (hle : n ≤ st.length) (has : (st.take n).reverse = as) (hrs : st.drop n = rest) (h8 : z_cat rest = true) (hcal : z_C S d q as M r1 M1) (k : z_R S (d + 1) y nx ls (r1.toList ++ rest) M1 Q) : z_R S (d + 1) y pc ls st M Q := by
  obtain ⟨r, M', k, hq⟩ := k
  exact ⟨r, M', g_cs hc hn h99 hle has hrs h8 hcal k, hq⟩
theorem r_cv {q n a ci : Nat} {fs : List Value} {as rest : List Value} {r1 : Option Value} {M1 : ZM} (hc : z_code y pc = some (nx, .invokevirtual q)) (hn : (z_mt q).2.2.2.2.1 = n) (hrs : st.drop n = .ref a :: rest) (has : (st.take n).reverse = as) (hM : M[a]? = some (.inl (ci, fs))) (hci : ci = (z_mt q).2.2.2.2.2) (h7 : ci < 7) (h8 : z_cat rest = true) (hcal : z_C S d q (.ref a :: as) M r1 M1) (k : z_R S (d + 1) y nx ls (r1.toList ++ rest) M1 Q) : z_R S (d + 1) y pc ls st M Q := by
  obtain ⟨r, M', k, hq⟩ := k
  exact ⟨r, M', g_cv hc hn hrs has hM hci h7 h8 hcal k, hq⟩
theorem r_cx {q n a : Nat} {as rest : List Value} {r1 : Option Value} {M1 : ZM} (hc : z_code y pc = some (nx, .invokespecial q)) (hn : (z_mt q).2.2.2.2.1 = n) (hrs : st.drop n = .ref a :: rest) (has : (st.take n).reverse = as) (h8 : z_cat rest = true) (hi : (z_mt q).1.name = "<init>") (hv : (z_mt q).2.2.2.1 = none) (hcal : z_C S d q (.ref a :: as) M r1 M1) (k : z_R S (d + 1) y nx ls (r1.toList ++ rest) M1 Q) : z_R S (d + 1) y pc ls st M Q := by
  obtain ⟨r, M', k, hq⟩ := k
  exact ⟨r, M', g_cx hc hn hrs has h8 hi hv hcal k, hq⟩
theorem r_addI {a b : Int} (hc : z_code y pc = some (nx, .iadd)) (k : z_R S d y nx ls (.int (zI (a + b)) :: st) M Q) : z_R S d y pc ls (.int (zI b) :: .int (zI a) :: st) M Q := by
  obtain ⟨r, M', k, hq⟩ := k
  exact ⟨r, M', g_addI hc k, hq⟩
theorem r_subI {a b : Int} (hc : z_code y pc = some (nx, .isub)) (k : z_R S d y nx ls (.int (zI (a - b)) :: st) M Q) : z_R S d y pc ls (.int (zI b) :: .int (zI a) :: st) M Q := by
  obtain ⟨r, M', k, hq⟩ := k
  exact ⟨r, M', g_subI hc k, hq⟩
theorem r_mulI {a b : Int} (hc : z_code y pc = some (nx, .imul)) (k : z_R S d y nx ls (.int (zI (a * b)) :: st) M Q) : z_R S d y pc ls (.int (zI b) :: .int (zI a) :: st) M Q := by
  obtain ⟨r, M', k, hq⟩ := k
  exact ⟨r, M', g_mulI hc k, hq⟩
theorem r_divI {a b : Int} (hc : z_code y pc = some (nx, .idiv)) (ha : 0 ≤ a ∧ a ≤ 1000000000) (hb : 0 < b ∧ b ≤ 1000000000) (k : z_R S d y nx ls (.int (zI (a / b)) :: st) M Q) : z_R S d y pc ls (.int (zI b) :: .int (zI a) :: st) M Q := by
  obtain ⟨r, M', k, hq⟩ := k
  exact ⟨r, M', g_divI hc ha hb k, hq⟩
theorem r_remI {a b : Int} (hc : z_code y pc = some (nx, .irem)) (ha : 0 ≤ a ∧ a ≤ 1000000000) (hb : 0 < b ∧ b ≤ 1000000000) (k : z_R S d y nx ls (.int (zI (a % b)) :: st) M Q) : z_R S d y pc ls (.int (zI b) :: .int (zI a) :: st) M Q := by
  obtain ⟨r, M', k, hq⟩ := k
  exact ⟨r, M', g_remI hc ha hb k, hq⟩
theorem r_jj0 {t : ZL} {a n : Int} (hc : z_code y pc = some (nx, .iinc 0 n)) (k : z_R S d y nx (some (.int (zI (a + n))) :: t) st M Q) : z_R S d y pc (some (.int (zI a)) :: t) st M Q := by
  obtain ⟨r, M', k, hq⟩ := k
  exact ⟨r, M', g_jj0 hc k, hq⟩
theorem r_jj1 {v0 : Option Value} {t : ZL} {a n : Int} (hc : z_code y pc = some (nx, .iinc 1 n)) (hv : z_nl v0 = true) (k : z_R S d y nx (v0 :: some (.int (zI (a + n))) :: t) st M Q) : z_R S d y pc (v0 :: some (.int (zI a)) :: t) st M Q := by
  obtain ⟨r, M', k, hq⟩ := k
  exact ⟨r, M', g_jj1 hc hv k, hq⟩
theorem r_jj2 {v0 v1 : Option Value} {t : ZL} {a n : Int} (hc : z_code y pc = some (nx, .iinc 2 n)) (hv : z_nl v1 = true) (k : z_R S d y nx (v0 :: v1 :: some (.int (zI (a + n))) :: t) st M Q) : z_R S d y pc (v0 :: v1 :: some (.int (zI a)) :: t) st M Q := by
  obtain ⟨r, M', k, hq⟩ := k
  exact ⟨r, M', g_jj2 hc hv k, hq⟩
theorem r_jj3 {v0 v1 v2 : Option Value} {t : ZL} {a n : Int} (hc : z_code y pc = some (nx, .iinc 3 n)) (hv : z_nl v2 = true) (k : z_R S d y nx (v0 :: v1 :: v2 :: some (.int (zI (a + n))) :: t) st M Q) : z_R S d y pc (v0 :: v1 :: v2 :: some (.int (zI a)) :: t) st M Q := by
  obtain ⟨r, M', k, hq⟩ := k
  exact ⟨r, M', g_jj3 hc hv k, hq⟩
theorem r_jj4 {v0 v1 v2 v3 : Option Value} {t : ZL} {a n : Int} (hc : z_code y pc = some (nx, .iinc 4 n)) (hv : z_nl v3 = true) (k : z_R S d y nx (v0 :: v1 :: v2 :: v3 :: some (.int (zI (a + n))) :: t) st M Q) : z_R S d y pc (v0 :: v1 :: v2 :: v3 :: some (.int (zI a)) :: t) st M Q := by
  obtain ⟨r, M', k, hq⟩ := k
  exact ⟨r, M', g_jj4 hc hv k, hq⟩
theorem r_jj5 {v0 v1 v2 v3 v4 : Option Value} {t : ZL} {a n : Int} (hc : z_code y pc = some (nx, .iinc 5 n)) (hv : z_nl v4 = true) (k : z_R S d y nx (v0 :: v1 :: v2 :: v3 :: v4 :: some (.int (zI (a + n))) :: t) st M Q) : z_R S d y pc (v0 :: v1 :: v2 :: v3 :: v4 :: some (.int (zI a)) :: t) st M Q := by
  obtain ⟨r, M', k, hq⟩ := k
  exact ⟨r, M', g_jj5 hc hv k, hq⟩
theorem r_jj6 {v0 v1 v2 v3 v4 v5 : Option Value} {t : ZL} {a n : Int} (hc : z_code y pc = some (nx, .iinc 6 n)) (hv : z_nl v5 = true) (k : z_R S d y nx (v0 :: v1 :: v2 :: v3 :: v4 :: v5 :: some (.int (zI (a + n))) :: t) st M Q) : z_R S d y pc (v0 :: v1 :: v2 :: v3 :: v4 :: v5 :: some (.int (zI a)) :: t) st M Q := by
  obtain ⟨r, M', k, hq⟩ := k
  exact ⟨r, M', g_jj6 hc hv k, hq⟩
theorem r_jj7 {v0 v1 v2 v3 v4 v5 v6 : Option Value} {t : ZL} {a n : Int} (hc : z_code y pc = some (nx, .iinc 7 n)) (hv : z_nl v6 = true) (k : z_R S d y nx (v0 :: v1 :: v2 :: v3 :: v4 :: v5 :: v6 :: some (.int (zI (a + n))) :: t) st M Q) : z_R S d y pc (v0 :: v1 :: v2 :: v3 :: v4 :: v5 :: v6 :: some (.int (zI a)) :: t) st M Q := by
  obtain ⟨r, M', k, hq⟩ := k
  exact ⟨r, M', g_jj7 hc hv k, hq⟩
theorem r_jj8 {v0 v1 v2 v3 v4 v5 v6 v7 : Option Value} {t : ZL} {a n : Int} (hc : z_code y pc = some (nx, .iinc 8 n)) (hv : z_nl v7 = true) (k : z_R S d y nx (v0 :: v1 :: v2 :: v3 :: v4 :: v5 :: v6 :: v7 :: some (.int (zI (a + n))) :: t) st M Q) : z_R S d y pc (v0 :: v1 :: v2 :: v3 :: v4 :: v5 :: v6 :: v7 :: some (.int (zI a)) :: t) st M Q := by
  obtain ⟨r, M', k, hq⟩ := k
  exact ⟨r, M', g_jj8 hc hv k, hq⟩
theorem r_jj9 {v0 v1 v2 v3 v4 v5 v6 v7 v8 : Option Value} {t : ZL} {a n : Int} (hc : z_code y pc = some (nx, .iinc 9 n)) (hv : z_nl v8 = true) (k : z_R S d y nx (v0 :: v1 :: v2 :: v3 :: v4 :: v5 :: v6 :: v7 :: v8 :: some (.int (zI (a + n))) :: t) st M Q) : z_R S d y pc (v0 :: v1 :: v2 :: v3 :: v4 :: v5 :: v6 :: v7 :: v8 :: some (.int (zI a)) :: t) st M Q := by
  obtain ⟨r, M', k, hq⟩ := k
  exact ⟨r, M', g_jj9 hc hv k, hq⟩
theorem r_jj10 {v0 v1 v2 v3 v4 v5 v6 v7 v8 v9 : Option Value} {t : ZL} {a n : Int} (hc : z_code y pc = some (nx, .iinc 10 n)) (hv : z_nl v9 = true) (k : z_R S d y nx (v0 :: v1 :: v2 :: v3 :: v4 :: v5 :: v6 :: v7 :: v8 :: v9 :: some (.int (zI (a + n))) :: t) st M Q) : z_R S d y pc (v0 :: v1 :: v2 :: v3 :: v4 :: v5 :: v6 :: v7 :: v8 :: v9 :: some (.int (zI a)) :: t) st M Q := by
  obtain ⟨r, M', k, hq⟩ := k
  exact ⟨r, M', g_jj10 hc hv k, hq⟩
theorem r_jj11 {v0 v1 v2 v3 v4 v5 v6 v7 v8 v9 v10 : Option Value} {t : ZL} {a n : Int} (hc : z_code y pc = some (nx, .iinc 11 n)) (hv : z_nl v10 = true) (k : z_R S d y nx (v0 :: v1 :: v2 :: v3 :: v4 :: v5 :: v6 :: v7 :: v8 :: v9 :: v10 :: some (.int (zI (a + n))) :: t) st M Q) : z_R S d y pc (v0 :: v1 :: v2 :: v3 :: v4 :: v5 :: v6 :: v7 :: v8 :: v9 :: v10 :: some (.int (zI a)) :: t) st M Q := by
  obtain ⟨r, M', k, hq⟩ := k
  exact ⟨r, M', g_jj11 hc hv k, hq⟩
theorem r_jj12 {v0 v1 v2 v3 v4 v5 v6 v7 v8 v9 v10 v11 : Option Value} {t : ZL} {a n : Int} (hc : z_code y pc = some (nx, .iinc 12 n)) (hv : z_nl v11 = true) (k : z_R S d y nx (v0 :: v1 :: v2 :: v3 :: v4 :: v5 :: v6 :: v7 :: v8 :: v9 :: v10 :: v11 :: some (.int (zI (a + n))) :: t) st M Q) : z_R S d y pc (v0 :: v1 :: v2 :: v3 :: v4 :: v5 :: v6 :: v7 :: v8 :: v9 :: v10 :: v11 :: some (.int (zI a)) :: t) st M Q := by
  obtain ⟨r, M', k, hq⟩ := k
  exact ⟨r, M', g_jj12 hc hv k, hq⟩
theorem r_iaI {a n : Nat} {f : Nat → Int32} {i : Int} (hc : z_code y pc = some (nx, .iaload)) (h9 : ¬ a = 1000) (hM : M[a]? = some (.inr (0, n, .inl f))) (h0 : 0 ≤ i) (hn : i < n) (hs : i ≤ 1000000000) (k : z_R S d y nx ls (.int (f i.toNat) :: st) M Q) : z_R S d y pc ls (.int (zI i) :: .ref a :: st) M Q := by
  obtain ⟨r, M', k, hq⟩ := k
  exact ⟨r, M', g_iaI hc h9 hM h0 hn hs k, hq⟩
theorem r_baI {a n : Nat} {f : Nat → Int32} {i : Int} (hc : z_code y pc = some (nx, .baload)) (hM : M[a]? = some (.inr (1, n, .inl f))) (h0 : 0 ≤ i) (hn : i < n) (hs : i ≤ 1000000000) (k : z_R S d y nx ls (.int (f i.toNat) :: st) M Q) : z_R S d y pc ls (.int (zI i) :: .ref a :: st) M Q := by
  obtain ⟨r, M', k, hq⟩ := k
  exact ⟨r, M', g_baI hc hM h0 hn hs k, hq⟩
theorem r_zaI {a n : Nat} {f : Nat → Int32} {i : Int} (hc : z_code y pc = some (nx, .baload)) (hM : M[a]? = some (.inr (2, n, .inl f))) (h0 : 0 ≤ i) (hn : i < n) (hs : i ≤ 1000000000) (k : z_R S d y nx ls (.int (f i.toNat) :: st) M Q) : z_R S d y pc ls (.int (zI i) :: .ref a :: st) M Q := by
  obtain ⟨r, M', k, hq⟩ := k
  exact ⟨r, M', g_zaI hc hM h0 hn hs k, hq⟩
theorem r_jaI {a n : Nat} {f : Nat → Int64} {i : Int} (hc : z_code y pc = some (nx, .laload)) (hM : M[a]? = some (.inr (3, n, .inr (.inl f)))) (h0 : 0 ≤ i) (hn : i < n) (hs : i ≤ 1000000000) (k : z_R S d y nx ls (.long (f i.toNat) :: st) M Q) : z_R S d y pc ls (.int (zI i) :: .ref a :: st) M Q := by
  obtain ⟨r, M', k, hq⟩ := k
  exact ⟨r, M', g_jaI hc hM h0 hn hs k, hq⟩
theorem r_aaI4 {a n : Nat} {f : Nat → Option Nat} {i : Int} {v : Value} (hc : z_code y pc = some (nx, .aaload)) (hM : M[a]? = some (.inr (4, n, .inr (.inr f)))) (h0 : 0 ≤ i) (hn : i < n) (hs : i ≤ 1000000000) (hv : va_rf (f i.toNat) = v) (k : z_R S d y nx ls (v :: st) M Q) : z_R S d y pc ls (.int (zI i) :: .ref a :: st) M Q := by
  obtain ⟨r, M', k, hq⟩ := k
  exact ⟨r, M', g_aaI4 hc hM h0 hn hs hv k, hq⟩
theorem r_aaI5 {a n : Nat} {f : Nat → Option Nat} {i : Int} {v : Value} (hc : z_code y pc = some (nx, .aaload)) (hM : M[a]? = some (.inr (5, n, .inr (.inr f)))) (h0 : 0 ≤ i) (hn : i < n) (hs : i ≤ 1000000000) (hv : va_rf (f i.toNat) = v) (k : z_R S d y nx ls (v :: st) M Q) : z_R S d y pc ls (.int (zI i) :: .ref a :: st) M Q := by
  obtain ⟨r, M', k, hq⟩ := k
  exact ⟨r, M', g_aaI5 hc hM h0 hn hs hv k, hq⟩
theorem r_iSI {a n : Nat} {f : Nat → Int32} {i : Int} {x : Int32} (hc : z_code y pc = some (nx, .iastore)) (hM : M[a]? = some (.inr (0, n, .inl f))) (h0 : 0 ≤ i) (hn : i < n) (hs : i ≤ 1000000000) (k : z_R S d y nx ls st (M.set a (.inr (0, n, .inl (upd f i.toNat x)))) Q) : z_R S d y pc ls (.int x :: .int (zI i) :: .ref a :: st) M Q := by
  obtain ⟨r, M', k, hq⟩ := k
  exact ⟨r, M', g_iSI hc hM h0 hn hs k, hq⟩
theorem r_bSI {a n : Nat} {f : Nat → Int32} {i : Int} {x : Int32} (hc : z_code y pc = some (nx, .bastore)) (hM : M[a]? = some (.inr (1, n, .inl f))) (h0 : 0 ≤ i) (hn : i < n) (hs : i ≤ 1000000000) (k : z_R S d y nx ls st (M.set a (.inr (1, n, .inl (upd f i.toNat (vp_nar .byte x))))) Q) : z_R S d y pc ls (.int x :: .int (zI i) :: .ref a :: st) M Q := by
  obtain ⟨r, M', k, hq⟩ := k
  exact ⟨r, M', g_bSI hc hM h0 hn hs k, hq⟩
theorem r_zSI {a n : Nat} {f : Nat → Int32} {i : Int} {x : Int32} (hc : z_code y pc = some (nx, .bastore)) (hM : M[a]? = some (.inr (2, n, .inl f))) (h0 : 0 ≤ i) (hn : i < n) (hs : i ≤ 1000000000) (k : z_R S d y nx ls st (M.set a (.inr (2, n, .inl (upd f i.toNat (vp_nar .boolean x))))) Q) : z_R S d y pc ls (.int x :: .int (zI i) :: .ref a :: st) M Q := by
  obtain ⟨r, M', k, hq⟩ := k
  exact ⟨r, M', g_zSI hc hM h0 hn hs k, hq⟩
theorem r_jSI {a n : Nat} {f : Nat → Int64} {i : Int} {x : Int64} (hc : z_code y pc = some (nx, .lastore)) (hM : M[a]? = some (.inr (3, n, .inr (.inl f)))) (h0 : 0 ≤ i) (hn : i < n) (hs : i ≤ 1000000000) (k : z_R S d y nx ls st (M.set a (.inr (3, n, .inr (.inl (vp_updL f i.toNat x))))) Q) : z_R S d y pc ls (.long x :: .int (zI i) :: .ref a :: st) M Q := by
  obtain ⟨r, M', k, hq⟩ := k
  exact ⟨r, M', g_jSI hc hM h0 hn hs k, hq⟩
theorem r_pf0 {n a ci : Nat} {v0 v : Value} {t : List Value} (hc : z_code y pc = some (nx, .putfield n)) (hM : M[a]? = some (.inl (ci, (v0 :: t)))) (hci : ci = n / 32) (hk : n % 32 = 0) (hft : z_fit (z_fty ci 0) v = true) (hfi : z_fin ci 0 = false ∨ z_ini y ci = true) (k : z_R S d y nx ls st (M.set a (.inl (ci, (v :: t)))) Q) : z_R S d y pc ls (v :: .ref a :: st) M Q := by
  obtain ⟨r, M', k, hq⟩ := k
  exact ⟨r, M', g_pf0 hc hM hci hk hft hfi k, hq⟩
theorem r_pf1 {n a ci : Nat} {v0 v1 v : Value} {t : List Value} (hc : z_code y pc = some (nx, .putfield n)) (hM : M[a]? = some (.inl (ci, (v0 :: v1 :: t)))) (hci : ci = n / 32) (hk : n % 32 = 1) (hft : z_fit (z_fty ci 1) v = true) (hfi : z_fin ci 1 = false ∨ z_ini y ci = true) (k : z_R S d y nx ls st (M.set a (.inl (ci, (v0 :: v :: t)))) Q) : z_R S d y pc ls (v :: .ref a :: st) M Q := by
  obtain ⟨r, M', k, hq⟩ := k
  exact ⟨r, M', g_pf1 hc hM hci hk hft hfi k, hq⟩
theorem r_pf2 {n a ci : Nat} {v0 v1 v2 v : Value} {t : List Value} (hc : z_code y pc = some (nx, .putfield n)) (hM : M[a]? = some (.inl (ci, (v0 :: v1 :: v2 :: t)))) (hci : ci = n / 32) (hk : n % 32 = 2) (hft : z_fit (z_fty ci 2) v = true) (hfi : z_fin ci 2 = false ∨ z_ini y ci = true) (k : z_R S d y nx ls st (M.set a (.inl (ci, (v0 :: v1 :: v :: t)))) Q) : z_R S d y pc ls (v :: .ref a :: st) M Q := by
  obtain ⟨r, M', k, hq⟩ := k
  exact ⟨r, M', g_pf2 hc hM hci hk hft hfi k, hq⟩
theorem r_pf3 {n a ci : Nat} {v0 v1 v2 v3 v : Value} {t : List Value} (hc : z_code y pc = some (nx, .putfield n)) (hM : M[a]? = some (.inl (ci, (v0 :: v1 :: v2 :: v3 :: t)))) (hci : ci = n / 32) (hk : n % 32 = 3) (hft : z_fit (z_fty ci 3) v = true) (hfi : z_fin ci 3 = false ∨ z_ini y ci = true) (k : z_R S d y nx ls st (M.set a (.inl (ci, (v0 :: v1 :: v2 :: v :: t)))) Q) : z_R S d y pc ls (v :: .ref a :: st) M Q := by
  obtain ⟨r, M', k, hq⟩ := k
  exact ⟨r, M', g_pf3 hc hM hci hk hft hfi k, hq⟩
theorem r_pf4 {n a ci : Nat} {v0 v1 v2 v3 v4 v : Value} {t : List Value} (hc : z_code y pc = some (nx, .putfield n)) (hM : M[a]? = some (.inl (ci, (v0 :: v1 :: v2 :: v3 :: v4 :: t)))) (hci : ci = n / 32) (hk : n % 32 = 4) (hft : z_fit (z_fty ci 4) v = true) (hfi : z_fin ci 4 = false ∨ z_ini y ci = true) (k : z_R S d y nx ls st (M.set a (.inl (ci, (v0 :: v1 :: v2 :: v3 :: v :: t)))) Q) : z_R S d y pc ls (v :: .ref a :: st) M Q := by
  obtain ⟨r, M', k, hq⟩ := k
  exact ⟨r, M', g_pf4 hc hM hci hk hft hfi k, hq⟩
theorem r_pf5 {n a ci : Nat} {v0 v1 v2 v3 v4 v5 v : Value} {t : List Value} (hc : z_code y pc = some (nx, .putfield n)) (hM : M[a]? = some (.inl (ci, (v0 :: v1 :: v2 :: v3 :: v4 :: v5 :: t)))) (hci : ci = n / 32) (hk : n % 32 = 5) (hft : z_fit (z_fty ci 5) v = true) (hfi : z_fin ci 5 = false ∨ z_ini y ci = true) (k : z_R S d y nx ls st (M.set a (.inl (ci, (v0 :: v1 :: v2 :: v3 :: v4 :: v :: t)))) Q) : z_R S d y pc ls (v :: .ref a :: st) M Q := by
  obtain ⟨r, M', k, hq⟩ := k
  exact ⟨r, M', g_pf5 hc hM hci hk hft hfi k, hq⟩
theorem r_pf6 {n a ci : Nat} {v0 v1 v2 v3 v4 v5 v6 v : Value} {t : List Value} (hc : z_code y pc = some (nx, .putfield n)) (hM : M[a]? = some (.inl (ci, (v0 :: v1 :: v2 :: v3 :: v4 :: v5 :: v6 :: t)))) (hci : ci = n / 32) (hk : n % 32 = 6) (hft : z_fit (z_fty ci 6) v = true) (hfi : z_fin ci 6 = false ∨ z_ini y ci = true) (k : z_R S d y nx ls st (M.set a (.inl (ci, (v0 :: v1 :: v2 :: v3 :: v4 :: v5 :: v :: t)))) Q) : z_R S d y pc ls (v :: .ref a :: st) M Q := by
  obtain ⟨r, M', k, hq⟩ := k
  exact ⟨r, M', g_pf6 hc hM hci hk hft hfi k, hq⟩
theorem r_pf7 {n a ci : Nat} {v0 v1 v2 v3 v4 v5 v6 v7 v : Value} {t : List Value} (hc : z_code y pc = some (nx, .putfield n)) (hM : M[a]? = some (.inl (ci, (v0 :: v1 :: v2 :: v3 :: v4 :: v5 :: v6 :: v7 :: t)))) (hci : ci = n / 32) (hk : n % 32 = 7) (hft : z_fit (z_fty ci 7) v = true) (hfi : z_fin ci 7 = false ∨ z_ini y ci = true) (k : z_R S d y nx ls st (M.set a (.inl (ci, (v0 :: v1 :: v2 :: v3 :: v4 :: v5 :: v6 :: v :: t)))) Q) : z_R S d y pc ls (v :: .ref a :: st) M Q := by
  obtain ⟨r, M', k, hq⟩ := k
  exact ⟨r, M', g_pf7 hc hM hci hk hft hfi k, hq⟩
theorem r_pf8 {n a ci : Nat} {v0 v1 v2 v3 v4 v5 v6 v7 v8 v : Value} {t : List Value} (hc : z_code y pc = some (nx, .putfield n)) (hM : M[a]? = some (.inl (ci, (v0 :: v1 :: v2 :: v3 :: v4 :: v5 :: v6 :: v7 :: v8 :: t)))) (hci : ci = n / 32) (hk : n % 32 = 8) (hft : z_fit (z_fty ci 8) v = true) (hfi : z_fin ci 8 = false ∨ z_ini y ci = true) (k : z_R S d y nx ls st (M.set a (.inl (ci, (v0 :: v1 :: v2 :: v3 :: v4 :: v5 :: v6 :: v7 :: v :: t)))) Q) : z_R S d y pc ls (v :: .ref a :: st) M Q := by
  obtain ⟨r, M', k, hq⟩ := k
  exact ⟨r, M', g_pf8 hc hM hci hk hft hfi k, hq⟩
theorem r_pf9 {n a ci : Nat} {v0 v1 v2 v3 v4 v5 v6 v7 v8 v9 v : Value} {t : List Value} (hc : z_code y pc = some (nx, .putfield n)) (hM : M[a]? = some (.inl (ci, (v0 :: v1 :: v2 :: v3 :: v4 :: v5 :: v6 :: v7 :: v8 :: v9 :: t)))) (hci : ci = n / 32) (hk : n % 32 = 9) (hft : z_fit (z_fty ci 9) v = true) (hfi : z_fin ci 9 = false ∨ z_ini y ci = true) (k : z_R S d y nx ls st (M.set a (.inl (ci, (v0 :: v1 :: v2 :: v3 :: v4 :: v5 :: v6 :: v7 :: v8 :: v :: t)))) Q) : z_R S d y pc ls (v :: .ref a :: st) M Q := by
  obtain ⟨r, M', k, hq⟩ := k
  exact ⟨r, M', g_pf9 hc hM hci hk hft hfi k, hq⟩
theorem r_pf10 {n a ci : Nat} {v0 v1 v2 v3 v4 v5 v6 v7 v8 v9 v10 v : Value} {t : List Value} (hc : z_code y pc = some (nx, .putfield n)) (hM : M[a]? = some (.inl (ci, (v0 :: v1 :: v2 :: v3 :: v4 :: v5 :: v6 :: v7 :: v8 :: v9 :: v10 :: t)))) (hci : ci = n / 32) (hk : n % 32 = 10) (hft : z_fit (z_fty ci 10) v = true) (hfi : z_fin ci 10 = false ∨ z_ini y ci = true) (k : z_R S d y nx ls st (M.set a (.inl (ci, (v0 :: v1 :: v2 :: v3 :: v4 :: v5 :: v6 :: v7 :: v8 :: v9 :: v :: t)))) Q) : z_R S d y pc ls (v :: .ref a :: st) M Q := by
  obtain ⟨r, M', k, hq⟩ := k
  exact ⟨r, M', g_pf10 hc hM hci hk hft hfi k, hq⟩
theorem r_pf11 {n a ci : Nat} {v0 v1 v2 v3 v4 v5 v6 v7 v8 v9 v10 v11 v : Value} {t : List Value} (hc : z_code y pc = some (nx, .putfield n)) (hM : M[a]? = some (.inl (ci, (v0 :: v1 :: v2 :: v3 :: v4 :: v5 :: v6 :: v7 :: v8 :: v9 :: v10 :: v11 :: t)))) (hci : ci = n / 32) (hk : n % 32 = 11) (hft : z_fit (z_fty ci 11) v = true) (hfi : z_fin ci 11 = false ∨ z_ini y ci = true) (k : z_R S d y nx ls st (M.set a (.inl (ci, (v0 :: v1 :: v2 :: v3 :: v4 :: v5 :: v6 :: v7 :: v8 :: v9 :: v10 :: v :: t)))) Q) : z_R S d y pc ls (v :: .ref a :: st) M Q := by
  obtain ⟨r, M', k, hq⟩ := k
  exact ⟨r, M', g_pf11 hc hM hci hk hft hfi k, hq⟩
theorem r_pf12 {n a ci : Nat} {v0 v1 v2 v3 v4 v5 v6 v7 v8 v9 v10 v11 v12 v : Value} {t : List Value} (hc : z_code y pc = some (nx, .putfield n)) (hM : M[a]? = some (.inl (ci, (v0 :: v1 :: v2 :: v3 :: v4 :: v5 :: v6 :: v7 :: v8 :: v9 :: v10 :: v11 :: v12 :: t)))) (hci : ci = n / 32) (hk : n % 32 = 12) (hft : z_fit (z_fty ci 12) v = true) (hfi : z_fin ci 12 = false ∨ z_ini y ci = true) (k : z_R S d y nx ls st (M.set a (.inl (ci, (v0 :: v1 :: v2 :: v3 :: v4 :: v5 :: v6 :: v7 :: v8 :: v9 :: v10 :: v11 :: v :: t)))) Q) : z_R S d y pc ls (v :: .ref a :: st) M Q := by
  obtain ⟨r, M', k, hq⟩ := k
  exact ⟨r, M', g_pf12 hc hM hci hk hft hfi k, hq⟩
theorem r_pf13 {n a ci : Nat} {v0 v1 v2 v3 v4 v5 v6 v7 v8 v9 v10 v11 v12 v13 v : Value} {t : List Value} (hc : z_code y pc = some (nx, .putfield n)) (hM : M[a]? = some (.inl (ci, (v0 :: v1 :: v2 :: v3 :: v4 :: v5 :: v6 :: v7 :: v8 :: v9 :: v10 :: v11 :: v12 :: v13 :: t)))) (hci : ci = n / 32) (hk : n % 32 = 13) (hft : z_fit (z_fty ci 13) v = true) (hfi : z_fin ci 13 = false ∨ z_ini y ci = true) (k : z_R S d y nx ls st (M.set a (.inl (ci, (v0 :: v1 :: v2 :: v3 :: v4 :: v5 :: v6 :: v7 :: v8 :: v9 :: v10 :: v11 :: v12 :: v :: t)))) Q) : z_R S d y pc ls (v :: .ref a :: st) M Q := by
  obtain ⟨r, M', k, hq⟩ := k
  exact ⟨r, M', g_pf13 hc hM hci hk hft hfi k, hq⟩
theorem r_pf14 {n a ci : Nat} {v0 v1 v2 v3 v4 v5 v6 v7 v8 v9 v10 v11 v12 v13 v14 v : Value} {t : List Value} (hc : z_code y pc = some (nx, .putfield n)) (hM : M[a]? = some (.inl (ci, (v0 :: v1 :: v2 :: v3 :: v4 :: v5 :: v6 :: v7 :: v8 :: v9 :: v10 :: v11 :: v12 :: v13 :: v14 :: t)))) (hci : ci = n / 32) (hk : n % 32 = 14) (hft : z_fit (z_fty ci 14) v = true) (hfi : z_fin ci 14 = false ∨ z_ini y ci = true) (k : z_R S d y nx ls st (M.set a (.inl (ci, (v0 :: v1 :: v2 :: v3 :: v4 :: v5 :: v6 :: v7 :: v8 :: v9 :: v10 :: v11 :: v12 :: v13 :: v :: t)))) Q) : z_R S d y pc ls (v :: .ref a :: st) M Q := by
  obtain ⟨r, M', k, hq⟩ := k
  exact ⟨r, M', g_pf14 hc hM hci hk hft hfi k, hq⟩
theorem r_pf15 {n a ci : Nat} {v0 v1 v2 v3 v4 v5 v6 v7 v8 v9 v10 v11 v12 v13 v14 v15 v : Value} {t : List Value} (hc : z_code y pc = some (nx, .putfield n)) (hM : M[a]? = some (.inl (ci, (v0 :: v1 :: v2 :: v3 :: v4 :: v5 :: v6 :: v7 :: v8 :: v9 :: v10 :: v11 :: v12 :: v13 :: v14 :: v15 :: t)))) (hci : ci = n / 32) (hk : n % 32 = 15) (hft : z_fit (z_fty ci 15) v = true) (hfi : z_fin ci 15 = false ∨ z_ini y ci = true) (k : z_R S d y nx ls st (M.set a (.inl (ci, (v0 :: v1 :: v2 :: v3 :: v4 :: v5 :: v6 :: v7 :: v8 :: v9 :: v10 :: v11 :: v12 :: v13 :: v14 :: v :: t)))) Q) : z_R S d y pc ls (v :: .ref a :: st) M Q := by
  obtain ⟨r, M', k, hq⟩ := k
  exact ⟨r, M', g_pf15 hc hM hci hk hft hfi k, hq⟩
theorem r_pf16 {n a ci : Nat} {v0 v1 v2 v3 v4 v5 v6 v7 v8 v9 v10 v11 v12 v13 v14 v15 v16 v : Value} {t : List Value} (hc : z_code y pc = some (nx, .putfield n)) (hM : M[a]? = some (.inl (ci, (v0 :: v1 :: v2 :: v3 :: v4 :: v5 :: v6 :: v7 :: v8 :: v9 :: v10 :: v11 :: v12 :: v13 :: v14 :: v15 :: v16 :: t)))) (hci : ci = n / 32) (hk : n % 32 = 16) (hft : z_fit (z_fty ci 16) v = true) (hfi : z_fin ci 16 = false ∨ z_ini y ci = true) (k : z_R S d y nx ls st (M.set a (.inl (ci, (v0 :: v1 :: v2 :: v3 :: v4 :: v5 :: v6 :: v7 :: v8 :: v9 :: v10 :: v11 :: v12 :: v13 :: v14 :: v15 :: v :: t)))) Q) : z_R S d y pc ls (v :: .ref a :: st) M Q := by
  obtain ⟨r, M', k, hq⟩ := k
  exact ⟨r, M', g_pf16 hc hM hci hk hft hfi k, hq⟩
theorem r_pf17 {n a ci : Nat} {v0 v1 v2 v3 v4 v5 v6 v7 v8 v9 v10 v11 v12 v13 v14 v15 v16 v17 v : Value} {t : List Value} (hc : z_code y pc = some (nx, .putfield n)) (hM : M[a]? = some (.inl (ci, (v0 :: v1 :: v2 :: v3 :: v4 :: v5 :: v6 :: v7 :: v8 :: v9 :: v10 :: v11 :: v12 :: v13 :: v14 :: v15 :: v16 :: v17 :: t)))) (hci : ci = n / 32) (hk : n % 32 = 17) (hft : z_fit (z_fty ci 17) v = true) (hfi : z_fin ci 17 = false ∨ z_ini y ci = true) (k : z_R S d y nx ls st (M.set a (.inl (ci, (v0 :: v1 :: v2 :: v3 :: v4 :: v5 :: v6 :: v7 :: v8 :: v9 :: v10 :: v11 :: v12 :: v13 :: v14 :: v15 :: v16 :: v :: t)))) Q) : z_R S d y pc ls (v :: .ref a :: st) M Q := by
  obtain ⟨r, M', k, hq⟩ := k
  exact ⟨r, M', g_pf17 hc hM hci hk hft hfi k, hq⟩
theorem r_pf18 {n a ci : Nat} {v0 v1 v2 v3 v4 v5 v6 v7 v8 v9 v10 v11 v12 v13 v14 v15 v16 v17 v18 v : Value} {t : List Value} (hc : z_code y pc = some (nx, .putfield n)) (hM : M[a]? = some (.inl (ci, (v0 :: v1 :: v2 :: v3 :: v4 :: v5 :: v6 :: v7 :: v8 :: v9 :: v10 :: v11 :: v12 :: v13 :: v14 :: v15 :: v16 :: v17 :: v18 :: t)))) (hci : ci = n / 32) (hk : n % 32 = 18) (hft : z_fit (z_fty ci 18) v = true) (hfi : z_fin ci 18 = false ∨ z_ini y ci = true) (k : z_R S d y nx ls st (M.set a (.inl (ci, (v0 :: v1 :: v2 :: v3 :: v4 :: v5 :: v6 :: v7 :: v8 :: v9 :: v10 :: v11 :: v12 :: v13 :: v14 :: v15 :: v16 :: v17 :: v :: t)))) Q) : z_R S d y pc ls (v :: .ref a :: st) M Q := by
  obtain ⟨r, M', k, hq⟩ := k
  exact ⟨r, M', g_pf18 hc hM hci hk hft hfi k, hq⟩
theorem r_pf19 {n a ci : Nat} {v0 v1 v2 v3 v4 v5 v6 v7 v8 v9 v10 v11 v12 v13 v14 v15 v16 v17 v18 v19 v : Value} {t : List Value} (hc : z_code y pc = some (nx, .putfield n)) (hM : M[a]? = some (.inl (ci, (v0 :: v1 :: v2 :: v3 :: v4 :: v5 :: v6 :: v7 :: v8 :: v9 :: v10 :: v11 :: v12 :: v13 :: v14 :: v15 :: v16 :: v17 :: v18 :: v19 :: t)))) (hci : ci = n / 32) (hk : n % 32 = 19) (hft : z_fit (z_fty ci 19) v = true) (hfi : z_fin ci 19 = false ∨ z_ini y ci = true) (k : z_R S d y nx ls st (M.set a (.inl (ci, (v0 :: v1 :: v2 :: v3 :: v4 :: v5 :: v6 :: v7 :: v8 :: v9 :: v10 :: v11 :: v12 :: v13 :: v14 :: v15 :: v16 :: v17 :: v18 :: v :: t)))) Q) : z_R S d y pc ls (v :: .ref a :: st) M Q := by
  obtain ⟨r, M', k, hq⟩ := k
  exact ⟨r, M', g_pf19 hc hM hci hk hft hfi k, hq⟩
theorem r_pf20 {n a ci : Nat} {v0 v1 v2 v3 v4 v5 v6 v7 v8 v9 v10 v11 v12 v13 v14 v15 v16 v17 v18 v19 v20 v : Value} {t : List Value} (hc : z_code y pc = some (nx, .putfield n)) (hM : M[a]? = some (.inl (ci, (v0 :: v1 :: v2 :: v3 :: v4 :: v5 :: v6 :: v7 :: v8 :: v9 :: v10 :: v11 :: v12 :: v13 :: v14 :: v15 :: v16 :: v17 :: v18 :: v19 :: v20 :: t)))) (hci : ci = n / 32) (hk : n % 32 = 20) (hft : z_fit (z_fty ci 20) v = true) (hfi : z_fin ci 20 = false ∨ z_ini y ci = true) (k : z_R S d y nx ls st (M.set a (.inl (ci, (v0 :: v1 :: v2 :: v3 :: v4 :: v5 :: v6 :: v7 :: v8 :: v9 :: v10 :: v11 :: v12 :: v13 :: v14 :: v15 :: v16 :: v17 :: v18 :: v19 :: v :: t)))) Q) : z_R S d y pc ls (v :: .ref a :: st) M Q := by
  obtain ⟨r, M', k, hq⟩ := k
  exact ⟨r, M', g_pf20 hc hM hci hk hft hfi k, hq⟩
theorem r_pf21 {n a ci : Nat} {v0 v1 v2 v3 v4 v5 v6 v7 v8 v9 v10 v11 v12 v13 v14 v15 v16 v17 v18 v19 v20 v21 v : Value} {t : List Value} (hc : z_code y pc = some (nx, .putfield n)) (hM : M[a]? = some (.inl (ci, (v0 :: v1 :: v2 :: v3 :: v4 :: v5 :: v6 :: v7 :: v8 :: v9 :: v10 :: v11 :: v12 :: v13 :: v14 :: v15 :: v16 :: v17 :: v18 :: v19 :: v20 :: v21 :: t)))) (hci : ci = n / 32) (hk : n % 32 = 21) (hft : z_fit (z_fty ci 21) v = true) (hfi : z_fin ci 21 = false ∨ z_ini y ci = true) (k : z_R S d y nx ls st (M.set a (.inl (ci, (v0 :: v1 :: v2 :: v3 :: v4 :: v5 :: v6 :: v7 :: v8 :: v9 :: v10 :: v11 :: v12 :: v13 :: v14 :: v15 :: v16 :: v17 :: v18 :: v19 :: v20 :: v :: t)))) Q) : z_R S d y pc ls (v :: .ref a :: st) M Q := by
  obtain ⟨r, M', k, hq⟩ := k
  exact ⟨r, M', g_pf21 hc hM hci hk hft hfi k, hq⟩
theorem r_pf22 {n a ci : Nat} {v0 v1 v2 v3 v4 v5 v6 v7 v8 v9 v10 v11 v12 v13 v14 v15 v16 v17 v18 v19 v20 v21 v22 v : Value} {t : List Value} (hc : z_code y pc = some (nx, .putfield n)) (hM : M[a]? = some (.inl (ci, (v0 :: v1 :: v2 :: v3 :: v4 :: v5 :: v6 :: v7 :: v8 :: v9 :: v10 :: v11 :: v12 :: v13 :: v14 :: v15 :: v16 :: v17 :: v18 :: v19 :: v20 :: v21 :: v22 :: t)))) (hci : ci = n / 32) (hk : n % 32 = 22) (hft : z_fit (z_fty ci 22) v = true) (hfi : z_fin ci 22 = false ∨ z_ini y ci = true) (k : z_R S d y nx ls st (M.set a (.inl (ci, (v0 :: v1 :: v2 :: v3 :: v4 :: v5 :: v6 :: v7 :: v8 :: v9 :: v10 :: v11 :: v12 :: v13 :: v14 :: v15 :: v16 :: v17 :: v18 :: v19 :: v20 :: v21 :: v :: t)))) Q) : z_R S d y pc ls (v :: .ref a :: st) M Q := by
  obtain ⟨r, M', k, hq⟩ := k
  exact ⟨r, M', g_pf22 hc hM hci hk hft hfi k, hq⟩
theorem r_pf23 {n a ci : Nat} {v0 v1 v2 v3 v4 v5 v6 v7 v8 v9 v10 v11 v12 v13 v14 v15 v16 v17 v18 v19 v20 v21 v22 v23 v : Value} {t : List Value} (hc : z_code y pc = some (nx, .putfield n)) (hM : M[a]? = some (.inl (ci, (v0 :: v1 :: v2 :: v3 :: v4 :: v5 :: v6 :: v7 :: v8 :: v9 :: v10 :: v11 :: v12 :: v13 :: v14 :: v15 :: v16 :: v17 :: v18 :: v19 :: v20 :: v21 :: v22 :: v23 :: t)))) (hci : ci = n / 32) (hk : n % 32 = 23) (hft : z_fit (z_fty ci 23) v = true) (hfi : z_fin ci 23 = false ∨ z_ini y ci = true) (k : z_R S d y nx ls st (M.set a (.inl (ci, (v0 :: v1 :: v2 :: v3 :: v4 :: v5 :: v6 :: v7 :: v8 :: v9 :: v10 :: v11 :: v12 :: v13 :: v14 :: v15 :: v16 :: v17 :: v18 :: v19 :: v20 :: v21 :: v22 :: v :: t)))) Q) : z_R S d y pc ls (v :: .ref a :: st) M Q := by
  obtain ⟨r, M', k, hq⟩ := k
  exact ⟨r, M', g_pf23 hc hM hci hk hft hfi k, hq⟩
theorem r_pf24 {n a ci : Nat} {v0 v1 v2 v3 v4 v5 v6 v7 v8 v9 v10 v11 v12 v13 v14 v15 v16 v17 v18 v19 v20 v21 v22 v23 v24 v : Value} {t : List Value} (hc : z_code y pc = some (nx, .putfield n)) (hM : M[a]? = some (.inl (ci, (v0 :: v1 :: v2 :: v3 :: v4 :: v5 :: v6 :: v7 :: v8 :: v9 :: v10 :: v11 :: v12 :: v13 :: v14 :: v15 :: v16 :: v17 :: v18 :: v19 :: v20 :: v21 :: v22 :: v23 :: v24 :: t)))) (hci : ci = n / 32) (hk : n % 32 = 24) (hft : z_fit (z_fty ci 24) v = true) (hfi : z_fin ci 24 = false ∨ z_ini y ci = true) (k : z_R S d y nx ls st (M.set a (.inl (ci, (v0 :: v1 :: v2 :: v3 :: v4 :: v5 :: v6 :: v7 :: v8 :: v9 :: v10 :: v11 :: v12 :: v13 :: v14 :: v15 :: v16 :: v17 :: v18 :: v19 :: v20 :: v21 :: v22 :: v23 :: v :: t)))) Q) : z_R S d y pc ls (v :: .ref a :: st) M Q := by
  obtain ⟨r, M', k, hq⟩ := k
  exact ⟨r, M', g_pf24 hc hM hci hk hft hfi k, hq⟩
end ZR
section ZR3
variable {S : ZS} {d y pc nx : Nat} {ls : ZL} {rest : List Value} {M M1 : ZM} {Q : Option Value → ZM → Prop} {a1 a2 a3 a4 w : Value} {q : Nat}
theorem r_cs0 (hc : z_code y pc = some (nx, .invokestatic q)) (hn : (z_mt q).2.2.2.2.1 = 0) (h99 : (z_mt q).2.2.2.2.2 = 99) (h8 : z_cat rest = true) (hcal : z_C S d q [] M (some w) M1) (k : z_R S (d + 1) y nx ls (w :: rest) M1 Q) : z_R S (d + 1) y pc ls (rest) M Q := by
  obtain ⟨r, M', k, hq⟩ := k
  exact ⟨r, M', g_cs0 hc hn h99 h8 hcal k, hq⟩
theorem r_cv0 {a ci : Nat} {fs : List Value} (hc : z_code y pc = some (nx, .invokevirtual q)) (hn : (z_mt q).2.2.2.2.1 = 0) (hM : M[a]? = some (.inl (ci, fs))) (hci : ci = (z_mt q).2.2.2.2.2) (h7 : ci < 7) (h8 : z_cat rest = true) (hcal : z_C S d q (.ref a :: []) M (some w) M1) (k : z_R S (d + 1) y nx ls (w :: rest) M1 Q) : z_R S (d + 1) y pc ls (.ref a :: rest) M Q := by
  obtain ⟨r, M', k, hq⟩ := k
  exact ⟨r, M', g_cv0 hc hn hM hci h7 h8 hcal k, hq⟩
theorem r_cs0v (hc : z_code y pc = some (nx, .invokestatic q)) (hn : (z_mt q).2.2.2.2.1 = 0) (h99 : (z_mt q).2.2.2.2.2 = 99) (h8 : z_cat rest = true) (hcal : z_C S d q [] M none M1) (k : z_R S (d + 1) y nx ls rest M1 Q) : z_R S (d + 1) y pc ls (rest) M Q := by
  obtain ⟨r, M', k, hq⟩ := k
  exact ⟨r, M', g_cs0v hc hn h99 h8 hcal k, hq⟩
theorem r_cv0v {a ci : Nat} {fs : List Value} (hc : z_code y pc = some (nx, .invokevirtual q)) (hn : (z_mt q).2.2.2.2.1 = 0) (hM : M[a]? = some (.inl (ci, fs))) (hci : ci = (z_mt q).2.2.2.2.2) (h7 : ci < 7) (h8 : z_cat rest = true) (hcal : z_C S d q (.ref a :: []) M none M1) (k : z_R S (d + 1) y nx ls rest M1 Q) : z_R S (d + 1) y pc ls (.ref a :: rest) M Q := by
  obtain ⟨r, M', k, hq⟩ := k
  exact ⟨r, M', g_cv0v hc hn hM hci h7 h8 hcal k, hq⟩
theorem r_cx0v {a : Nat} (hc : z_code y pc = some (nx, .invokespecial q)) (hn : (z_mt q).2.2.2.2.1 = 0) (h8 : z_cat rest = true) (hi : (z_mt q).1.name = "<init>") (hv : (z_mt q).2.2.2.1 = none) (hcal : z_C S d q [.ref a] M none M1) (k : z_R S (d + 1) y nx ls rest M1 Q) : z_R S (d + 1) y pc ls (.ref a :: rest) M Q := by
  obtain ⟨r, M', k, hq⟩ := k
  exact ⟨r, M', g_cx0v hc hn h8 hi hv hcal k, hq⟩
theorem r_cs1 (hc : z_code y pc = some (nx, .invokestatic q)) (hn : (z_mt q).2.2.2.2.1 = 1) (h99 : (z_mt q).2.2.2.2.2 = 99) (h8 : z_cat rest = true) (hcal : z_C S d q [a1] M (some w) M1) (k : z_R S (d + 1) y nx ls (w :: rest) M1 Q) : z_R S (d + 1) y pc ls (a1 :: rest) M Q := by
  obtain ⟨r, M', k, hq⟩ := k
  exact ⟨r, M', g_cs1 hc hn h99 h8 hcal k, hq⟩
theorem r_cv1 {a ci : Nat} {fs : List Value} (hc : z_code y pc = some (nx, .invokevirtual q)) (hn : (z_mt q).2.2.2.2.1 = 1) (hM : M[a]? = some (.inl (ci, fs))) (hci : ci = (z_mt q).2.2.2.2.2) (h7 : ci < 7) (h8 : z_cat rest = true) (hcal : z_C S d q (.ref a :: [a1]) M (some w) M1) (k : z_R S (d + 1) y nx ls (w :: rest) M1 Q) : z_R S (d + 1) y pc ls (a1 :: .ref a :: rest) M Q := by
  obtain ⟨r, M', k, hq⟩ := k
  exact ⟨r, M', g_cv1 hc hn hM hci h7 h8 hcal k, hq⟩
theorem r_cs1v (hc : z_code y pc = some (nx, .invokestatic q)) (hn : (z_mt q).2.2.2.2.1 = 1) (h99 : (z_mt q).2.2.2.2.2 = 99) (h8 : z_cat rest = true) (hcal : z_C S d q [a1] M none M1) (k : z_R S (d + 1) y nx ls rest M1 Q) : z_R S (d + 1) y pc ls (a1 :: rest) M Q := by
  obtain ⟨r, M', k, hq⟩ := k
  exact ⟨r, M', g_cs1v hc hn h99 h8 hcal k, hq⟩
theorem r_cv1v {a ci : Nat} {fs : List Value} (hc : z_code y pc = some (nx, .invokevirtual q)) (hn : (z_mt q).2.2.2.2.1 = 1) (hM : M[a]? = some (.inl (ci, fs))) (hci : ci = (z_mt q).2.2.2.2.2) (h7 : ci < 7) (h8 : z_cat rest = true) (hcal : z_C S d q (.ref a :: [a1]) M none M1) (k : z_R S (d + 1) y nx ls rest M1 Q) : z_R S (d + 1) y pc ls (a1 :: .ref a :: rest) M Q := by
  obtain ⟨r, M', k, hq⟩ := k
  exact ⟨r, M', g_cv1v hc hn hM hci h7 h8 hcal k, hq⟩
theorem r_cs2 (hc : z_code y pc = some (nx, .invokestatic q)) (hn : (z_mt q).2.2.2.2.1 = 2) (h99 : (z_mt q).2.2.2.2.2 = 99) (h8 : z_cat rest = true) (hcal : z_C S d q [a1, a2] M (some w) M1) (k : z_R S (d + 1) y nx ls (w :: rest) M1 Q) : z_R S (d + 1) y pc ls (a2 :: a1 :: rest) M Q := by
  obtain ⟨r, M', k, hq⟩ := k
  exact ⟨r, M', g_cs2 hc hn h99 h8 hcal k, hq⟩
theorem r_cv2 {a ci : Nat} {fs : List Value} (hc : z_code y pc = some (nx, .invokevirtual q)) (hn : (z_mt q).2.2.2.2.1 = 2) (hM : M[a]? = some (.inl (ci, fs))) (hci : ci = (z_mt q).2.2.2.2.2) (h7 : ci < 7) (h8 : z_cat rest = true) (hcal : z_C S d q (.ref a :: [a1, a2]) M (some w) M1) (k : z_R S (d + 1) y nx ls (w :: rest) M1 Q) : z_R S (d + 1) y pc ls (a2 :: a1 :: .ref a :: rest) M Q := by
  obtain ⟨r, M', k, hq⟩ := k
  exact ⟨r, M', g_cv2 hc hn hM hci h7 h8 hcal k, hq⟩
theorem r_cs2v (hc : z_code y pc = some (nx, .invokestatic q)) (hn : (z_mt q).2.2.2.2.1 = 2) (h99 : (z_mt q).2.2.2.2.2 = 99) (h8 : z_cat rest = true) (hcal : z_C S d q [a1, a2] M none M1) (k : z_R S (d + 1) y nx ls rest M1 Q) : z_R S (d + 1) y pc ls (a2 :: a1 :: rest) M Q := by
  obtain ⟨r, M', k, hq⟩ := k
  exact ⟨r, M', g_cs2v hc hn h99 h8 hcal k, hq⟩
theorem r_cv2v {a ci : Nat} {fs : List Value} (hc : z_code y pc = some (nx, .invokevirtual q)) (hn : (z_mt q).2.2.2.2.1 = 2) (hM : M[a]? = some (.inl (ci, fs))) (hci : ci = (z_mt q).2.2.2.2.2) (h7 : ci < 7) (h8 : z_cat rest = true) (hcal : z_C S d q (.ref a :: [a1, a2]) M none M1) (k : z_R S (d + 1) y nx ls rest M1 Q) : z_R S (d + 1) y pc ls (a2 :: a1 :: .ref a :: rest) M Q := by
  obtain ⟨r, M', k, hq⟩ := k
  exact ⟨r, M', g_cv2v hc hn hM hci h7 h8 hcal k, hq⟩
theorem r_cs3 (hc : z_code y pc = some (nx, .invokestatic q)) (hn : (z_mt q).2.2.2.2.1 = 3) (h99 : (z_mt q).2.2.2.2.2 = 99) (h8 : z_cat rest = true) (hcal : z_C S d q [a1, a2, a3] M (some w) M1) (k : z_R S (d + 1) y nx ls (w :: rest) M1 Q) : z_R S (d + 1) y pc ls (a3 :: a2 :: a1 :: rest) M Q := by
  obtain ⟨r, M', k, hq⟩ := k
  exact ⟨r, M', g_cs3 hc hn h99 h8 hcal k, hq⟩
theorem r_cv3 {a ci : Nat} {fs : List Value} (hc : z_code y pc = some (nx, .invokevirtual q)) (hn : (z_mt q).2.2.2.2.1 = 3) (hM : M[a]? = some (.inl (ci, fs))) (hci : ci = (z_mt q).2.2.2.2.2) (h7 : ci < 7) (h8 : z_cat rest = true) (hcal : z_C S d q (.ref a :: [a1, a2, a3]) M (some w) M1) (k : z_R S (d + 1) y nx ls (w :: rest) M1 Q) : z_R S (d + 1) y pc ls (a3 :: a2 :: a1 :: .ref a :: rest) M Q := by
  obtain ⟨r, M', k, hq⟩ := k
  exact ⟨r, M', g_cv3 hc hn hM hci h7 h8 hcal k, hq⟩
theorem r_cs3v (hc : z_code y pc = some (nx, .invokestatic q)) (hn : (z_mt q).2.2.2.2.1 = 3) (h99 : (z_mt q).2.2.2.2.2 = 99) (h8 : z_cat rest = true) (hcal : z_C S d q [a1, a2, a3] M none M1) (k : z_R S (d + 1) y nx ls rest M1 Q) : z_R S (d + 1) y pc ls (a3 :: a2 :: a1 :: rest) M Q := by
  obtain ⟨r, M', k, hq⟩ := k
  exact ⟨r, M', g_cs3v hc hn h99 h8 hcal k, hq⟩
theorem r_cv3v {a ci : Nat} {fs : List Value} (hc : z_code y pc = some (nx, .invokevirtual q)) (hn : (z_mt q).2.2.2.2.1 = 3) (hM : M[a]? = some (.inl (ci, fs))) (hci : ci = (z_mt q).2.2.2.2.2) (h7 : ci < 7) (h8 : z_cat rest = true) (hcal : z_C S d q (.ref a :: [a1, a2, a3]) M none M1) (k : z_R S (d + 1) y nx ls rest M1 Q) : z_R S (d + 1) y pc ls (a3 :: a2 :: a1 :: .ref a :: rest) M Q := by
  obtain ⟨r, M', k, hq⟩ := k
  exact ⟨r, M', g_cv3v hc hn hM hci h7 h8 hcal k, hq⟩
theorem r_cs4 (hc : z_code y pc = some (nx, .invokestatic q)) (hn : (z_mt q).2.2.2.2.1 = 4) (h99 : (z_mt q).2.2.2.2.2 = 99) (h8 : z_cat rest = true) (hcal : z_C S d q [a1, a2, a3, a4] M (some w) M1) (k : z_R S (d + 1) y nx ls (w :: rest) M1 Q) : z_R S (d + 1) y pc ls (a4 :: a3 :: a2 :: a1 :: rest) M Q := by
  obtain ⟨r, M', k, hq⟩ := k
  exact ⟨r, M', g_cs4 hc hn h99 h8 hcal k, hq⟩
theorem r_cv4 {a ci : Nat} {fs : List Value} (hc : z_code y pc = some (nx, .invokevirtual q)) (hn : (z_mt q).2.2.2.2.1 = 4) (hM : M[a]? = some (.inl (ci, fs))) (hci : ci = (z_mt q).2.2.2.2.2) (h7 : ci < 7) (h8 : z_cat rest = true) (hcal : z_C S d q (.ref a :: [a1, a2, a3, a4]) M (some w) M1) (k : z_R S (d + 1) y nx ls (w :: rest) M1 Q) : z_R S (d + 1) y pc ls (a4 :: a3 :: a2 :: a1 :: .ref a :: rest) M Q := by
  obtain ⟨r, M', k, hq⟩ := k
  exact ⟨r, M', g_cv4 hc hn hM hci h7 h8 hcal k, hq⟩
theorem r_cs4v (hc : z_code y pc = some (nx, .invokestatic q)) (hn : (z_mt q).2.2.2.2.1 = 4) (h99 : (z_mt q).2.2.2.2.2 = 99) (h8 : z_cat rest = true) (hcal : z_C S d q [a1, a2, a3, a4] M none M1) (k : z_R S (d + 1) y nx ls rest M1 Q) : z_R S (d + 1) y pc ls (a4 :: a3 :: a2 :: a1 :: rest) M Q := by
  obtain ⟨r, M', k, hq⟩ := k
  exact ⟨r, M', g_cs4v hc hn h99 h8 hcal k, hq⟩
theorem r_cv4v {a ci : Nat} {fs : List Value} (hc : z_code y pc = some (nx, .invokevirtual q)) (hn : (z_mt q).2.2.2.2.1 = 4) (hM : M[a]? = some (.inl (ci, fs))) (hci : ci = (z_mt q).2.2.2.2.2) (h7 : ci < 7) (h8 : z_cat rest = true) (hcal : z_C S d q (.ref a :: [a1, a2, a3, a4]) M none M1) (k : z_R S (d + 1) y nx ls rest M1 Q) : z_R S (d + 1) y pc ls (a4 :: a3 :: a2 :: a1 :: .ref a :: rest) M Q := by
  obtain ⟨r, M', k, hq⟩ := k
  exact ⟨r, M', g_cv4v hc hn hM hci h7 h8 hcal k, hq⟩
end ZR3
section ZRr
variable {S : ZS} {d y pc nx : Nat} {ls : ZL} {M : ZM} {Q : Option Value → ZM → Prop}
theorem r_reti {v : Int32} (hc : z_code y pc = some (nx, .ireturn)) (hok : z_rok y (.int v) = true) (hq : Q (some (.int v)) M) : z_R S d y pc ls [.int v] M Q := ⟨_, _, g_reti hc rfl hok, hq⟩
theorem r_retl {v : Int64} (hc : z_code y pc = some (nx, .lreturn)) (hok : z_rok y (.long v) = true) (hq : Q (some (.long v)) M) : z_R S d y pc ls [.long v] M Q := ⟨_, _, g_retl hc rfl hok, hq⟩
theorem r_reta {v : Nat} (hc : z_code y pc = some (nx, .areturn)) (hok : z_rok y (.ref v) = true) (hq : Q (some (.ref v)) M) : z_R S d y pc ls [.ref v] M Q := ⟨_, _, g_reta hc rfl hok, hq⟩
theorem r_retn (hc : z_code y pc = some (nx, .areturn)) (hok : z_rok y .null = true) (hq : Q (some .null) M) : z_R S d y pc ls [.null] M Q := ⟨_, _, g_retn hc rfl hok, hq⟩
theorem r_retv (hc : z_code y pc = some (nx, .return_)) (hok : (z_mt y).2.2.2.1 = none) (hq : Q none M) : z_R S d y pc ls [] M Q := ⟨_, _, g_retv hc rfl hok, hq⟩
end ZRr
end
section
/-! a long into the 7th local -/
theorem r_ls7 {S : ZS} {d y pc nx : Nat} {v0 v1 v2 v3 v4 v5 v6 v7 v8 : Option Value} {t : ZL} {st : List Value} {M : ZM} {Q : Option Value → ZM → Prop} {x : Int64} (hc : z_code y pc = some (nx, .lstore 7)) (hv : z_nl v6 = true) (k : z_R S d y nx (v0 :: v1 :: v2 :: v3 :: v4 :: v5 :: v6 :: some (.long x) :: none :: t) st M Q) : z_R S d y pc (v0 :: v1 :: v2 :: v3 :: v4 :: v5 :: v6 :: v7 :: v8 :: t) (.long x :: st) M Q := by
  obtain ⟨r, M', k, hq⟩ := k
  refine ⟨r, M', g_step hc ?_ k, hq⟩
  simp only [z_stp]
  rw [if_pos (by simp)]
  refine congrArg (fun q => some (Sum.inl (nx, q, st, M))) ?_
  unfold z_st2 z_cut
  have h : (v0 :: v1 :: v2 :: v3 :: v4 :: v5 :: v6 :: v7 :: v8 :: t)[6]? = some v6 := rfl
  dsimp only
  rw [h]
  cases v6 with
  | none => rfl
  | some w =>
    have hw : w.category = 1 := of_decide_eq_true hv
    dsimp only
    rw [if_neg (by rw [hw]; decide)]
    rfl
end
section
/-! RUNS of steps: pure words. s: the steps, N: how many -/
def p_back (s : Nat → Int) (v : Int) : Nat → Nat
  | 0 => 0
  | j + 1 => if s j = v then p_back s v j + 1 else 0
/-- how long the run is that ends with the i-th step -/
def p_run (s : Nat → Int) (i : Nat) : Nat := p_back s (s i) i + 1
def p_fr (s : Nat → Int) (N : Nat) : Nat → Nat → Nat
  | 0, k => k
  | n + 1, k => if k < N ∧ s k = s 0 then p_fr s N n (k + 1) else k
/-- how long the first run is -/
def p_first (s : Nat → Int) (N : Nat) : Nat := p_fr s N N 1
/-- the longest run among the first N steps -/
def p_long (s : Nat → Int) : Nat → Nat
  | 0 => 0
  | i + 1 => max (p_long s i) (p_run s i)
def p_strF (s : Nat → Int) (lim N : Nat) : Nat → Nat → Int
  | 0, _ => -9
  | n + 1, i => if i < N then (if lim < p_run s i then (i : Int) else p_strF s lim N n (i + 1)) else -9
/-- the first step with which a run is longer than lim; -9: none -/
def p_str (s : Nat → Int) (lim N : Nat) : Int := p_strF s lim N N 0
theorem p_back_le (s : Nat → Int) (v : Int) (j : Nat) : p_back s v j ≤ j := by
  induction j with
  | zero => exact Nat.le_refl 0
  | succ j ih =>
    unfold p_back
    split <;> omega
theorem p_run_le (s : Nat → Int) (i : Nat) : p_run s i ≤ i + 1 := Nat.succ_le_succ (p_back_le s _ i)
theorem p_run_pos (s : Nat → Int) (i : Nat) : 1 ≤ p_run s i := Nat.succ_le_succ (Nat.zero_le _)
theorem p_fr_le (s : Nat → Int) (N : Nat) : ∀ n k : Nat, p_fr s N n k ≤ max k N ∧ k ≤ p_fr s N n k := by
  intro n
  induction n with
  | zero => intro k; exact ⟨Nat.le_max_left _ _, Nat.le_refl _⟩
  | succ n ih =>
    intro k
    unfold p_fr
    split
    · have := ih (k + 1)
      omega
    · omega
theorem p_long_le (s : Nat → Int) (n : Nat) : p_long s n ≤ n := by
  induction n with
  | zero => exact Nat.le_refl 0
  | succ i ih =>
    unfold p_long
    have := p_run_le s i
    omega
theorem p_strF_in (s : Nat → Int) (lim N : Nat) : ∀ n i : Nat, p_strF s lim N n i = -9 ∨ (0 ≤ p_strF s lim N n i ∧ p_strF s lim N n i < N) := by
  intro n
  induction n with
  | zero => intro i; exact Or.inl rfl
  | succ n ih =>
    intro i
    unfold p_strF
    split
    · split
      · right
        omega
      · exact ih (i + 1)
    · exact Or.inl rfl
end
section
/-! Chain's methods that read -/
/-- a Chain's cell, its row of steps, and what they say -/
def k_C (M : ZM) (c sa : Nat) (f la : Int) (N : Nat) (cs : Int32) (g : Nat → Int32) (s : Nat → Int) : Prop :=
  M[c]? = some (.inl (0, [.int (zI f), .int (zI la), .int (zI (N : Int)), .int cs, .ref sa])) ∧ M[sa]? = some (.inr (0, 12, .inl g)) ∧ N ≤ 12 ∧ sa ≠ 1000 ∧ ∀ j : Nat, j < N → g j = zI (s j) ∧ 0 ≤ s j ∧ s j ≤ 3
section CH
variable {S : ZS} {d : Nat} {M : ZM} {c sa : Nat} {f la : Int} {N : Nat} {cs : Int32} {g : Nat → Int32} {s : Nat → Int}
theorem c_stepAt (h : k_C M c sa f la N cs g s) {i : Int} (h0 : 0 ≤ i) (hn : i < N) : z_C S d 3 [.ref c, .int (zI i)] M (some (.int (zI (s i.toNat)))) M := by
  obtain ⟨h1, h2, h3, h4, h5⟩ := h
  refine c_of rfl rfl (Nat.le_of_ble_eq_true rfl) ?_
  refine g_il rfl rfl ?_
  refine g_ifF rfl (zcF2 ⟨by omega, by omega⟩ ⟨by omega, by omega⟩ (by omega)) ?_
  refine g_il rfl rfl ?_
  refine g_al rfl rfl ?_
  refine g_gf rfl h1 rfl rfl ?_
  refine g_icF rfl (zcF3 ⟨by omega, by omega⟩ ⟨by omega, by omega⟩ (by omega)) ?_
  refine g_il rfl rfl ?_
  refine g_ic rfl ?_
  refine g_icF rfl (zcF3 ⟨by omega, by omega⟩ ⟨by omega, by omega⟩ (by omega)) ?_
  refine g_al rfl rfl ?_
  refine g_gf rfl h1 rfl rfl ?_
  refine g_il rfl rfl ?_
  refine g_iaI rfl (by omega) h2 (by omega) (by omega) (by omega) ?_
  rw [(h5 i.toNat (by omega)).1]
  refine g_goto rfl ?_
  exact g_reti rfl (rfl) rfl
theorem c_stepAtN (h : k_C M c sa f la N cs g s) {i : Int} (h8 : z_sm i) (hn : i < 0 ∨ (N : Int) ≤ i) : z_C S d 3 [.ref c, .int (zI i)] M (some (.int (zI (-1)))) M := by
  obtain ⟨h1, h2, h3, h4, h5⟩ := h
  refine c_of rfl rfl (Nat.le_of_ble_eq_true rfl) ?_
  refine g_il rfl rfl ?_
  by_cases h0 : i < 0
  · refine g_ifT rfl (zcT2 ⟨by omega, by omega⟩ ⟨by omega, by omega⟩ (h0)) ?_
    refine g_ic rfl ?_
    exact g_reti rfl (rfl) rfl
  · refine g_ifF rfl (zcF2 ⟨by omega, by omega⟩ ⟨by omega, by omega⟩ (h0)) ?_
    refine g_il rfl rfl ?_
    refine g_al rfl rfl ?_
    refine g_gf rfl h1 rfl rfl ?_
    refine g_icT rfl (zcT3 ⟨by omega, by omega⟩ ⟨by omega, by omega⟩ (by omega)) ?_
    refine g_ic rfl ?_
    exact g_reti rfl (rfl) rfl
theorem c_runUpTo_l (h : k_C M c sa f la N cs g s) {i : Nat} (hi : i < N) : ∀ (j : Nat) (run : Int), j ≤ i → 0 ≤ run ∧ run ≤ 100 - (j : Int) → z_G S (d + 1) 5 4 [some (.ref c), some (.int (zI (i : Int))), some (.int (zI run)), some (.int (zI (j : Int)))] [] M (some (.int (zI (run + (p_back s (s i) j : Int))))) M := by
  obtain ⟨h1, h2, h3, h4, h5⟩ := id h
  intro j
  induction j with
  | zero =>
    intro run hj hr
    refine g_il rfl rfl ?_
    refine g_ifT rfl (zcT5 ⟨by omega, by omega⟩ ⟨by omega, by omega⟩ (by omega)) ?_
    refine g_il rfl rfl ?_
    exact g_reti rfl (by rw [show p_back s (s i) 0 = 0 from rfl]; simp) rfl
  | succ j ih =>
    intro run hj hr
    refine g_il rfl rfl ?_
    refine g_ifF rfl (zcF5 ⟨by omega, by omega⟩ ⟨by omega, by omega⟩ (by omega)) ?_
    refine g_al rfl rfl ?_
    refine g_il rfl rfl ?_
    refine g_ic rfl ?_
    refine g_subI rfl ?_
    rw [show ((j + 1 : Nat) : Int) - 1 = (j : Int) by omega]
    refine g_cv1 rfl rfl h1 rfl (by decide) rfl (c_stepAt h (i := (j : Int)) (by omega) (by omega)) ?_
    refine g_al rfl rfl ?_
    refine g_il rfl rfl ?_
    refine g_cv1 rfl rfl h1 rfl (by decide) rfl (c_stepAt h (i := (i : Int)) (by omega) (by omega)) ?_
    rw [Int.toNat_natCast, Int.toNat_natCast]
    have e1 := (h5 j (by omega)).2
    have e2 := (h5 i hi).2
    by_cases he : s j = s i
    · refine g_icF rfl (zcF1 (he)) ?_
      refine g_jj2 rfl rfl ?_
      refine g_jj3 rfl rfl ?_
      refine g_goto rfl ?_
      rw [show ((j + 1 : Nat) : Int) + (-1) = (j : Int) by omega]
      have e3 := ih (run + 1) (by omega) (by omega)
      unfold p_back
      rw [if_pos he]
      rw [show run + ((p_back s (s i) j + 1 : Nat) : Int) = run + 1 + (p_back s (s i) j : Int) by omega]
      exact e3
    · refine g_icT rfl (zcT1 ⟨by omega, by omega⟩ ⟨by omega, by omega⟩ (he)) ?_
      refine g_il rfl rfl ?_
      exact g_reti rfl (by unfold p_back; rw [if_neg he]; simp) rfl
theorem c_runUpTo (h : k_C M c sa f la N cs g s) {i : Nat} (hi : i < N) : z_C S (d + 1) 5 [.ref c, .int (zI (i : Int))] M (some (.int (zI (p_run s i : Int)))) M := by
  obtain ⟨h1, h2, h3, h4, h5⟩ := id h
  refine c_of rfl rfl (Nat.le_of_ble_eq_true rfl) ?_
  refine g_ic rfl ?_
  refine g_is2 rfl rfl ?_
  refine g_il rfl rfl ?_
  refine g_is3 rfl rfl ?_
  have e1 := c_runUpTo_l (S := S) (d := d) h hi i 1 (Nat.le_refl _) ⟨by omega, by omega⟩
  rw [show (1 : Int) + (p_back s (s i) i : Int) = ((p_run s i : Nat) : Int) by unfold p_run; omega] at e1
  exact e1
theorem c_firstRun_l (h : k_C M c sa f la N cs g s) (hN : 1 ≤ N) : ∀ (n k : Nat), N + 1 ≤ n + k ∧ k ≤ N → z_G S (d + 1) 6 2 [some (.ref c), some (.int (zI (k : Int)))] [] M (some (.int (zI (p_fr s N n k : Int)))) M := by
  obtain ⟨h1, h2, h3, h4, h5⟩ := id h
  intro n
  induction n with
  | zero => intro k hk; omega
  | succ n ih =>
    intro k hk0
    refine g_il rfl rfl ?_
    refine g_al rfl rfl ?_
    refine g_gf rfl h1 rfl rfl ?_
    by_cases hk : k < N
    · refine g_icF rfl (zcF3 ⟨by omega, by omega⟩ ⟨by omega, by omega⟩ (by omega)) ?_
      refine g_al rfl rfl ?_
      refine g_il rfl rfl ?_
      refine g_cv1 rfl rfl h1 rfl (by decide) rfl (c_stepAt h (i := (k : Int)) (by omega) (by omega)) ?_
      refine g_al rfl rfl ?_
      refine g_ic rfl ?_
      refine g_cv1 rfl rfl h1 rfl (by decide) rfl (c_stepAt h (i := 0) (by omega) (by omega)) ?_
      rw [Int.toNat_natCast, show (0 : Int).toNat = 0 from rfl]
      have e1 := (h5 k hk).2
      have e2 := (h5 0 (by omega)).2
      by_cases he : s k = s 0
      · refine g_icF rfl (zcF1 (he)) ?_
        refine g_jj1 rfl rfl ?_
        refine g_goto rfl ?_
        rw [show p_fr s N (n + 1) k = p_fr s N n (k + 1) by conv => lhs; unfold p_fr; rw [if_pos ⟨hk, he⟩]]
        exact ih (k + 1) (by omega)
      · refine g_icT rfl (zcT1 ⟨by omega, by omega⟩ ⟨by omega, by omega⟩ (he)) ?_
        refine g_il rfl rfl ?_
        exact g_reti rfl (by rw [show p_fr s N (n + 1) k = k by conv => lhs; unfold p_fr; rw [if_neg (fun g => he g.2)]]) rfl
    · refine g_icT rfl (zcT3 ⟨by omega, by omega⟩ ⟨by omega, by omega⟩ (by omega)) ?_
      refine g_il rfl rfl ?_
      exact g_reti rfl (by rw [show p_fr s N (n + 1) k = k by conv => lhs; unfold p_fr; rw [if_neg (fun g => hk g.1)]]) rfl
theorem c_firstRun (h : k_C M c sa f la N cs g s) (hN : 1 ≤ N) : z_C S (d + 1) 6 [.ref c] M (some (.int (zI (p_first s N : Int)))) M := by
  obtain ⟨h1, h2, h3, h4, h5⟩ := id h
  refine c_of rfl rfl (Nat.le_of_ble_eq_true rfl) ?_
  refine g_ic rfl ?_
  refine g_is1 rfl rfl ?_
  exact c_firstRun_l h hN N 1 (by omega)
theorem c_longestRun_l (h : k_C M c sa f la N cs g s) : ∀ (n i : Nat), i + n = N → z_G S (d + 2) 7 4 [some (.ref c), some (.int (zI (p_long s i : Int))), some (.int (zI (i : Int)))] [] M (some (.int (zI (p_long s N : Int)))) M := by
  obtain ⟨h1, h2, h3, h4, h5⟩ := id h
  intro n
  induction n with
  | zero =>
    intro i hi
    refine g_il rfl rfl ?_
    refine g_al rfl rfl ?_
    refine g_gf rfl h1 rfl rfl ?_
    refine g_icT rfl (zcT3 ⟨by omega, by omega⟩ ⟨by omega, by omega⟩ (by omega)) ?_
    refine g_il rfl rfl ?_
    exact g_reti rfl (by rw [show i = N by omega]) rfl
  | succ n ih =>
    intro i hi
    refine g_il rfl rfl ?_
    refine g_al rfl rfl ?_
    refine g_gf rfl h1 rfl rfl ?_
    refine g_icF rfl (zcF3 ⟨by omega, by omega⟩ ⟨by omega, by omega⟩ (by omega)) ?_
    refine g_il rfl rfl ?_
    refine g_al rfl rfl ?_
    refine g_il rfl rfl ?_
    refine g_cv1 rfl rfl h1 rfl (by decide) rfl (c_runUpTo h (i := i) (by omega)) ?_
    refine g_max rfl rfl ?_
    refine g_is1 rfl rfl ?_
    refine g_jj2 rfl rfl ?_
    refine g_goto rfl ?_
    have e4 := p_run_le s i
    have e5 := p_long_le s i
    have e3 := ih (i + 1) (by omega)
    rw [show (if zI (p_long s i : Int) < zI (p_run s i : Int) then zI (p_run s i : Int) else zI (p_long s i : Int)) = zI ((p_long s (i + 1) : Nat) : Int) by rw [show p_long s (i + 1) = max (p_long s i) (p_run s i) from rfl]; split <;> rename_i g <;> rw [zI_lt ⟨by omega, by omega⟩ ⟨by omega, by omega⟩] at g <;> congr 1 <;> omega]
    exact e3
theorem c_longestRun (h : k_C M c sa f la N cs g s) : z_C S (d + 2) 7 [.ref c] M (some (.int (zI (p_long s N : Int)))) M := by
  obtain ⟨h1, h2, h3, h4, h5⟩ := id h
  refine c_of rfl rfl (Nat.le_of_ble_eq_true rfl) ?_
  refine g_ic rfl ?_
  refine g_is1 rfl rfl ?_
  refine g_ic rfl ?_
  refine g_is2 rfl rfl ?_
  exact c_longestRun_l h N 0 (by omega)
theorem c_straightAt_l (h : k_C M c sa f la N cs g s) {lim : Nat} (hl : lim ≤ 1000) : ∀ (n i : Nat), i + n = N → z_G S (d + 2) 8 2 [some (.ref c), some (.int (zI (lim : Int))), some (.int (zI (i : Int)))] [] M (some (.int (zI (p_strF s lim N n i)))) M := by
  obtain ⟨h1, h2, h3, h4, h5⟩ := id h
  intro n
  induction n with
  | zero =>
    intro i hi
    refine g_il rfl rfl ?_
    refine g_al rfl rfl ?_
    refine g_gf rfl h1 rfl rfl ?_
    refine g_icT rfl (zcT3 ⟨by omega, by omega⟩ ⟨by omega, by omega⟩ (by omega)) ?_
    refine g_ic rfl ?_
    exact g_reti rfl (rfl) rfl
  | succ n ih =>
    intro i hi
    refine g_il rfl rfl ?_
    refine g_al rfl rfl ?_
    refine g_gf rfl h1 rfl rfl ?_
    refine g_icF rfl (zcF3 ⟨by omega, by omega⟩ ⟨by omega, by omega⟩ (by omega)) ?_
    refine g_al rfl rfl ?_
    refine g_il rfl rfl ?_
    refine g_cv1 rfl rfl h1 rfl (by decide) rfl (c_runUpTo h (i := i) (by omega)) ?_
    refine g_il rfl rfl ?_
    have e4 := p_run_le s i
    by_cases he : lim < p_run s i
    · refine g_icF rfl (zcF5 ⟨by omega, by omega⟩ ⟨by omega, by omega⟩ (by omega)) ?_
      refine g_il rfl rfl ?_
      exact g_reti rfl (by rw [show p_strF s lim N (n + 1) i = (i : Int) by conv => lhs; unfold p_strF; rw [if_pos (by omega), if_pos he]]) rfl
    · refine g_icT rfl (zcT5 ⟨by omega, by omega⟩ ⟨by omega, by omega⟩ (by omega)) ?_
      refine g_jj2 rfl rfl ?_
      refine g_goto rfl ?_
      rw [show p_strF s lim N (n + 1) i = p_strF s lim N n (i + 1) by conv => lhs; unfold p_strF; rw [if_pos (by omega), if_neg he]]
      exact ih (i + 1) (by omega)
theorem c_straightAt (h : k_C M c sa f la N cs g s) {lim : Nat} (hl : lim ≤ 1000) : z_C S (d + 2) 8 [.ref c, .int (zI (lim : Int))] M (some (.int (zI (p_str s lim N)))) M := by
  obtain ⟨h1, h2, h3, h4, h5⟩ := id h
  refine c_of rfl rfl (Nat.le_of_ble_eq_true rfl) ?_
  refine g_ic rfl ?_
  refine g_is2 rfl rfl ?_
  exact c_straightAt_l h hl N 0 (by omega)
end CH
end
section
/-! THE YARD: pure words. W by H cells, hs: the houses' bits -/
/-- the cell that a step leads to, houses or not -/
def p_off (W H c : Nat) (st : Int) : Option Nat :=
  if st = 0 then (if W ≤ c then some (c - W) else none)
  else if st = 1 then (if c % W + 1 < W then some (c + 1) else none)
  else if st = 2 then (if c + W < W * H then some (c + W) else none)
  else if st = 3 then (if 0 < c % W then some (c - 1) else none)
  else none
def p_free (W H : Nat) (hs : Int32) (c : Nat) : Bool := decide (c < W * H) && !bt hs c
/-- the cell that a step leads to, if it has no house -/
def p_to (W H : Nat) (hs : Int32) (c : Nat) (st : Int) : Option Nat := match p_off W H c st with
  | some t => if bt hs t = true then none else some t
  | none => none
def oI (o : Option Nat) (e : Int) : Int := match o with
  | some t => (t : Int)
  | none => e
theorem p_off_lt {W H c t : Nat} {st : Int} (hc : c < W * H) (h : p_off W H c st = some t) : t < W * H := by
  unfold p_off at h
  split at h
  · split at h
    · cases h; omega
    · cases h
  · split at h
    · split at h
      · rename_i g
        cases h
        have hW : 0 < W := by omega
        have e1 := Nat.div_add_mod c W
        have e2 : c / W < H := Nat.div_lt_of_lt_mul hc
        have e3 : W * (c / W) + W ≤ W * H := by
          rw [← Nat.mul_succ]
          exact Nat.mul_le_mul_left W e2
        omega
      · cases h
    · split at h
      · split at h
        · cases h; assumption
        · cases h
      · split at h
        · split at h
          · cases h; omega
          · cases h
        · cases h
theorem z_ifeq {p q : Prop} [Decidable p] [Decidable q] {a b : Int} (h : p ↔ q) : (if p then a else b) = (if q then a else b) := by
  by_cases g : p
  · rw [if_pos g, if_pos (h.mp g)]
  · rw [if_neg g, if_neg (fun x => g (h.mpr x))]
theorem p_WH {W H : Nat} (hW : W ≤ 5) (hH : H ≤ 5) : W * H ≤ 25 := Nat.mul_le_mul hW hH
end
section
/-! Site's methods that read -/
/-- a Site's own cell -/
def k_O (M : ZM) (a W H L : Nat) (hs : Int32) (n : Nat) (lot : Int32) : Prop :=
  M[a]? = some (.inl (2, [.int (zI (W : Int)), .int (zI (H : Int)), .int (zI (L : Int)), .int hs, .int (zI (n : Int)), .int lot, .ref (a + 1)])) ∧ (1 ≤ W ∧ W ≤ 5) ∧ (1 ≤ H ∧ H ≤ 5) ∧ (1 ≤ L ∧ L ≤ 3) ∧ n ≤ 4
abbrev ZCh : Type := Int32 × Int32 × Int32 × Int32 × (Nat → Int32)
/-- a Chain as it lies, at its place in a Site -/
def k_c (M : ZM) (c : Nat) (r : ZCh) : Prop := M[c]? = some (.inl (0, [.int r.1, .int r.2.1, .int r.2.2.1, .int r.2.2.2.1, .ref (c + 1)])) ∧ M[c + 1]? = some (.inr (0, 12, .inl r.2.2.2.2))
/-- a Site's row of chains and the chains -/
def k_R (M : ZM) (a : Nat) (ch : Nat → ZCh) : Prop := (∃ cf : Nat → Option Nat, M[a + 1]? = some (.inr (4, 4, .inr (.inr cf))) ∧ ∀ k, k < 4 → cf k = some (a + 2 + 2 * k)) ∧ ∀ k, k < 4 → k_c M (a + 2 + 2 * k) (ch k)
section SI
variable {S : ZS} {d : Nat} {M : ZM} {a W H L n : Nat} {hs lot : Int32}
theorem k_O.wh (h : k_O M a W H L hs n lot) : W * H ≤ 25 := p_WH h.2.1.2 h.2.2.1.2
theorem c_has (h : k_O M a W H L hs n lot) {c : Int} (hc : z_sm c) : z_C S d 33 [.ref a, .int (zI c)] M (some (.int (zI (if 0 ≤ c ∧ c < ((W * H : Nat) : Int) then 1 else 0)))) M := by
  obtain ⟨h1, ⟨hW1, hW2⟩, ⟨hH1, hH2⟩, ⟨hL1, hL2⟩, hn⟩ := id h
  have hC := h.wh
  have eC : (W : Int) * (H : Int) = ((W * H : Nat) : Int) := (Int.natCast_mul W H).symm
  refine c_of rfl rfl (Nat.le_of_ble_eq_true rfl) ?_
  refine g_il rfl rfl ?_
  by_cases h0 : c < 0
  · refine g_ifT rfl (zcT2 ⟨by omega, by omega⟩ ⟨by omega, by omega⟩ (h0)) ?_
    refine g_ic rfl ?_
    exact g_reti rfl (by rw [if_neg (by omega)]) rfl
  · refine g_ifF rfl (zcF2 ⟨by omega, by omega⟩ ⟨by omega, by omega⟩ (h0)) ?_
    refine g_il rfl rfl ?_
    refine g_al rfl rfl ?_
    refine g_gf rfl h1 rfl rfl ?_
    refine g_al rfl rfl ?_
    refine g_gf rfl h1 rfl rfl ?_
    refine g_mulI rfl ?_
    rw [eC]
    by_cases h9 : c < ((W * H : Nat) : Int)
    · refine g_icF rfl (zcF3 ⟨by omega, by omega⟩ ⟨by omega, by omega⟩ (h9)) ?_
      refine g_ic rfl ?_
      refine g_goto rfl ?_
      exact g_reti rfl (by rw [if_pos (by omega)]) rfl
    · refine g_icT rfl (zcT3 ⟨by omega, by omega⟩ ⟨by omega, by omega⟩ (h9)) ?_
      refine g_ic rfl ?_
      exact g_reti rfl (by rw [if_neg (by omega)]) rfl
theorem c_isFree (h : k_O M a W H L hs n lot) {c : Int} (hc : z_sm c) : z_C S d 35 [.ref a, .int (zI c)] M (some (.int (zI (if 0 ≤ c ∧ c < ((W * H : Nat) : Int) ∧ ¬ bt hs c.toNat = true then 1 else 0)))) M := by
  obtain ⟨h1, ⟨hW1, hW2⟩, ⟨hH1, hH2⟩, ⟨hL1, hL2⟩, hn⟩ := id h
  have hC := h.wh
  have eC : (W : Int) * (H : Int) = ((W * H : Nat) : Int) := (Int.natCast_mul W H).symm
  refine c_of rfl rfl (Nat.le_of_ble_eq_true rfl) ?_
  refine g_il rfl rfl ?_
  by_cases h0 : c < 0
  · refine g_ifT rfl (zcT2 ⟨by omega, by omega⟩ ⟨by omega, by omega⟩ (h0)) ?_
    refine g_ic rfl ?_
    exact g_reti rfl (by rw [if_neg (by omega)]) rfl
  · refine g_ifF rfl (zcF2 ⟨by omega, by omega⟩ ⟨by omega, by omega⟩ (h0)) ?_
    refine g_il rfl rfl ?_
    refine g_al rfl rfl ?_
    refine g_gf rfl h1 rfl rfl ?_
    refine g_al rfl rfl ?_
    refine g_gf rfl h1 rfl rfl ?_
    refine g_mulI rfl ?_
    rw [eC]
    by_cases h9 : c < ((W * H : Nat) : Int)
    · refine g_icF rfl (zcF3 ⟨by omega, by omega⟩ ⟨by omega, by omega⟩ (h9)) ?_
      refine g_al rfl rfl ?_
      refine g_gf rfl h1 rfl rfl ?_
      refine g_il rfl rfl ?_
      refine g_ishr rfl ?_
      refine g_ic rfl ?_
      refine g_iand rfl ?_
      rw [show c = ((c.toNat : Nat) : Int) by omega, z_bit hs (c := c.toNat) (by omega)]
      by_cases hb : bt hs c.toNat = true
      · rw [if_pos hb]
        refine g_ifT rfl (zcT1 ⟨by omega, by omega⟩ ⟨by omega, by omega⟩ (by decide)) ?_
        refine g_ic rfl ?_
        exact g_reti rfl (by rw [if_neg (fun g => g.2.2 hb)]) rfl
      · rw [if_neg hb]
        refine g_ifF rfl (zcF1 (rfl)) ?_
        refine g_ic rfl ?_
        refine g_goto rfl ?_
        exact g_reti rfl (by rw [if_pos ⟨by omega, by omega, hb⟩]) rfl
    · refine g_icT rfl (zcT3 ⟨by omega, by omega⟩ ⟨by omega, by omega⟩ (h9)) ?_
      refine g_ic rfl ?_
      exact g_reti rfl (by rw [if_neg (by omega)]) rfl
theorem c_isHouse (h : k_O M a W H L hs n lot) {c : Int} (hc : z_sm c) : z_C S (d + 1) 34 [.ref a, .int (zI c)] M (some (.int (zI (if 0 ≤ c ∧ c < ((W * H : Nat) : Int) ∧ bt hs c.toNat = true then 1 else 0)))) M := by
  obtain ⟨h1, ⟨hW1, hW2⟩, ⟨hH1, hH2⟩, ⟨hL1, hL2⟩, hn⟩ := id h
  have hC := h.wh
  have eC : (W : Int) * (H : Int) = ((W * H : Nat) : Int) := (Int.natCast_mul W H).symm
  refine c_of rfl rfl (Nat.le_of_ble_eq_true rfl) ?_
  refine g_al rfl rfl ?_
  refine g_il rfl rfl ?_
  refine g_cv1 rfl rfl h1 rfl (by decide) rfl (c_has h hc) ?_
  by_cases h0 : 0 ≤ c ∧ c < ((W * H : Nat) : Int)
  · rw [if_pos h0]
    refine g_ifF rfl (zcF0 ⟨by omega, by omega⟩ ⟨by omega, by omega⟩ (by decide)) ?_
    refine g_al rfl rfl ?_
    refine g_gf rfl h1 rfl rfl ?_
    refine g_il rfl rfl ?_
    refine g_ishr rfl ?_
    refine g_ic rfl ?_
    refine g_iand rfl ?_
    refine g_ic rfl ?_
    rw [show c = ((c.toNat : Nat) : Int) by omega, z_bit hs (c := c.toNat) (by omega)]
    by_cases hb : bt hs c.toNat = true
    · rw [if_pos hb]
      refine g_icF rfl (zcF1 (rfl)) ?_
      refine g_ic rfl ?_
      refine g_goto rfl ?_
      exact g_reti rfl (by rw [if_pos ⟨by omega, by omega, hb⟩]) rfl
    · rw [if_neg hb]
      refine g_icT rfl (zcT1 ⟨by omega, by omega⟩ ⟨by omega, by omega⟩ (by decide)) ?_
      refine g_ic rfl ?_
      exact g_reti rfl (by rw [if_neg (fun g => hb g.2.2)]) rfl
  · rw [if_neg h0]
    refine g_ifT rfl (zcT0 (rfl)) ?_
    refine g_ic rfl ?_
    exact g_reti rfl (by rw [if_neg (fun g => h0 ⟨g.1, g.2.1⟩)]) rfl
theorem c_beside (h : k_O M a W H L hs n lot) {c : Nat} (hc : c < W * H) {st : Int} (hst : 0 ≤ st ∧ st ≤ 3) : z_C S (d + 2) 42 [.ref a, .int (zI (c : Int)), .int (zI st)] M (some (.int (zI (oI (p_to W H hs c st) (-1))))) M := by
  obtain ⟨h1, ⟨hW1, hW2⟩, ⟨hH1, hH2⟩, ⟨hL1, hL2⟩, hn⟩ := id h
  have hC := h.wh
  have eC : (W : Int) * (H : Int) = ((W * H : Nat) : Int) := (Int.natCast_mul W H).symm
  have tail : ∀ (x3 : Int32) (t : Int), z_sm t → z_G S (d + 2) 42 120 [some (.ref a), some (.int (zI (c : Int))), some (.int (zI st)), some (.int x3), some (.int (zI t))] [] M (some (.int (zI (if 0 ≤ t ∧ t < ((W * H : Nat) : Int) ∧ ¬ bt hs t.toNat = true then t else -1)))) M := by
    intro x3 t ht
    refine g_al rfl rfl ?_
    refine g_il rfl rfl ?_
    refine g_cv1 rfl rfl h1 rfl (by decide) rfl (c_isFree h ht) ?_
    by_cases hf : 0 ≤ t ∧ t < ((W * H : Nat) : Int) ∧ ¬ bt hs t.toNat = true
    · rw [if_pos hf]
      refine g_ifF rfl (zcF0 ⟨by omega, by omega⟩ ⟨by omega, by omega⟩ (by decide)) ?_
      refine g_il rfl rfl ?_
      refine g_goto rfl ?_
      exact g_reti rfl (by rw [if_pos hf]) rfl
    · rw [if_neg hf]
      refine g_ifT rfl (zcT0 (rfl)) ?_
      refine g_ic rfl ?_
      exact g_reti rfl (by rw [if_neg hf]) rfl
  have fin : ∀ (o : Option Nat), p_off W H c st = o → ∀ t : Int, (∀ q, o = some q → t = (q : Int) ∧ q < W * H) → (o = none → t < 0 ∨ ((W * H : Nat) : Int) ≤ t) → (if 0 ≤ t ∧ t < ((W * H : Nat) : Int) ∧ ¬ bt hs t.toNat = true then t else -1) = oI (p_to W H hs c st) (-1) := by
    intro o ho t h2 h3
    unfold p_to
    rw [ho]
    cases o with
    | none =>
      rw [if_neg (fun g => by have := h3 rfl; omega)]
      rfl
    | some q =>
      obtain ⟨g1, g2⟩ := h2 q rfl
      subst g1
      dsimp only
      rw [Int.toNat_natCast]
      by_cases hb : bt hs q = true
      · rw [if_neg (fun g => g.2.2 hb), if_pos hb]
        rfl
      · rw [if_pos ⟨by omega, by omega, hb⟩, if_neg hb]
        rfl
  refine c_of rfl rfl (Nat.le_of_ble_eq_true rfl) ?_
  refine g_al rfl rfl ?_
  refine g_il rfl rfl ?_
  refine g_cv1 rfl rfl h1 rfl (by decide) rfl (c_has h (c := (c : Int)) ⟨by omega, by omega⟩) ?_
  rw [if_pos ⟨by omega, by omega⟩]
  refine g_ifF rfl (zcF0 ⟨by omega, by omega⟩ ⟨by omega, by omega⟩ (by decide)) ?_
  refine g_al rfl rfl ?_
  refine g_gf rfl h1 rfl rfl ?_
  refine g_ic rfl ?_
  refine g_icT rfl (zcT3 ⟨by omega, by omega⟩ ⟨by omega, by omega⟩ (by omega)) ?_
  refine g_il rfl rfl ?_
  refine g_al rfl rfl ?_
  refine g_gf rfl h1 rfl rfl ?_
  refine g_remI rfl (⟨by omega, by omega⟩) (⟨by omega, by omega⟩) ?_
  refine g_is3 rfl rfl ?_
  refine g_ic rfl ?_
  refine g_is4 rfl rfl ?_
  refine g_il rfl rfl ?_
  have e1 := Nat.div_add_mod c W
  have e2 := Nat.mod_lt c (show 0 < W by omega)
  have e3 : (c : Int) % (W : Int) = ((c % W : Nat) : Int) := (Int.natCast_emod c W).symm
  rw [e3]
  rcases (show st = 0 ∨ st = 1 ∨ st = 2 ∨ st = 3 by omega) with hk | hk | hk | hk
  · subst hk
    refine g_tsI rfl (by rw [zI_toInt ⟨by omega, by omega⟩]; omega) (v := 60) (by rw [zI_toInt ⟨by omega, by omega⟩]; rfl) ?_
    refine g_il rfl rfl ?_
    refine g_al rfl rfl ?_
    refine g_gf rfl h1 rfl rfl ?_
    refine g_subI rfl ?_
    refine g_is4 rfl rfl ?_
    refine g_goto rfl ?_
    have e9 := tail (zI ((c % W : Nat) : Int)) ((c : Int) - (W : Int)) ⟨by omega, by omega⟩
    rw [fin (p_off W H c 0) rfl ((c : Int) - (W : Int)) (fun q g => by unfold p_off at g; rw [if_pos rfl] at g; split at g <;> cases g; omega) (fun g => by unfold p_off at g; rw [if_pos rfl] at g; split at g <;> first | (cases g; done) | omega)] at e9
    exact e9
  · subst hk
    refine g_tsI rfl (by rw [zI_toInt ⟨by omega, by omega⟩]; omega) (v := 71) (by rw [zI_toInt ⟨by omega, by omega⟩]; rfl) ?_
    refine g_il rfl rfl ?_
    refine g_ic rfl ?_
    refine g_addI rfl ?_
    refine g_al rfl rfl ?_
    refine g_gf rfl h1 rfl rfl ?_
    by_cases hm : c % W + 1 < W
    · refine g_icF rfl (zcF3 ⟨by omega, by omega⟩ ⟨by omega, by omega⟩ (by omega)) ?_
      refine g_il rfl rfl ?_
      refine g_ic rfl ?_
      refine g_addI rfl ?_
      refine g_goto rfl ?_
      refine g_is4 rfl rfl ?_
      refine g_goto rfl ?_
      have e9 := tail (zI ((c % W : Nat) : Int)) ((c : Int) + 1) ⟨by omega, by omega⟩
      rw [fin (p_off W H c 1) rfl ((c : Int) + 1) (fun q g => by have gl := p_off_lt hc g; unfold p_off at g; rw [if_neg (by decide), if_pos rfl, if_pos hm] at g; cases g; omega) (fun g => by unfold p_off at g; rw [if_neg (by decide), if_pos rfl, if_pos hm] at g; cases g)] at e9
      exact e9
    · refine g_icT rfl (zcT3 ⟨by omega, by omega⟩ ⟨by omega, by omega⟩ (by omega)) ?_
      refine g_ic rfl ?_
      refine g_is4 rfl rfl ?_
      refine g_goto rfl ?_
      have e9 := tail (zI ((c % W : Nat) : Int)) (-1) ⟨by omega, by omega⟩
      rw [fin (p_off W H c 1) rfl (-1) (fun q g => by unfold p_off at g; rw [if_neg (by decide), if_pos rfl, if_neg hm] at g; cases g) (fun g => by omega)] at e9
      exact e9
  · subst hk
    refine g_tsI rfl (by rw [zI_toInt ⟨by omega, by omega⟩]; omega) (v := 93) (by rw [zI_toInt ⟨by omega, by omega⟩]; rfl) ?_
    refine g_il rfl rfl ?_
    refine g_al rfl rfl ?_
    refine g_gf rfl h1 rfl rfl ?_
    refine g_addI rfl ?_
    refine g_is4 rfl rfl ?_
    refine g_goto rfl ?_
    have e9 := tail (zI ((c % W : Nat) : Int)) ((c : Int) + (W : Int)) ⟨by omega, by omega⟩
    rw [fin (p_off W H c 2) rfl ((c : Int) + (W : Int)) (fun q g => by unfold p_off at g; rw [if_neg (by decide), if_neg (by decide), if_pos rfl] at g; split at g <;> cases g; omega) (fun g => by unfold p_off at g; rw [if_neg (by decide), if_neg (by decide), if_pos rfl] at g; split at g <;> first | (cases g; done) | omega)] at e9
    exact e9
  · subst hk
    refine g_tsI rfl (by rw [zI_toInt ⟨by omega, by omega⟩]; omega) (v := 104) (by rw [zI_toInt ⟨by omega, by omega⟩]; rfl) ?_
    refine g_il rfl rfl ?_
    by_cases hm : 0 < c % W
    · refine g_ifF rfl (zcF5 ⟨by omega, by omega⟩ ⟨by omega, by omega⟩ (by omega)) ?_
      refine g_il rfl rfl ?_
      refine g_ic rfl ?_
      refine g_subI rfl ?_
      refine g_goto rfl ?_
      refine g_is4 rfl rfl ?_
      refine g_goto rfl ?_
      have e9 := tail (zI ((c % W : Nat) : Int)) ((c : Int) - 1) ⟨by omega, by omega⟩
      rw [fin (p_off W H c 3) rfl ((c : Int) - 1) (fun q g => by unfold p_off at g; rw [if_neg (by decide), if_neg (by decide), if_neg (by decide), if_pos rfl, if_pos hm] at g; cases g; omega) (fun g => by unfold p_off at g; rw [if_neg (by decide), if_neg (by decide), if_neg (by decide), if_pos rfl, if_pos hm] at g; cases g)] at e9
      exact e9
    · refine g_ifT rfl (zcT5 ⟨by omega, by omega⟩ ⟨by omega, by omega⟩ (by omega)) ?_
      refine g_ic rfl ?_
      refine g_is4 rfl rfl ?_
      refine g_goto rfl ?_
      have e9 := tail (zI ((c % W : Nat) : Int)) (-1) ⟨by omega, by omega⟩
      rw [fin (p_off W H c 3) rfl (-1) (fun q g => by unfold p_off at g; rw [if_neg (by decide), if_neg (by decide), if_neg (by decide), if_pos rfl, if_neg hm] at g; cases g) (fun g => by omega)] at e9
      exact e9
end SI
end
section
/-! joints; a Site's chains -/
/-- a joint: the second begins where the first ends, and the runs that meet are too long together -/
def p_join (la : Int) (s : Nat → Int) (N : Nat) (f2 : Int) (s2 : Nat → Int) (N2 lim : Nat) : Bool := decide (la = f2) && (decide (s (N - 1) = s2 0) && decide (lim < p_run s (N - 1) + p_first s2 N2))
def p_trod (cs : Nat → Int32) : Nat → Int32
  | 0 => zI 0
  | k + 1 => p_trod cs k ||| cs k
/-- where a chain is behind its n-th step -/
def p_pos (W H : Nat) (hs : Int32) (f : Nat) (s : Nat → Int) : Nat → Option Nat
  | 0 => some f
  | n + 1 => match p_pos W H hs f s n with
    | some c => p_to W H hs c (s n)
    | none => none
/-- the cells that it has come to -/
def p_msk (W H : Nat) (hs : Int32) (f : Nat) (s : Nat → Int) : Nat → Int32
  | 0 => zI 1 <<< (zI (f : Int) &&& 31)
  | n + 1 => p_msk W H hs f s n ||| (zI 1 <<< (zI (oI (p_pos W H hs f s (n + 1)) 0) &&& 31))
theorem p_to_lt {W H c t : Nat} {hs : Int32} {st : Int} (hc : c < W * H) (h : p_to W H hs c st = some t) : t < W * H := by
  unfold p_to at h
  split at h
  · rename_i q hq
    split at h
    · cases h
    · cases h
      exact p_off_lt hc hq
  · cases h
theorem p_pos_lt {W H f : Nat} {hs : Int32} {s : Nat → Int} (hf : f < W * H) : ∀ (n c : Nat), p_pos W H hs f s n = some c → c < W * H := by
  intro n
  induction n with
  | zero => intro c h; cases h; exact hf
  | succ n ih =>
    intro c h
    unfold p_pos at h
    split at h
    · rename_i q hq
      exact p_to_lt (ih q hq) h
    · cases h
theorem p_pos_none {W H f : Nat} {hs : Int32} {s : Nat → Int} {n : Nat} (h : p_pos W H hs f s n = none) : ∀ k, p_pos W H hs f s (n + k) = none := by
  intro k
  induction k with
  | zero => exact h
  | succ k ih =>
    show (match p_pos W H hs f s (n + k) with | some c => p_to W H hs c (s (n + k)) | none => none) = none
    rw [ih]
section JN
variable {S : ZS} {d : Nat} {M : ZM} {c sa c2 sa2 : Nat} {f la f2 la2 : Int} {N N2 : Nat} {cs cs2 : Int32} {g g2 : Nat → Int32} {s s2 : Nat → Int}
theorem c_joins (h : k_C M c sa f la N cs g s) (k : k_C M c2 sa2 f2 la2 N2 cs2 g2 s2) (hN : 1 ≤ N) (hN2 : 1 ≤ N2) (hla : z_sm la) (hf2 : z_sm f2) {lim : Nat} (hlim : lim ≤ 1000) : z_C S (d + 2) 9 [.ref c, .ref c2, .int (zI (lim : Int))] M (some (.int (zI (if p_join la s N f2 s2 N2 lim = true then 1 else 0)))) M := by
  obtain ⟨h1, h2, h3, h4, h5⟩ := id h
  obtain ⟨k1, k2, k3, k4, k5⟩ := id k
  refine c_of rfl rfl (Nat.le_of_ble_eq_true rfl) ?_
  refine g_al rfl rfl ?_
  refine g_gf rfl h1 rfl rfl ?_
  refine g_al rfl rfl ?_
  refine g_gf rfl k1 rfl rfl ?_
  by_cases hl : la = f2
  · refine g_icF rfl (zcF1 (hl)) ?_
    refine g_al rfl rfl ?_
    refine g_al rfl rfl ?_
    refine g_gf rfl h1 rfl rfl ?_
    refine g_ic rfl ?_
    refine g_subI rfl ?_
    refine g_cv1 rfl rfl h1 rfl (by decide) rfl (c_stepAt h (by omega) (by omega)) ?_
    refine g_al rfl rfl ?_
    refine g_ic rfl ?_
    refine g_cv1 rfl rfl k1 rfl (by decide) rfl (c_stepAt k (i := 0) (by omega) (by omega)) ?_
    rw [show ((N : Int) - 1).toNat = N - 1 by omega, show (0 : Int).toNat = 0 from rfl]
    have e1 := (h5 (N - 1) (by omega)).2
    have e2 := (k5 0 (by omega)).2
    by_cases hs : s (N - 1) = s2 0
    · refine g_icF rfl (zcF1 (hs)) ?_
      refine g_al rfl rfl ?_
      refine g_al rfl rfl ?_
      refine g_gf rfl h1 rfl rfl ?_
      refine g_ic rfl ?_
      refine g_subI rfl ?_
      rw [show (N : Int) - 1 = ((N - 1 : Nat) : Int) by omega]
      refine g_cv1 rfl rfl h1 rfl (by decide) rfl (c_runUpTo h (i := N - 1) (by omega)) ?_
      refine g_al rfl rfl ?_
      refine g_cv0 rfl rfl k1 rfl (by decide) rfl (c_firstRun k hN2) ?_
      refine g_addI rfl ?_
      refine g_il rfl rfl ?_
      have e3 := p_run_le s (N - 1)
      have e4 := p_fr_le s2 N2 N2 1
      have e5 : p_first s2 N2 ≤ 12 := by unfold p_first; omega
      by_cases hr : lim < p_run s (N - 1) + p_first s2 N2
      · refine g_icF rfl (zcF5 ⟨by omega, by omega⟩ ⟨by omega, by omega⟩ (by omega)) ?_
        refine g_ic rfl ?_
        refine g_goto rfl ?_
        exact g_reti rfl (by unfold p_join; rw [decide_eq_true hl, decide_eq_true hs, decide_eq_true hr]; rfl) rfl
      · refine g_icT rfl (zcT5 ⟨by omega, by omega⟩ ⟨by omega, by omega⟩ (by omega)) ?_
        refine g_ic rfl ?_
        exact g_reti rfl (by unfold p_join; rw [decide_eq_true hl, decide_eq_true hs, decide_eq_false hr]; rfl) rfl
    · refine g_icT rfl (zcT1 ⟨by omega, by omega⟩ ⟨by omega, by omega⟩ (hs)) ?_
      refine g_ic rfl ?_
      exact g_reti rfl (by unfold p_join; rw [decide_eq_true hl, decide_eq_false hs]; rfl) rfl
  · refine g_icT rfl (zcT1 ⟨by omega, by omega⟩ ⟨by omega, by omega⟩ (hl)) ?_
    refine g_ic rfl ?_
    exact g_reti rfl (by unfold p_join; rw [decide_eq_false hl]; rfl) rfl
end JN
section SC
variable {S : ZS} {d : Nat} {M : ZM} {a W H L n : Nat} {hs lot : Int32} {ch : Nat → ZCh}
theorem c_trodden_l (h : k_O M a W H L hs n lot) (hR : k_R M a ch) : ∀ (m i : Nat), i + m = n → z_G S d 38 4 [some (.ref a), some (.int (p_trod (fun k => (ch k).2.2.2.1) i)), some (.int (zI (i : Int)))] [] M (some (.int (p_trod (fun k => (ch k).2.2.2.1) n))) M := by
  obtain ⟨h1, ⟨hW1, hW2⟩, ⟨hH1, hH2⟩, ⟨hL1, hL2⟩, hn⟩ := id h
  have hC := h.wh
  have eC : (W : Int) * (H : Int) = ((W * H : Nat) : Int) := (Int.natCast_mul W H).symm
  obtain ⟨⟨cf, r1, r2⟩, r3⟩ := id hR
  intro m
  induction m with
  | zero =>
    intro i hi
    refine g_il rfl rfl ?_
    refine g_al rfl rfl ?_
    refine g_gf rfl h1 rfl rfl ?_
    refine g_icT rfl (zcT3 ⟨by omega, by omega⟩ ⟨by omega, by omega⟩ (by omega)) ?_
    refine g_il rfl rfl ?_
    exact g_reti rfl (by rw [show i = n by omega]) rfl
  | succ m ih =>
    intro i hi
    refine g_il rfl rfl ?_
    refine g_al rfl rfl ?_
    refine g_gf rfl h1 rfl rfl ?_
    refine g_icF rfl (zcF3 ⟨by omega, by omega⟩ ⟨by omega, by omega⟩ (by omega)) ?_
    refine g_il rfl rfl ?_
    refine g_ic rfl ?_
    refine g_icF rfl (zcF3 ⟨by omega, by omega⟩ ⟨by omega, by omega⟩ (by omega)) ?_
    refine g_il rfl rfl ?_
    refine g_al rfl rfl ?_
    refine g_gf rfl h1 rfl rfl ?_
    refine g_il rfl rfl ?_
    refine g_aaI4 rfl r1 (by omega) (by omega) (by omega) (by rw [Int.toNat_natCast, r2 i (by omega)]) ?_
    refine g_gf rfl (r3 i (by omega)).1 rfl rfl ?_
    refine g_ior rfl ?_
    refine g_is1 rfl rfl ?_
    refine g_jj2 rfl rfl ?_
    refine g_goto rfl ?_
    exact ih (i + 1) (by omega)
theorem c_trodden (h : k_O M a W H L hs n lot) (hR : k_R M a ch) : z_C S d 38 [.ref a] M (some (.int (p_trod (fun k => (ch k).2.2.2.1) n))) M := by
  obtain ⟨h1, ⟨hW1, hW2⟩, ⟨hH1, hH2⟩, ⟨hL1, hL2⟩, hn⟩ := id h
  have hC := h.wh
  have eC : (W : Int) * (H : Int) = ((W * H : Nat) : Int) := (Int.natCast_mul W H).symm
  obtain ⟨⟨cf, r1, r2⟩, r3⟩ := id hR
  refine c_of rfl rfl (Nat.le_of_ble_eq_true rfl) ?_
  refine g_ic rfl ?_
  refine g_is1 rfl rfl ?_
  refine g_ic rfl ?_
  refine g_is2 rfl rfl ?_
  exact c_trodden_l h hR n 0 (by omega)
theorem c_isTrodden (h : k_O M a W H L hs n lot) (hR : k_R M a ch) {c : Int} (hc : z_sm c) : z_C S (d + 1) 36 [.ref a, .int (zI c)] M (some (.int (zI (if 0 ≤ c ∧ c < ((W * H : Nat) : Int) ∧ bt (p_trod (fun k => (ch k).2.2.2.1) n) c.toNat = true then 1 else 0)))) M := by
  obtain ⟨h1, ⟨hW1, hW2⟩, ⟨hH1, hH2⟩, ⟨hL1, hL2⟩, hn⟩ := id h
  have hC := h.wh
  have eC : (W : Int) * (H : Int) = ((W * H : Nat) : Int) := (Int.natCast_mul W H).symm
  obtain ⟨⟨cf, r1, r2⟩, r3⟩ := id hR
  refine c_of rfl rfl (Nat.le_of_ble_eq_true rfl) ?_
  refine g_al rfl rfl ?_
  refine g_il rfl rfl ?_
  refine g_cv1 rfl rfl h1 rfl (by decide) rfl (c_has h hc) ?_
  by_cases h0 : 0 ≤ c ∧ c < ((W * H : Nat) : Int)
  · rw [if_pos h0]
    refine g_ifF rfl (zcF0 ⟨by omega, by omega⟩ ⟨by omega, by omega⟩ (by decide)) ?_
    refine g_al rfl rfl ?_
    refine g_cv0 rfl rfl h1 rfl (by decide) rfl (c_trodden h hR) ?_
    refine g_il rfl rfl ?_
    refine g_ishr rfl ?_
    refine g_ic rfl ?_
    refine g_iand rfl ?_
    refine g_ic rfl ?_
    rw [show c = ((c.toNat : Nat) : Int) by omega, z_bit _ (c := c.toNat) (by omega)]
    by_cases hb : bt (p_trod (fun k => (ch k).2.2.2.1) n) c.toNat = true
    · rw [if_pos hb]
      refine g_icF rfl (zcF1 (rfl)) ?_
      refine g_ic rfl ?_
      refine g_goto rfl ?_
      exact g_reti rfl (by rw [if_pos ⟨by omega, by omega, hb⟩]) rfl
    · rw [if_neg hb]
      refine g_icT rfl (zcT1 ⟨by omega, by omega⟩ ⟨by omega, by omega⟩ (by decide)) ?_
      refine g_ic rfl ?_
      exact g_reti rfl (by rw [if_neg (fun g => hb g.2.2)]) rfl
  · rw [if_neg h0]
    refine g_ifT rfl (zcT0 (rfl)) ?_
    refine g_ic rfl ?_
    exact g_reti rfl (by rw [if_neg (fun g => h0 ⟨g.1, g.2.1⟩)]) rfl
theorem c_isOpen (h : k_O M a W H L hs n lot) (hR : k_R M a ch) {c : Int} (hc : z_sm c) : z_C S (d + 2) 37 [.ref a, .int (zI c)] M (some (.int (zI (if 0 ≤ c ∧ c < ((W * H : Nat) : Int) ∧ ¬ bt hs c.toNat = true ∧ ¬ bt (p_trod (fun k => (ch k).2.2.2.1) n) c.toNat = true then 1 else 0)))) M := by
  obtain ⟨h1, ⟨hW1, hW2⟩, ⟨hH1, hH2⟩, ⟨hL1, hL2⟩, hn⟩ := id h
  have hC := h.wh
  have eC : (W : Int) * (H : Int) = ((W * H : Nat) : Int) := (Int.natCast_mul W H).symm
  obtain ⟨⟨cf, r1, r2⟩, r3⟩ := id hR
  refine c_of rfl rfl (Nat.le_of_ble_eq_true rfl) ?_
  refine g_al rfl rfl ?_
  refine g_il rfl rfl ?_
  refine g_cv1 rfl rfl h1 rfl (by decide) rfl (c_isFree h hc) ?_
  by_cases h0 : 0 ≤ c ∧ c < ((W * H : Nat) : Int) ∧ ¬ bt hs c.toNat = true
  · rw [if_pos h0]
    refine g_ifF rfl (zcF0 ⟨by omega, by omega⟩ ⟨by omega, by omega⟩ (by decide)) ?_
    refine g_al rfl rfl ?_
    refine g_il rfl rfl ?_
    refine g_cv1 rfl rfl h1 rfl (by decide) rfl (c_isTrodden h hR hc) ?_
    by_cases h2 : 0 ≤ c ∧ c < ((W * H : Nat) : Int) ∧ bt (p_trod (fun k => (ch k).2.2.2.1) n) c.toNat = true
    · rw [if_pos h2]
      refine g_ifT rfl (zcT1 ⟨by omega, by omega⟩ ⟨by omega, by omega⟩ (by decide)) ?_
      refine g_ic rfl ?_
      exact g_reti rfl (by rw [if_neg (fun g => g.2.2.2 h2.2.2)]) rfl
    · rw [if_neg h2]
      refine g_ifF rfl (zcF1 (rfl)) ?_
      refine g_ic rfl ?_
      refine g_goto rfl ?_
      exact g_reti rfl (by rw [if_pos ⟨h0.1, h0.2.1, h0.2.2, fun g => h2 ⟨h0.1, h0.2.1, g⟩⟩]) rfl
  · rw [if_neg h0]
    refine g_ifT rfl (zcT0 (rfl)) ?_
    refine g_ic rfl ?_
    exact g_reti rfl (by rw [if_neg (fun g => h0 ⟨g.1, g.2.1, g.2.2.1⟩)]) rfl
/-- the open cells -/
def p_open (W H : Nat) (hs t : Int32) : Int32 := ((zI 1 <<< (zI ((W * H : Nat) : Int) &&& 31)) - zI 1) &&& (hs ^^^ zI (-1)) &&& (t ^^^ zI (-1))
theorem c_openCells (h : k_O M a W H L hs n lot) (hR : k_R M a ch) : z_C S (d + 1) 39 [.ref a] M (some (.int (p_open W H hs (p_trod (fun k => (ch k).2.2.2.1) n)))) M := by
  obtain ⟨h1, ⟨hW1, hW2⟩, ⟨hH1, hH2⟩, ⟨hL1, hL2⟩, hn⟩ := id h
  have hC := h.wh
  have eC : (W : Int) * (H : Int) = ((W * H : Nat) : Int) := (Int.natCast_mul W H).symm
  obtain ⟨⟨cf, r1, r2⟩, r3⟩ := id hR
  refine c_of rfl rfl (Nat.le_of_ble_eq_true rfl) ?_
  refine g_ic rfl ?_
  refine g_al rfl rfl ?_
  refine g_gf rfl h1 rfl rfl ?_
  refine g_al rfl rfl ?_
  refine g_gf rfl h1 rfl rfl ?_
  refine g_mulI rfl ?_
  refine g_ishl rfl ?_
  refine g_ic rfl ?_
  refine g_isub rfl ?_
  refine g_al rfl rfl ?_
  refine g_gf rfl h1 rfl rfl ?_
  refine g_ic rfl ?_
  refine g_ixor rfl ?_
  refine g_iand rfl ?_
  refine g_al rfl rfl ?_
  refine g_cv0 rfl rfl h1 rfl (by decide) rfl (c_trodden h hR) ?_
  refine g_ic rfl ?_
  refine g_ixor rfl ?_
  refine g_iand rfl ?_
  rw [eC]
  exact g_reti rfl (rfl) rfl
theorem c_chainAt (h : k_O M a W H L hs n lot) (hR : k_R M a ch) {k : Int} (h0 : 0 ≤ k) (hk : k < n) : z_C S d 41 [.ref a, .int (zI k)] M (some (.ref (a + 2 + 2 * k.toNat))) M := by
  obtain ⟨h1, ⟨hW1, hW2⟩, ⟨hH1, hH2⟩, ⟨hL1, hL2⟩, hn⟩ := id h
  have hC := h.wh
  have eC : (W : Int) * (H : Int) = ((W * H : Nat) : Int) := (Int.natCast_mul W H).symm
  obtain ⟨⟨cf, r1, r2⟩, r3⟩ := id hR
  refine c_of rfl rfl (Nat.le_of_ble_eq_true rfl) ?_
  refine g_il rfl rfl ?_
  refine g_ifF rfl (zcF2 ⟨by omega, by omega⟩ ⟨by omega, by omega⟩ (by omega)) ?_
  refine g_il rfl rfl ?_
  refine g_al rfl rfl ?_
  refine g_gf rfl h1 rfl rfl ?_
  refine g_icF rfl (zcF3 ⟨by omega, by omega⟩ ⟨by omega, by omega⟩ (by omega)) ?_
  refine g_il rfl rfl ?_
  refine g_ic rfl ?_
  refine g_icF rfl (zcF3 ⟨by omega, by omega⟩ ⟨by omega, by omega⟩ (by omega)) ?_
  refine g_al rfl rfl ?_
  refine g_gf rfl h1 rfl rfl ?_
  refine g_il rfl rfl ?_
  refine g_aaI4 rfl r1 (by omega) (by omega) (by omega) (by rw [r2 k.toNat (by omega)]) ?_
  refine g_goto rfl ?_
  exact g_reta rfl (rfl) rfl
theorem c_chainAtN (h : k_O M a W H L hs n lot) (hR : k_R M a ch) {k : Int} (hk : z_sm k) (h9 : k < 0 ∨ (n : Int) ≤ k) : z_C S d 41 [.ref a, .int (zI k)] M (some .null) M := by
  obtain ⟨h1, ⟨hW1, hW2⟩, ⟨hH1, hH2⟩, ⟨hL1, hL2⟩, hn⟩ := id h
  have hC := h.wh
  have eC : (W : Int) * (H : Int) = ((W * H : Nat) : Int) := (Int.natCast_mul W H).symm
  obtain ⟨⟨cf, r1, r2⟩, r3⟩ := id hR
  refine c_of rfl rfl (Nat.le_of_ble_eq_true rfl) ?_
  refine g_il rfl rfl ?_
  by_cases h0 : k < 0
  · refine g_ifT rfl (zcT2 ⟨by omega, by omega⟩ ⟨by omega, by omega⟩ (h0)) ?_
    refine g_null rfl ?_
    exact g_retn rfl (rfl) rfl
  · refine g_ifF rfl (zcF2 ⟨by omega, by omega⟩ ⟨by omega, by omega⟩ (h0)) ?_
    refine g_il rfl rfl ?_
    refine g_al rfl rfl ?_
    refine g_gf rfl h1 rfl rfl ?_
    refine g_icT rfl (zcT3 ⟨by omega, by omega⟩ ⟨by omega, by omega⟩ (by omega)) ?_
    refine g_null rfl ?_
    exact g_retn rfl (rfl) rfl
end SC
section WO
variable {S : ZS} {d : Nat} {M : ZM} {a W H L n : Nat} {hs lot : Int32} {c sa : Nat} {la : Int} {N : Nat} {cs : Int32} {g : Nat → Int32} {s : Nat → Int}
/-- what walkOver leaves: the chain's last cell and its cells, if it can be gone -/
def w_walk (M : ZM) (W H : Nat) (hs : Int32) (c sa f N : Nat) (s : Nat → Int) : ZM := match p_pos W H hs f s N with
  | some q => M.set c (.inl (0, [.int (zI (f : Int)), .int (zI (q : Int)), .int (zI (N : Int)), .int (p_msk W H hs f s N), .ref sa]))
  | none => M
theorem c_walkOver_l (h : k_O M a W H L hs n lot) {f : Nat} (k : k_C M c sa (f : Int) la N cs g s) : ∀ (m i q : Nat), i + m = N → p_pos W H hs f s i = some q → q < W * H → z_G S (d + 3) 43 25 [some (.ref a), some (.ref c), some (.int (zI (q : Int))), some (.int (p_msk W H hs f s i)), some (.int (zI (i : Int)))] [] M (some (.int (zI (if (p_pos W H hs f s N).isSome = true then 1 else 0)))) (w_walk M W H hs c sa f N s) := by
  obtain ⟨h1, ⟨hW1, hW2⟩, ⟨hH1, hH2⟩, ⟨hL1, hL2⟩, hn⟩ := id h
  have hC := h.wh
  have eC : (W : Int) * (H : Int) = ((W * H : Nat) : Int) := (Int.natCast_mul W H).symm
  obtain ⟨k1, k2, k3, k4, k5⟩ := id k
  intro m
  induction m with
  | zero =>
    intro i q hi hq hqc
    refine g_il rfl rfl ?_
    refine g_al rfl rfl ?_
    refine g_gf rfl k1 rfl rfl ?_
    refine g_icT rfl (zcT3 ⟨by omega, by omega⟩ ⟨by omega, by omega⟩ (by omega)) ?_
    refine g_al rfl rfl ?_
    refine g_il rfl rfl ?_
    refine g_pf1 rfl k1 rfl rfl rfl (Or.inl rfl) ?_
    refine g_al rfl rfl ?_
    refine g_il rfl rfl ?_
    refine g_pf3 rfl (z_gs k1) rfl rfl rfl (Or.inl rfl) ?_
    refine g_ic rfl ?_
    rw [List.set_set]
    have hi : i = N := by omega
    subst hi
    unfold w_walk
    rw [hq]
    exact g_reti rfl (rfl) rfl
  | succ m ih =>
    intro i q hi hq hqc
    refine g_il rfl rfl ?_
    refine g_al rfl rfl ?_
    refine g_gf rfl k1 rfl rfl ?_
    refine g_icF rfl (zcF3 ⟨by omega, by omega⟩ ⟨by omega, by omega⟩ (by omega)) ?_
    refine g_al rfl rfl ?_
    refine g_il rfl rfl ?_
    refine g_al rfl rfl ?_
    refine g_il rfl rfl ?_
    refine g_cv1 rfl rfl k1 rfl (by decide) rfl (c_stepAt k (i := (i : Int)) (by omega) (by omega)) ?_
    rw [Int.toNat_natCast]
    refine g_cv2 rfl rfl h1 rfl (by decide) rfl (c_beside h hqc ⟨(k5 i (by omega)).2.1, (k5 i (by omega)).2.2⟩) ?_
    refine g_is2 rfl rfl ?_
    refine g_il rfl rfl ?_
    refine g_ic rfl ?_
    have ep : p_pos W H hs f s (i + 1) = p_to W H hs q (s i) := by
      show (match p_pos W H hs f s i with | some c => p_to W H hs c (s i) | none => none) = _
      rw [hq]
    cases hp : p_to W H hs q (s i) with
    | none =>
      have e7 : p_pos W H hs f s N = none := by
        have := p_pos_none (ep.trans hp) (N - (i + 1))
        rw [show i + 1 + (N - (i + 1)) = N by omega] at this
        exact this
      show z_G S (d + 3) 43 48 _ [.int (zI (-1)), .int (zI (-1))] _ _ _
      refine g_icF rfl (zcF1 (rfl)) ?_
      refine g_ic rfl ?_
      unfold w_walk
      rw [e7]
      exact g_reti rfl (by rfl) rfl
    | some t =>
      have hql := p_to_lt hqc hp
      show z_G S (d + 3) 43 48 _ [.int (zI (-1)), .int (zI (t : Int))] _ _ _
      refine g_icT rfl (zcT1 ⟨by omega, by omega⟩ ⟨by omega, by omega⟩ (by omega)) ?_
      refine g_il rfl rfl ?_
      refine g_ic rfl ?_
      refine g_il rfl rfl ?_
      refine g_ishl rfl ?_
      refine g_ior rfl ?_
      refine g_is3 rfl rfl ?_
      refine g_jj4 rfl rfl ?_
      refine g_goto rfl ?_
      have e8 := ih (i + 1) t (by omega) (ep.trans hp) hql
      rw [show p_msk W H hs f s (i + 1) = p_msk W H hs f s i ||| (zI 1 <<< (zI (t : Int) &&& 31)) by show p_msk W H hs f s i ||| (zI 1 <<< (zI (oI (p_pos W H hs f s (i + 1)) 0) &&& 31)) = _; rw [ep, hp]; rfl] at e8
      exact e8
theorem c_walkOver (h : k_O M a W H L hs n lot) {f : Nat} (hf : f < W * H) (hb : ¬ bt hs f = true) (k : k_C M c sa (f : Int) la N cs g s) : z_C S (d + 3) 43 [.ref a, .ref c] M (some (.int (zI (if (p_pos W H hs f s N).isSome = true then 1 else 0)))) (w_walk M W H hs c sa f N s) := by
  obtain ⟨h1, ⟨hW1, hW2⟩, ⟨hH1, hH2⟩, ⟨hL1, hL2⟩, hn⟩ := id h
  have hC := h.wh
  have eC : (W : Int) * (H : Int) = ((W * H : Nat) : Int) := (Int.natCast_mul W H).symm
  obtain ⟨k1, k2, k3, k4, k5⟩ := id k
  refine c_of rfl rfl (Nat.le_of_ble_eq_true rfl) ?_
  refine g_al rfl rfl ?_
  refine g_al rfl rfl ?_
  refine g_gf rfl k1 rfl rfl ?_
  refine g_cv1 rfl rfl h1 rfl (by decide) rfl (c_isFree h (c := (f : Int)) ⟨by omega, by omega⟩) ?_
  rw [if_pos ⟨by omega, by omega, by rw [Int.toNat_natCast]; exact hb⟩]
  refine g_ifT rfl (zcT1 ⟨by omega, by omega⟩ ⟨by omega, by omega⟩ (by decide)) ?_
  refine g_al rfl rfl ?_
  refine g_gf rfl k1 rfl rfl ?_
  refine g_is2 rfl rfl ?_
  refine g_ic rfl ?_
  refine g_il rfl rfl ?_
  refine g_ishl rfl ?_
  refine g_is3 rfl rfl ?_
  refine g_ic rfl ?_
  refine g_is4 rfl rfl ?_
  exact c_walkOver_l h k N 0 f (by omega) rfl hf
end WO
end
section
/-! CHAINS AND SITES AS VALUES -/
/-- a chain: its first cell, how many steps, the steps -/
abbrev ZK : Type := Nat × Nat × (Nat → Int)
/-- where it is behind its n-th step, houses or not -/
def q_pos (W H f : Nat) (s : Nat → Int) : Nat → Option Nat
  | 0 => some f
  | n + 1 => match q_pos W H f s n with
    | some c => p_off W H c (s n)
    | none => none
def q_msk (W H f : Nat) (s : Nat → Int) : Nat → Int32
  | 0 => zI 1 <<< (zI (f : Int) &&& 31)
  | n + 1 => q_msk W H f s n ||| (zI 1 <<< (zI (oI (q_pos W H f s (n + 1)) 0) &&& 31))
/-- a chain lies in the yard, on cells without houses -/
def p_ok (W H : Nat) (hs : Int32) (k : ZK) : Prop := k.1 < W * H ∧ (1 ≤ k.2.1 ∧ k.2.1 ≤ 12) ∧ (∀ j, j < k.2.1 → 0 ≤ k.2.2 j ∧ k.2.2 j ≤ 3) ∧ ∀ i, i ≤ k.2.1 → ∃ c, q_pos W H k.1 k.2.2 i = some c ∧ ¬ bt hs c = true
/-- its last cell -/
def k_last (W H : Nat) (k : ZK) : Nat := (q_pos W H k.1 k.2.2 k.2.1).getD 0
theorem q_of_p {W H f : Nat} {hs : Int32} {s : Nat → Int} : ∀ (n c : Nat), p_pos W H hs f s n = some c → q_pos W H f s n = some c ∧ p_msk W H hs f s n = q_msk W H f s n ∧ ∀ i, 1 ≤ i → i ≤ n → ∃ x, q_pos W H f s i = some x ∧ ¬ bt hs x = true := by
  intro n
  induction n with
  | zero => intro c h; exact ⟨h, rfl, fun i h1 h2 => by omega⟩
  | succ n ih =>
    intro c h
    have h0 := h
    unfold p_pos at h
    split at h
    · rename_i q hq
      obtain ⟨g1, g2, g3⟩ := ih q hq
      unfold p_to at h
      split at h
      · rename_i t ht
        split at h
        · cases h
        · rename_i hb
          cases h
          have e1 : q_pos W H f s (n + 1) = some c := by
            show (match q_pos W H f s n with | some c => p_off W H c (s n) | none => none) = _
            rw [g1]
            exact ht
          refine ⟨e1, ?_, fun i h1 h2 => ?_⟩
          · show p_msk W H hs f s n ||| (zI 1 <<< (zI (oI (p_pos W H hs f s (n + 1)) 0) &&& 31)) = q_msk W H f s n ||| (zI 1 <<< (zI (oI (q_pos W H f s (n + 1)) 0) &&& 31))
            rw [g2, h0, e1]
          · by_cases hi : i = n + 1
            · subst hi
              exact ⟨c, e1, hb⟩
            · exact g3 i h1 (by omega)
      · cases h
    · cases h
theorem p_of_q {W H f : Nat} {hs : Int32} {s : Nat → Int} : ∀ (n : Nat), (∀ i, i ≤ n → ∃ c, q_pos W H f s i = some c ∧ ¬ bt hs c = true) → p_pos W H hs f s n = q_pos W H f s n := by
  intro n
  induction n with
  | zero => intro _; rfl
  | succ n ih =>
    intro h
    have e1 := ih (fun i hi => h i (by omega))
    obtain ⟨c, hc, hb⟩ := h n (by omega)
    obtain ⟨c2, hc2, hb2⟩ := h (n + 1) (by omega)
    show (match p_pos W H hs f s n with | some c => p_to W H hs c (s n) | none => none) = _
    rw [e1, hc, hc2]
    have e2 : p_off W H c (s n) = some c2 := by
      have : (match q_pos W H f s n with | some c => p_off W H c (s n) | none => none) = some c2 := hc2
      rw [hc] at this
      exact this
    show p_to W H hs c (s n) = some c2
    unfold p_to
    rw [e2]
    exact if_neg hb2
theorem q_lt {W H f : Nat} {s : Nat → Int} (hf : f < W * H) : ∀ (n c : Nat), q_pos W H f s n = some c → c < W * H := by
  intro n
  induction n with
  | zero => intro c h; cases h; exact hf
  | succ n ih =>
    intro c h
    unfold q_pos at h
    split at h
    · rename_i q hq
      exact p_off_lt (ih q hq) h
    · cases h
/-- a Chain's ints say this chain -/
def z_rep (W H : Nat) (r : ZCh) (k : ZK) : Prop := r.1 = zI (k.1 : Int) ∧ r.2.1 = zI (k_last W H k : Int) ∧ r.2.2.1 = zI (k.2.1 : Int) ∧ r.2.2.2.1 = q_msk W H k.1 k.2.2 k.2.1 ∧ ∀ j, j < k.2.1 → r.2.2.2.2 j = zI (k.2.2 j)
/-- a Site, as a value: n chains kc -/
def k_A (M : ZM) (a W H L : Nat) (hs lot : Int32) (n : Nat) (kc : Nat → ZK) : Prop := a ≤ 60 ∧ k_O M a W H L hs n lot ∧ ∃ ch, k_R M a ch ∧ ∀ k, k < n → p_ok W H hs (kc k) ∧ z_rep W H (ch k) (kc k)
theorem k_A.chain {M : ZM} {a W H L : Nat} {hs lot : Int32} {n : Nat} {kc : Nat → ZK} (h : k_A M a W H L hs lot n kc) {k : Nat} (hk : k < n) : ∃ (cs : Int32) (g : Nat → Int32), k_C M (a + 2 + 2 * k) (a + 2 + 2 * k + 1) ((kc k).1 : Int) (k_last W H (kc k) : Int) (kc k).2.1 cs g (kc k).2.2 := by
  obtain ⟨ha, hO, ch, ⟨hcf, hR⟩, hk2⟩ := h
  have h4 : k < 4 := by have := hO.2.2.2.2; omega
  obtain ⟨r1, r2⟩ := hR k h4
  obtain ⟨p1, e1, e2, e3, e4, e5⟩ := hk2 k hk
  rw [e1, e2, e3] at r1
  exact ⟨_, _, r1, r2, p1.2.1.2, by omega, fun j hj => ⟨e5 j hj, p1.2.2.1 j hj⟩⟩
/-- two Chains' ints say the same -/
def z_alk (r r2 : ZCh) : Prop := r.1 = r2.1 ∧ r.2.1 = r2.2.1 ∧ r.2.2.1 = r2.2.2.1 ∧ r.2.2.2.1 = r2.2.2.2.1 ∧ ∀ j, j < 12 → r.2.2.2.2 j = r2.2.2.2.2 j
theorem z_rep.alk {W H : Nat} {r r2 : ZCh} {k : ZK} (h : z_alk r r2) (hk : k.2.1 ≤ 12) (h2 : z_rep W H r2 k) : z_rep W H r k := ⟨h.1.trans h2.1, h.2.1.trans h2.2.1, h.2.2.1.trans h2.2.2.1, h.2.2.2.1.trans h2.2.2.2.1, fun j hj => (h.2.2.2.2 j (by omega)).trans (h2.2.2.2.2 j hj)⟩
/-- what is written of one chain's two cells -/
def w_c (M : ZM) (c : Nat) (r : ZCh) : ZM := (M.set c (.inl (0, [.int r.1, .int r.2.1, .int r.2.2.1, .int r.2.2.2.1, .ref (c + 1)]))).set (c + 1) (.inr (0, 12, .inl r.2.2.2.2))
theorem w_c_at {M : ZM} {c : Nat} {r r0 : ZCh} (h : k_c M c r0) : k_c (w_c M c r) c r := ⟨z_gn (by omega) (z_gs h.1), z_gs (z_gn (by omega) h.2)⟩
theorem w_c_ne {M : ZM} {c k : Nat} {r : ZCh} {x : Option ZE} (h1 : k ≠ c) (h2 : k ≠ c + 1) (h : M[k]? = x) : (w_c M c r)[k]? = x := z_gn (fun g => h2 g.symm) (z_gn (fun g => h1 g.symm) h)
theorem w_c_len {M : ZM} {c : Nat} {r : ZCh} : (w_c M c r).length = M.length := by
  unfold w_c
  rw [List.length_set, List.length_set]
theorem w_c_kc {M : ZM} {c k : Nat} {r r0 : ZCh} (h1 : k + 2 ≤ c ∨ c + 2 ≤ k) (h : k_c M k r0) : k_c (w_c M c r) k r0 := ⟨w_c_ne (by omega) (by omega) h.1, w_c_ne (by omega) (by omega) h.2⟩
/-- only places that P names are changed -/
def z_ev (M M' : ZM) (P : Nat → Prop) : Prop := M'.length = M.length ∧ ∀ k, ¬ P k → M'[k]? = M[k]?
theorem z_ev.rf {M : ZM} {P : Nat → Prop} : z_ev M M P := ⟨rfl, fun _ _ => rfl⟩
theorem z_ev.tr {M M1 M2 : ZM} {P : Nat → Prop} (h : z_ev M M1 P) (h2 : z_ev M1 M2 P) : z_ev M M2 P := ⟨h2.1.trans h.1, fun k hk => (h2.2 k hk).trans (h.2 k hk)⟩
theorem z_ev.wk {M M1 : ZM} {P Q : Nat → Prop} (h : z_ev M M1 P) (hPQ : ∀ k, P k → Q k) : z_ev M M1 Q := ⟨h.1, fun k hk => h.2 k (fun g => hk (hPQ k g))⟩
theorem z_ev.set {M : ZM} {P : Nat → Prop} {a : Nat} {e : ZE} (h : P a) : z_ev M (M.set a e) P := ⟨List.length_set, fun k hk => z_gn (fun g => hk (g ▸ h)) rfl⟩
theorem z_ev.wc {M : ZM} {P : Nat → Prop} {c : Nat} {r : ZCh} (h : P c) (h2 : P (c + 1)) : z_ev M (w_c M c r) P := ⟨w_c_len, fun k hk => w_c_ne (fun g => hk (g ▸ h)) (fun g => hk (g ▸ h2)) rfl⟩
section CW
variable {S : ZS} {d : Nat} {M : ZM} {c c2 : Nat} {r r2 : ZCh}
theorem c_copyC (h : k_c M c r) (k : k_c M c2 r2) (hne : c + 2 ≤ c2 ∨ c2 + 2 ≤ c) : z_C S d 1 [.ref c, .ref c2] M none (w_c M c (r2.1, r2.2.1, r2.2.2.1, r2.2.2.2.1, va_cpy r2.2.2.2.2 r.2.2.2.2 0 0 12)) := by
  refine c_of rfl rfl (Nat.le_of_ble_eq_true rfl) ?_
  refine g_al rfl rfl ?_
  refine g_al rfl rfl ?_
  refine g_gf rfl k.1 rfl rfl ?_
  refine g_pf0 rfl h.1 rfl rfl rfl (Or.inl rfl) ?_
  refine g_al rfl rfl ?_
  refine g_al rfl rfl ?_
  refine g_gf rfl (z_gn (by omega) k.1) rfl rfl ?_
  refine g_pf1 rfl (z_gs h.1) rfl rfl rfl (Or.inl rfl) ?_
  rw [List.set_set]
  refine g_al rfl rfl ?_
  refine g_al rfl rfl ?_
  refine g_gf rfl (z_gn (by omega) k.1) rfl rfl ?_
  refine g_pf2 rfl (z_gs h.1) rfl rfl rfl (Or.inl rfl) ?_
  rw [List.set_set]
  refine g_al rfl rfl ?_
  refine g_al rfl rfl ?_
  refine g_gf rfl (z_gn (by omega) k.1) rfl rfl ?_
  refine g_pf3 rfl (z_gs h.1) rfl rfl rfl (Or.inl rfl) ?_
  rw [List.set_set]
  refine g_al rfl rfl ?_
  refine g_gf rfl (z_gn (by omega) k.1) rfl rfl ?_
  refine g_ic rfl ?_
  refine g_al rfl rfl ?_
  refine g_gf rfl (z_gs h.1) rfl rfl ?_
  refine g_ic rfl ?_
  refine g_ic rfl ?_
  refine g_cpy rfl (z_gn (by omega) k.2) (z_gn (by omega) h.2) (by rw [zI_cl ⟨by omega, by omega⟩, zI_cl ⟨by omega, by omega⟩]; decide) ?_
  rw [zI_cl ⟨by omega, by omega⟩, zI_cl ⟨by omega, by omega⟩]
  exact g_retv rfl (rfl) rfl
theorem z_alk_cpy : z_alk (r2.1, r2.2.1, r2.2.2.1, r2.2.2.2.1, va_cpy r2.2.2.2.2 r.2.2.2.2 0 0 12) r2 := ⟨rfl, rfl, rfl, rfl, fun j hj => by
  show va_cpy r2.2.2.2.2 r.2.2.2.2 0 0 12 j = _
  rw [pk_cpy_in (by omega) (by omega)]
  rw [show 0 + (j - 0) = j by omega]⟩
end CW
section SW
variable {S : ZS} {d : Nat} {a b W H L W2 H2 L2 n n2 : Nat} {hs lot hs2 lot2 : Int32} {ch ch2 : Nat → ZCh}
/-- a Site's own cell, whatever its ints are -/
def k_o (M : ZM) (a : Nat) (v : Nat → Int32) : Prop := M[a]? = some (.inl (2, [.int (v 0), .int (v 1), .int (v 2), .int (v 3), .int (v 4), .int (v 5), .ref (a + 1)]))
def z_sI (a : Nat) : Nat → Prop := fun k => a ≤ k ∧ k < a + 10
theorem k_c.eqv {M M' : ZM} {P : Nat → Prop} {c : Nat} {r : ZCh} (e : z_ev M M' P) (h1 : ¬ P c) (h2 : ¬ P (c + 1)) (h : k_c M c r) : k_c M' c r := ⟨(e.2 _ h1).trans h.1, (e.2 _ h2).trans h.2⟩
theorem k_R.eqv {M M' : ZM} {P : Nat → Prop} {a : Nat} {ch : Nat → ZCh} (e : z_ev M M' P) (h0 : ∀ k, a ≤ k → k < a + 10 → ¬ P k) (h : k_R M a ch) : k_R M' a ch := by
  obtain ⟨⟨cf, g1, g2⟩, g3⟩ := h
  exact ⟨⟨cf, (e.2 _ (h0 _ (by omega) (by omega))).trans g1, g2⟩, fun k hk => (g3 k hk).eqv e (h0 _ (by omega) (by omega)) (h0 _ (by omega) (by omega))⟩
theorem c_copyS_l (hab : a + 10 ≤ b ∨ b + 10 ≤ a) {M : ZM} (hb : k_R M b ch2) : ∀ (m i : Nat) (M1 : ZM), i + m = 4 → (z_ev M M1 (z_sI a) ∧ ∃ v v2 ch, k_o M1 a v ∧ k_o M1 b v2 ∧ k_R M1 a ch ∧ ∀ k, k < i → z_alk (ch k) (ch2 k)) → ∃ M', z_G S (d + 1) 32 50 [some (.ref a), some (.ref b), some (.int (zI (i : Int)))] [] M1 none M' ∧ z_ev M M' (z_sI a) ∧ (∃ ch, k_R M' a ch ∧ ∀ k, k < 4 → z_alk (ch k) (ch2 k)) ∧ M'[a]? = M1[a]? := by
  intro m
  induction m with
  | zero =>
    intro i M1 hi hI
    obtain ⟨hE, v, v2, ch, h1, h2, hR, hA⟩ := hI
    obtain ⟨⟨cf, c1, c2⟩, c5⟩ := id hR
    refine ⟨M1, ?_, hE, ⟨ch, hR, fun k hk => hA k (by omega)⟩, rfl⟩
    refine g_il rfl rfl ?_
    refine g_ic rfl ?_
    refine g_icT rfl (zcT3 ⟨by omega, by omega⟩ ⟨by omega, by omega⟩ (by omega)) ?_
    exact g_retv rfl (rfl) rfl
  | succ m ih =>
    intro i M1 hi hI
    obtain ⟨hE, v, v2, ch, h1, h2, hR, hA⟩ := hI
    have hRb := hb.eqv hE (fun k g1 g2 g3 => by unfold z_sI at g3; omega)
    obtain ⟨⟨cf, c1, c2⟩, c5⟩ := id hR
    obtain ⟨⟨cf2, c3, c4⟩, c6⟩ := id hRb
    have r1 := c5 i (by omega)
    have r2 := c6 i (by omega)
    have hP1 : z_sI a (a + 2 + 2 * i) := by unfold z_sI; omega
    have hP2 : z_sI a (a + 2 + 2 * i + 1) := by unfold z_sI; omega
    obtain ⟨M', hG, g2, g3, g4⟩ := ih (i + 1) (w_c M1 (a + 2 + 2 * i) ((ch2 i).1, (ch2 i).2.1, (ch2 i).2.2.1, (ch2 i).2.2.2.1, va_cpy (ch2 i).2.2.2.2 (ch i).2.2.2.2 0 0 12)) (by omega) ⟨hE.tr (.wc hP1 hP2), v, v2, (fun k => if k = i then ((ch2 i).1, (ch2 i).2.1, (ch2 i).2.2.1, (ch2 i).2.2.2.1, va_cpy (ch2 i).2.2.2.2 (ch i).2.2.2.2 0 0 12) else ch k), w_c_ne (by omega) (by omega) h1, w_c_ne (by omega) (by omega) h2, ⟨⟨cf, w_c_ne (by omega) (by omega) c1, c2⟩, fun k hk => by
      by_cases e : k = i
      · subst e
        dsimp only
        rw [if_pos rfl]
        exact w_c_at r1
      · dsimp only
        rw [if_neg e]
        exact w_c_kc (by omega) (c5 k hk)⟩, fun k hk => by
      by_cases e : k = i
      · subst e
        dsimp only
        rw [if_pos rfl]
        exact z_alk_cpy
      · dsimp only
        rw [if_neg e]
        exact hA k (by omega)⟩
    refine ⟨M', ?_, g2, g3, g4.trans (w_c_ne (by omega) (by omega) rfl)⟩
    refine g_il rfl rfl ?_
    refine g_ic rfl ?_
    refine g_icF rfl (zcF3 ⟨by omega, by omega⟩ ⟨by omega, by omega⟩ (by omega)) ?_
    refine g_al rfl rfl ?_
    refine g_gf rfl h1 rfl rfl ?_
    refine g_il rfl rfl ?_
    refine g_aaI4 rfl c1 (by omega) (by omega) (by omega) (by rw [Int.toNat_natCast, c2 i (by omega)]) ?_
    refine g_al rfl rfl ?_
    refine g_gf rfl h2 rfl rfl ?_
    refine g_il rfl rfl ?_
    refine g_aaI4 rfl c3 (by omega) (by omega) (by omega) (by rw [Int.toNat_natCast, c4 i (by omega)]) ?_
    refine g_cv1v rfl rfl r1.1 rfl (by decide) rfl (c_copyC r1 r2 (by omega)) ?_
    refine g_jj2 rfl rfl ?_
    refine g_goto rfl ?_
    exact hG
theorem c_copyS {M : ZM} {v v2 : Nat → Int32} (hab : a + 10 ≤ b ∨ b + 10 ≤ a) (h1 : k_o M a v) (hR : k_R M a ch) (h2 : k_o M b v2) (hb : k_R M b ch2) : ∃ M', z_C S (d + 1) 32 [.ref a, .ref b] M none M' ∧ z_ev M M' (z_sI a) ∧ k_o M' a v2 ∧ ∃ ch, k_R M' a ch ∧ ∀ k, k < 4 → z_alk (ch k) (ch2 k) := by
  have hP : z_sI a a := by unfold z_sI; omega
  obtain ⟨M', hG, g2, g3, g4⟩ := c_copyS_l (S := S) (d := d) hab (M := M.set a (.inl (2, [.int (v2 0), .int (v2 1), .int (v2 2), .int (v2 3), .int (v2 4), .int (v2 5), .ref (a + 1)]))) (ch2 := ch2) (hb.eqv (.set hP) (fun k g1 g2 g3 => by unfold z_sI at g3; omega)) 4 0 (M.set a (.inl (2, [.int (v2 0), .int (v2 1), .int (v2 2), .int (v2 3), .int (v2 4), .int (v2 5), .ref (a + 1)]))) (by omega) ⟨.rf, v2, v2, ch, z_gs h1, z_gn (by omega) h2, by
    obtain ⟨⟨cf, c1, c2⟩, c5⟩ := id hR
    exact ⟨⟨cf, z_gn (by omega) c1, c2⟩, fun k hk => ⟨z_gn (by omega) (c5 k hk).1, z_gn (by omega) (c5 k hk).2⟩⟩, fun k hk => by omega⟩
  refine ⟨M', ?_, (z_ev.set hP).tr g2, g4.trans (z_gs h1), g3⟩
  refine c_of rfl rfl (Nat.le_of_ble_eq_true rfl) ?_
  refine g_al rfl rfl ?_
  refine g_al rfl rfl ?_
  refine g_gf rfl h2 rfl rfl ?_
  refine g_pf0 rfl h1 rfl rfl rfl (Or.inl rfl) ?_
  refine g_al rfl rfl ?_
  refine g_al rfl rfl ?_
  refine g_gf rfl (z_gn (by omega) h2) rfl rfl ?_
  refine g_pf1 rfl (z_gs h1) rfl rfl rfl (Or.inl rfl) ?_
  rw [List.set_set]
  refine g_al rfl rfl ?_
  refine g_al rfl rfl ?_
  refine g_gf rfl (z_gn (by omega) h2) rfl rfl ?_
  refine g_pf2 rfl (z_gs h1) rfl rfl rfl (Or.inl rfl) ?_
  rw [List.set_set]
  refine g_al rfl rfl ?_
  refine g_al rfl rfl ?_
  refine g_gf rfl (z_gn (by omega) h2) rfl rfl ?_
  refine g_pf3 rfl (z_gs h1) rfl rfl rfl (Or.inl rfl) ?_
  rw [List.set_set]
  refine g_al rfl rfl ?_
  refine g_al rfl rfl ?_
  refine g_gf rfl (z_gn (by omega) h2) rfl rfl ?_
  refine g_pf4 rfl (z_gs h1) rfl rfl rfl (Or.inl rfl) ?_
  rw [List.set_set]
  refine g_al rfl rfl ?_
  refine g_al rfl rfl ?_
  refine g_gf rfl (z_gn (by omega) h2) rfl rfl ?_
  refine g_pf5 rfl (z_gs h1) rfl rfl rfl (Or.inl rfl) ?_
  rw [List.set_set]
  refine g_ic rfl ?_
  refine g_is2 rfl rfl ?_
  exact hG
end SW
end
section
/-! THE REFERENCE: its cells, and its methods that read -/
abbrev m_f (tr : Int64) (v : Nat → Int32) : List Value := [.long tr, .ref 63, .int (v 2), .ref 64, .ref 65, .ref 66, .ref 67, .ref 68, .int (v 8), .int (v 9), .int (v 10), .int (v 11), .int (v 12), .int (v 13), .ref 69, .ref 70, .ref 71, .ref 72, .ref 73, .ref 74, .ref 75, .int (v 21), .ref 76, .ref 77, .int (v 24)]
/-- its own cell, the rows of the yard's numbers, the row of all else -/
def m_B (M : ZM) (tr : Int64) (v wd hd ld nw : Nat → Int32) : Prop := M[62]? = some (.inl (6, m_f tr v)) ∧ M[64]? = some (.inr (0, 2, .inl wd)) ∧ M[65]? = some (.inr (0, 2, .inl hd)) ∧ M[66]? = some (.inr (0, 2, .inl ld)) ∧ M[67]? = some (.inr (0, 236, .inl nw))
/-- what the row says, from a place on -/
def m_A (nw : Nat → Int32) (q : Nat) (hs lot : Int32) (n : Nat) (kc : Nat → ZK) : Prop := nw q = hs ∧ nw (q + 1) = zI (n : Int) ∧ nw (q + 2) = lot ∧ ∀ k, k < n → nw (q + 3 + k) = zI ((kc k).1 : Int) ∧ nw (q + 7 + k) = zI ((kc k).2.1 : Int) ∧ ∀ j, j < (kc k).2.1 → nw (q + 11 + 12 * k + j) = zI ((kc k).2.2 j)
/-- the yard that is: its numbers, houses, chains -/
def m_Y (M : ZM) (tr : Int64) (v wd hd ld nw : Nat → Int32) (W H L : Nat) (hs lot : Int32) (n : Nat) (kc : Nat → ZK) : Prop := m_B M tr v wd hd ld nw ∧ (wd 0 = zI (W : Int) ∧ hd 0 = zI (H : Int) ∧ ld 0 = zI (L : Int)) ∧ ((1 ≤ W ∧ W ≤ 5) ∧ (1 ≤ H ∧ H ≤ 5) ∧ (1 ≤ L ∧ L ≤ 3) ∧ n ≤ 4) ∧ m_A nw 0 hs lot n kc ∧ ∀ k, k < n → p_ok W H hs (kc k)
section MR
variable {S : ZS} {d : Nat} {M : ZM} {tr : Int64} {v wd hd ld nw : Nat → Int32} {W H L n : Nat} {hs lot : Int32} {kc : Nat → ZK}
theorem m_in {x lo hi : Int} (hx : z_sm x) (hl : z_sm lo) (hh : z_sm hi) : z_C S d 102 [.int (zI x), .int (zI lo), .int (zI hi)] M (some (.int (zI (if lo ≤ x ∧ x ≤ hi then 1 else 0)))) M := by
  refine c_of rfl rfl (Nat.le_of_ble_eq_true rfl) ?_
  refine g_il rfl rfl ?_
  refine g_il rfl rfl ?_
  by_cases ha : x < lo
  · refine g_icT rfl (zcT2 hx hl (ha)) ?_
    refine g_ic rfl ?_
    exact g_reti rfl (by rw [if_neg (by omega)]) rfl
  · refine g_icF rfl (zcF2 hx hl (ha)) ?_
    refine g_il rfl rfl ?_
    refine g_il rfl rfl ?_
    by_cases hb : hi < x
    · refine g_icT rfl (zcT4 hx hh (hb)) ?_
      refine g_ic rfl ?_
      exact g_reti rfl (by rw [if_neg (by omega)]) rfl
    · refine g_icF rfl (zcF4 hx hh (hb)) ?_
      refine g_ic rfl ?_
      refine g_goto rfl ?_
      exact g_reti rfl (by rw [if_pos (by omega)]) rfl
theorem m_offeq {c q m : Nat} {st dx : Int} (hc : c < W * H) (e1 : W * q + m = c) (e2 : m < W) (e4 : q < H) (em : c % W = m) (hst : 0 ≤ st ∧ st ≤ 3) (hdx : (st = 1 ∧ dx = 1) ∨ (st = 3 ∧ dx = -1) ∨ (st ≠ 1 ∧ st ≠ 3 ∧ dx = 0)) : (if (0 ≤ (m : Int) + dx ∧ (m : Int) + dx ≤ (W : Int) - 1) ∧ 0 ≤ (q : Int) + (if st = 2 then 1 else if st = 0 then -1 else 0) ∧ (q : Int) + (if st = 2 then 1 else if st = 0 then -1 else 0) ≤ (H : Int) - 1 then (W : Int) * ((q : Int) + (if st = 2 then 1 else if st = 0 then -1 else 0)) + ((m : Int) + dx) else -9) = oI (p_off W H c st) (-9) := by
  have e5 : (W : Int) * (q : Int) = ((W * q : Nat) : Int) := (Int.natCast_mul W q).symm
  rcases (show st = 0 ∨ st = 1 ∨ st = 2 ∨ st = 3 by omega) with hk | hk | hk | hk
  · subst hk
    have hd : dx = 0 := by omega
    subst hd
    have hR : p_off W H c 0 = if W ≤ c then some (c - W) else none := by unfold p_off; rw [if_pos rfl]
    rw [hR, if_neg (show ¬ (0 : Int) = 2 by decide), if_pos (show (0 : Int) = 0 from rfl)]
    by_cases hl : W ≤ c
    · have h1 : 1 ≤ q := by
        rcases Nat.eq_zero_or_pos q with g | g
        · subst g; omega
        · exact g
      rw [if_pos hl, if_pos (by omega)]
      show _ = ((c - W : Nat) : Int)
      rw [Int.mul_add, e5]
      omega
    · have h1 : ¬ 1 ≤ q := fun g => by
        have : W * 1 ≤ W * q := Nat.mul_le_mul_left W g
        omega
      rw [if_neg hl, if_neg (by omega)]
      rfl
  · subst hk
    have hd : dx = 1 := by omega
    subst hd
    have hR : p_off W H c 1 = if m + 1 < W then some (c + 1) else none := by unfold p_off; rw [if_neg (by decide), if_pos rfl, em]
    rw [hR, if_neg (show ¬ (1 : Int) = 2 by decide), if_neg (show ¬ (1 : Int) = 0 by decide)]
    by_cases hl : m + 1 < W
    · rw [if_pos hl, if_pos (by omega)]
      show _ = ((c + 1 : Nat) : Int)
      rw [Int.add_zero, e5]
      omega
    · rw [if_neg hl, if_neg (by omega)]
      rfl
  · subst hk
    have hd : dx = 0 := by omega
    subst hd
    have hR : p_off W H c 2 = if c + W < W * H then some (c + W) else none := by unfold p_off; rw [if_neg (by decide), if_neg (by decide), if_pos rfl]
    rw [hR, if_pos (show (2 : Int) = 2 from rfl)]
    by_cases hl : c + W < W * H
    · have h1 : q + 1 < H := by
        rcases Nat.lt_or_ge (q + 1) H with g | g
        · exact g
        · have := Nat.mul_le_mul_left W g
          rw [Nat.mul_add] at this
          omega
      rw [if_pos hl, if_pos (by omega)]
      show _ = ((c + W : Nat) : Int)
      rw [Int.mul_add, e5]
      omega
    · have h1 : ¬ q + 1 < H := fun g => by
        have := Nat.mul_le_mul_left W g
        rw [Nat.mul_succ, Nat.mul_add] at this
        omega
      rw [if_neg hl, if_neg (by omega)]
      rfl
  · subst hk
    have hd : dx = -1 := by omega
    subst hd
    have hR : p_off W H c 3 = if 0 < m then some (c - 1) else none := by unfold p_off; rw [if_neg (by decide), if_neg (by decide), if_neg (by decide), if_pos rfl, em]
    rw [hR, if_neg (show ¬ (3 : Int) = 2 by decide), if_neg (show ¬ (3 : Int) = 0 by decide)]
    by_cases hl : 0 < m
    · rw [if_pos hl, if_pos (by omega)]
      show _ = ((c - 1 : Nat) : Int)
      rw [Int.add_zero, e5]
      omega
    · rw [if_neg hl, if_neg (by omega)]
      rfl
theorem m_off (hB : m_B M tr v wd hd ld nw) (hW1 : 1 ≤ W) (hW2 : W ≤ 5) (hH1 : 1 ≤ H) (hH2 : H ≤ 5) {e : Nat} (he : e < 2) (hw : wd e = zI (W : Int)) (hh : hd e = zI (H : Int)) {c : Nat} (hc : c < W * H) {st : Int} (hst : 0 ≤ st ∧ st ≤ 3) : z_C S (d + 1) 109 [.ref 62, .int (zI (e : Int)), .int (zI (c : Int)), .int (zI st)] M (some (.int (zI (oI (p_off W H c st) (-9))))) M := by
  obtain ⟨h1, h2, h3, h4, h5⟩ := id hB
  have hC := p_WH hW2 hH2
  have e2 := Nat.mod_lt c (show 0 < W by omega)
  have e1 := Nat.div_add_mod c W
  have e4 : c / W < H := Nat.div_lt_of_lt_mul hc
  generalize eq : c / W = q at e1 e4
  generalize em : c % W = m at e1 e2
  have fin : ∀ (x yy : Int), z_sm x → z_sm yy → z_G S (d + 1) 109 59 [some (.ref 62), some (.int (zI (e : Int))), some (.int (zI (c : Int))), some (.int (zI st)), some (.int (zI x)), some (.int (zI yy))] [] M (some (.int (zI (if (0 ≤ x ∧ x ≤ (W : Int) - 1) ∧ 0 ≤ yy ∧ yy ≤ (H : Int) - 1 then (W : Int) * yy + x else -9)))) M := by
    intro x yy hx hy
    refine g_il rfl rfl ?_
    refine g_ic rfl ?_
    refine g_al rfl rfl ?_
    refine g_gf rfl h1 rfl rfl ?_
    refine g_il rfl rfl ?_
    refine g_iaI rfl (by decide) h2 (by omega) (by omega) (by omega) ?_
    rw [show wd (e : Int).toNat = zI (W : Int) by rw [Int.toNat_natCast]; exact hw]
    refine g_ic rfl ?_
    refine g_subI rfl ?_
    refine g_cs3 rfl rfl rfl rfl (m_in hx ⟨by omega, by omega⟩ ⟨by omega, by omega⟩) ?_
    by_cases g1 : 0 ≤ x ∧ x ≤ (W : Int) - 1
    · rw [if_pos g1]
      refine g_ifF rfl (zcF0 ⟨by omega, by omega⟩ ⟨by omega, by omega⟩ (by decide)) ?_
      refine g_il rfl rfl ?_
      refine g_ic rfl ?_
      refine g_al rfl rfl ?_
      refine g_gf rfl h1 rfl rfl ?_
      refine g_il rfl rfl ?_
      refine g_iaI rfl (by decide) h3 (by omega) (by omega) (by omega) ?_
      rw [show hd (e : Int).toNat = zI (H : Int) by rw [Int.toNat_natCast]; exact hh]
      refine g_ic rfl ?_
      refine g_subI rfl ?_
      refine g_cs3 rfl rfl rfl rfl (m_in hy ⟨by omega, by omega⟩ ⟨by omega, by omega⟩) ?_
      by_cases g2 : 0 ≤ yy ∧ yy ≤ (H : Int) - 1
      · rw [if_pos g2]
        refine g_ifF rfl (zcF0 ⟨by omega, by omega⟩ ⟨by omega, by omega⟩ (by decide)) ?_
        refine g_al rfl rfl ?_
        refine g_gf rfl h1 rfl rfl ?_
        refine g_il rfl rfl ?_
        refine g_iaI rfl (by decide) h2 (by omega) (by omega) (by omega) ?_
        rw [show wd (e : Int).toNat = zI (W : Int) by rw [Int.toNat_natCast]; exact hw]
        refine g_il rfl rfl ?_
        refine g_mulI rfl ?_
        refine g_il rfl rfl ?_
        refine g_addI rfl ?_
        refine g_goto rfl ?_
        exact g_reti rfl (by rw [if_pos ⟨g1, g2⟩]) rfl
      · rw [if_neg g2]
        refine g_ifT rfl (zcT0 (rfl)) ?_
        refine g_ic rfl ?_
        exact g_reti rfl (by rw [if_neg (fun q => g2 q.2)]) rfl
    · rw [if_neg g1]
      refine g_ifT rfl (zcT0 (rfl)) ?_
      refine g_ic rfl ?_
      exact g_reti rfl (by rw [if_neg (fun q => g1 q.1)]) rfl
  have mid : ∀ (x : Int), z_sm x → z_G S (d + 1) 109 30 [some (.ref 62), some (.int (zI (e : Int))), some (.int (zI (c : Int))), some (.int (zI st)), some (.int (zI x)), none] [] M (some (.int (zI (if (0 ≤ x ∧ x ≤ (W : Int) - 1) ∧ 0 ≤ (q : Int) + (if st = 2 then 1 else if st = 0 then -1 else 0) ∧ (q : Int) + (if st = 2 then 1 else if st = 0 then -1 else 0) ≤ (H : Int) - 1 then (W : Int) * ((q : Int) + (if st = 2 then 1 else if st = 0 then -1 else 0)) + x else -9)))) M := by
    intro x hx
    refine g_il rfl rfl ?_
    refine g_al rfl rfl ?_
    refine g_gf rfl h1 rfl rfl ?_
    refine g_il rfl rfl ?_
    refine g_iaI rfl (by decide) h2 (by omega) (by omega) (by omega) ?_
    rw [show wd (e : Int).toNat = zI (W : Int) by rw [Int.toNat_natCast]; exact hw]
    refine g_divI rfl (⟨by omega, by omega⟩) (⟨by omega, by omega⟩) ?_
    rw [(Int.natCast_ediv c W).symm, eq]
    refine g_il rfl rfl ?_
    refine g_ic rfl ?_
    rcases (show st = 2 ∨ st = 0 ∨ (st ≠ 2 ∧ st ≠ 0) by omega) with hk | hk | hk
    · refine g_icF rfl (zcF1 (hk)) ?_
      refine g_ic rfl ?_
      refine g_goto rfl ?_
      refine g_addI rfl ?_
      refine g_is5 rfl rfl ?_
      rw [if_pos hk]
      exact fin _ _ hx ⟨by omega, by omega⟩
    · refine g_icT rfl (zcT1 ⟨by omega, by omega⟩ ⟨by omega, by omega⟩ (by omega)) ?_
      refine g_il rfl rfl ?_
      refine g_ifF rfl (zcF1 (hk)) ?_
      refine g_ic rfl ?_
      refine g_goto rfl ?_
      refine g_addI rfl ?_
      refine g_is5 rfl rfl ?_
      rw [if_neg (show ¬ st = 2 by omega), if_pos hk]
      exact fin _ _ hx ⟨by omega, by omega⟩
    · refine g_icT rfl (zcT1 ⟨by omega, by omega⟩ ⟨by omega, by omega⟩ (hk.1)) ?_
      refine g_il rfl rfl ?_
      refine g_ifT rfl (zcT1 ⟨by omega, by omega⟩ ⟨by omega, by omega⟩ (hk.2)) ?_
      refine g_ic rfl ?_
      refine g_addI rfl ?_
      refine g_is5 rfl rfl ?_
      rw [if_neg hk.1, if_neg hk.2]
      exact fin _ _ hx ⟨by omega, by omega⟩
  refine c_of rfl rfl (Nat.le_of_ble_eq_true rfl) ?_
  refine g_il rfl rfl ?_
  refine g_al rfl rfl ?_
  refine g_gf rfl h1 rfl rfl ?_
  refine g_il rfl rfl ?_
  refine g_iaI rfl (by decide) h2 (by omega) (by omega) (by omega) ?_
  rw [show wd (e : Int).toNat = zI (W : Int) by rw [Int.toNat_natCast]; exact hw]
  refine g_remI rfl (⟨by omega, by omega⟩) (⟨by omega, by omega⟩) ?_
  rw [(Int.natCast_emod c W).symm, em]
  refine g_il rfl rfl ?_
  refine g_ic rfl ?_
  rcases (show st = 0 ∨ st = 1 ∨ st = 2 ∨ st = 3 by omega) with hk | hk | hk | hk
  · refine g_icT rfl (zcT1 ⟨by omega, by omega⟩ ⟨by omega, by omega⟩ (by omega)) ?_
    refine g_il rfl rfl ?_
    refine g_ic rfl ?_
    refine g_icT rfl (zcT1 ⟨by omega, by omega⟩ ⟨by omega, by omega⟩ (by omega)) ?_
    refine g_ic rfl ?_
    refine g_addI rfl ?_
    refine g_is4 rfl rfl ?_
    have e9 := mid ((m : Int) + 0) ⟨by omega, by omega⟩
    rw [m_offeq hc e1 e2 e4 em hst (dx := 0) (by omega)] at e9
    exact e9
  · refine g_icF rfl (zcF1 (by omega)) ?_
    refine g_ic rfl ?_
    refine g_goto rfl ?_
    refine g_addI rfl ?_
    refine g_is4 rfl rfl ?_
    have e9 := mid ((m : Int) + 1) ⟨by omega, by omega⟩
    rw [m_offeq hc e1 e2 e4 em hst (dx := 1) (by omega)] at e9
    exact e9
  · refine g_icT rfl (zcT1 ⟨by omega, by omega⟩ ⟨by omega, by omega⟩ (by omega)) ?_
    refine g_il rfl rfl ?_
    refine g_ic rfl ?_
    refine g_icT rfl (zcT1 ⟨by omega, by omega⟩ ⟨by omega, by omega⟩ (by omega)) ?_
    refine g_ic rfl ?_
    refine g_addI rfl ?_
    refine g_is4 rfl rfl ?_
    have e9 := mid ((m : Int) + 0) ⟨by omega, by omega⟩
    rw [m_offeq hc e1 e2 e4 em hst (dx := 0) (by omega)] at e9
    exact e9
  · refine g_icT rfl (zcT1 ⟨by omega, by omega⟩ ⟨by omega, by omega⟩ (by omega)) ?_
    refine g_il rfl rfl ?_
    refine g_ic rfl ?_
    refine g_icF rfl (zcF1 (by omega)) ?_
    refine g_ic rfl ?_
    refine g_goto rfl ?_
    refine g_addI rfl ?_
    refine g_is4 rfl rfl ?_
    have e9 := mid ((m : Int) + (-1)) ⟨by omega, by omega⟩
    rw [m_offeq hc e1 e2 e4 em hst (dx := (-1)) (by omega)] at e9
    exact e9
theorem m_cells (h : m_Y M tr v wd hd ld nw W H L hs lot n kc) : z_C S d 116 [.ref 62] M (some (.int (zI ((W * H : Nat) : Int)))) M := by
  obtain ⟨⟨h1, h2, h3, h4, h5⟩, ⟨w1, w2, w3⟩, ⟨⟨hW1, hW2⟩, ⟨hH1, hH2⟩, ⟨hL1, hL2⟩, hn⟩, ⟨a1, a2, a3, a4⟩, hok⟩ := id h
  have hC := p_WH hW2 hH2
  have eC : (W : Int) * (H : Int) = ((W * H : Nat) : Int) := (Int.natCast_mul W H).symm
  refine c_of rfl rfl (Nat.le_of_ble_eq_true rfl) ?_
  refine g_al rfl rfl ?_
  refine g_gf rfl h1 rfl rfl ?_
  refine g_ic rfl ?_
  refine g_iaI rfl (by decide) h2 (by omega) (by omega) (by omega) ?_
  rw [show wd (Int.toNat 0) = zI (W : Int) from w1]
  refine g_al rfl rfl ?_
  refine g_gf rfl h1 rfl rfl ?_
  refine g_ic rfl ?_
  refine g_iaI rfl (by decide) h3 (by omega) (by omega) (by omega) ?_
  rw [show hd (Int.toNat 0) = zI (H : Int) from w2]
  refine g_mulI rfl ?_
  rw [eC]
  exact g_reti rfl (rfl) rfl
theorem m_isCell (h : m_Y M tr v wd hd ld nw W H L hs lot n kc) {c : Int} (hc : z_sm c) : z_C S (d + 1) 117 [.ref 62, .int (zI c)] M (some (.int (zI (if 0 ≤ c ∧ c < ((W * H : Nat) : Int) then 1 else 0)))) M := by
  obtain ⟨⟨h1, h2, h3, h4, h5⟩, ⟨w1, w2, w3⟩, ⟨⟨hW1, hW2⟩, ⟨hH1, hH2⟩, ⟨hL1, hL2⟩, hn⟩, ⟨a1, a2, a3, a4⟩, hok⟩ := id h
  have hC := p_WH hW2 hH2
  have eC : (W : Int) * (H : Int) = ((W * H : Nat) : Int) := (Int.natCast_mul W H).symm
  refine c_of rfl rfl (Nat.le_of_ble_eq_true rfl) ?_
  refine g_il rfl rfl ?_
  refine g_ic rfl ?_
  refine g_al rfl rfl ?_
  refine g_cv0 rfl rfl h1 rfl (by decide) rfl (m_cells h) ?_
  refine g_ic rfl ?_
  refine g_subI rfl ?_
  refine g_cs3 rfl rfl rfl rfl (m_in hc ⟨by omega, by omega⟩ ⟨by omega, by omega⟩) ?_
  exact g_reti rfl (congrArg (fun x => some (Value.int (zI x))) (z_ifeq (by omega))) (by split <;> rfl)
theorem m_isHouse (h : m_Y M tr v wd hd ld nw W H L hs lot n kc) {c : Nat} (hc : c < 32) : z_C S d 118 [.ref 62, .int (zI (c : Int))] M (some (.int (zI (if bt hs c = true then 1 else 0)))) M := by
  obtain ⟨⟨h1, h2, h3, h4, h5⟩, ⟨w1, w2, w3⟩, ⟨⟨hW1, hW2⟩, ⟨hH1, hH2⟩, ⟨hL1, hL2⟩, hn⟩, ⟨a1, a2, a3, a4⟩, hok⟩ := id h
  have hC := p_WH hW2 hH2
  have eC : (W : Int) * (H : Int) = ((W * H : Nat) : Int) := (Int.natCast_mul W H).symm
  refine c_of rfl rfl (Nat.le_of_ble_eq_true rfl) ?_
  refine g_al rfl rfl ?_
  refine g_gf rfl h1 rfl rfl ?_
  refine g_ic rfl ?_
  refine g_iaI rfl (by decide) h5 (by omega) (by omega) (by omega) ?_
  rw [show nw (Int.toNat 0) = hs from a1]
  refine g_il rfl rfl ?_
  refine g_ishr rfl ?_
  refine g_ic rfl ?_
  refine g_iand rfl ?_
  refine g_ic rfl ?_
  rw [z_bit hs hc]
  by_cases hb : bt hs c = true
  · rw [if_pos hb]
    refine g_icF rfl (zcF1 (rfl)) ?_
    refine g_ic rfl ?_
    refine g_goto rfl ?_
    exact g_reti rfl (rfl) rfl
  · rw [if_neg hb]
    refine g_icT rfl (zcT1 ⟨by omega, by omega⟩ ⟨by omega, by omega⟩ (by decide)) ?_
    refine g_ic rfl ?_
    exact g_reti rfl (rfl) rfl
theorem m_isFree (h : m_Y M tr v wd hd ld nw W H L hs lot n kc) {c : Int} (hc : z_sm c) : z_C S (d + 2) 119 [.ref 62, .int (zI c)] M (some (.int (zI (if 0 ≤ c ∧ c < ((W * H : Nat) : Int) ∧ ¬ bt hs c.toNat = true then 1 else 0)))) M := by
  obtain ⟨⟨h1, h2, h3, h4, h5⟩, ⟨w1, w2, w3⟩, ⟨⟨hW1, hW2⟩, ⟨hH1, hH2⟩, ⟨hL1, hL2⟩, hn⟩, ⟨a1, a2, a3, a4⟩, hok⟩ := id h
  have hC := p_WH hW2 hH2
  have eC : (W : Int) * (H : Int) = ((W * H : Nat) : Int) := (Int.natCast_mul W H).symm
  refine c_of rfl rfl (Nat.le_of_ble_eq_true rfl) ?_
  refine g_al rfl rfl ?_
  refine g_il rfl rfl ?_
  refine g_cv1 rfl rfl h1 rfl (by decide) rfl (m_isCell h hc) ?_
  by_cases h0 : 0 ≤ c ∧ c < ((W * H : Nat) : Int)
  · rw [if_pos h0]
    refine g_ifF rfl (zcF0 ⟨by omega, by omega⟩ ⟨by omega, by omega⟩ (by decide)) ?_
    refine g_al rfl rfl ?_
    refine g_il rfl rfl ?_
    obtain ⟨q, rfl⟩ : ∃ q : Nat, c = (q : Int) := ⟨c.toNat, by omega⟩
    refine g_cv1 rfl rfl h1 rfl (by decide) rfl (m_isHouse h (c := q) (by omega)) ?_
    by_cases hb : bt hs q = true
    · rw [if_pos hb]
      refine g_ifT rfl (zcT1 ⟨by omega, by omega⟩ ⟨by omega, by omega⟩ (by decide)) ?_
      refine g_ic rfl ?_
      exact g_reti rfl (by rw [if_neg (fun g => g.2.2 (by rw [Int.toNat_natCast]; exact hb))]) rfl
    · rw [if_neg hb]
      refine g_ifF rfl (zcF1 (rfl)) ?_
      refine g_ic rfl ?_
      refine g_goto rfl ?_
      exact g_reti rfl (by rw [if_pos ⟨h0.1, h0.2, by rw [Int.toNat_natCast]; exact hb⟩]) rfl
  · rw [if_neg h0]
    refine g_ifT rfl (zcT0 (rfl)) ?_
    refine g_ic rfl ?_
    exact g_reti rfl (by rw [if_neg (fun g => h0 ⟨g.1, g.2.1⟩)]) rfl
theorem m_isChain (h : m_Y M tr v wd hd ld nw W H L hs lot n kc) {k : Int} (hk : z_sm k) : z_C S (d + 1) 120 [.ref 62, .int (zI k)] M (some (.int (zI (if 0 ≤ k ∧ k < (n : Int) then 1 else 0)))) M := by
  obtain ⟨⟨h1, h2, h3, h4, h5⟩, ⟨w1, w2, w3⟩, ⟨⟨hW1, hW2⟩, ⟨hH1, hH2⟩, ⟨hL1, hL2⟩, hn⟩, ⟨a1, a2, a3, a4⟩, hok⟩ := id h
  have hC := p_WH hW2 hH2
  have eC : (W : Int) * (H : Int) = ((W * H : Nat) : Int) := (Int.natCast_mul W H).symm
  refine c_of rfl rfl (Nat.le_of_ble_eq_true rfl) ?_
  refine g_il rfl rfl ?_
  refine g_ic rfl ?_
  refine g_al rfl rfl ?_
  refine g_gf rfl h1 rfl rfl ?_
  refine g_ic rfl ?_
  refine g_iaI rfl (by decide) h5 (by omega) (by omega) (by omega) ?_
  rw [show nw (Int.toNat 1) = zI (n : Int) from a2]
  refine g_ic rfl ?_
  refine g_subI rfl ?_
  refine g_cs3 rfl rfl rfl rfl (m_in hk ⟨by omega, by omega⟩ ⟨by omega, by omega⟩) ?_
  exact g_reti rfl (congrArg (fun x => some (Value.int (zI x))) (z_ifeq (by omega))) (by split <;> rfl)
theorem m_stepIn (h : m_Y M tr v wd hd ld nw W H L hs lot n kc) {k : Nat} (hk : k < n) {j : Nat} (hj : j < (kc k).2.1) : z_C S d 121 [.ref 62, .int (zI (k : Int)), .int (zI (j : Int))] M (some (.int (zI ((kc k).2.2 j)))) M := by
  obtain ⟨⟨h1, h2, h3, h4, h5⟩, ⟨w1, w2, w3⟩, ⟨⟨hW1, hW2⟩, ⟨hH1, hH2⟩, ⟨hL1, hL2⟩, hn⟩, ⟨a1, a2, a3, a4⟩, hok⟩ := id h
  have hC := p_WH hW2 hH2
  have eC : (W : Int) * (H : Int) = ((W * H : Nat) : Int) := (Int.natCast_mul W H).symm
  have hkk := hok k hk
  have hN := hkk.2.1
  refine c_of rfl rfl (Nat.le_of_ble_eq_true rfl) ?_
  refine g_al rfl rfl ?_
  refine g_gf rfl h1 rfl rfl ?_
  refine g_ic rfl ?_
  refine g_ic rfl ?_
  refine g_il rfl rfl ?_
  refine g_mulI rfl ?_
  refine g_addI rfl ?_
  refine g_il rfl rfl ?_
  refine g_addI rfl ?_
  refine g_iaI rfl (by decide) h5 (by omega) (by omega) (by omega) ?_
  rw [show (11 + 12 * (k : Int) + (j : Int)).toNat = 0 + 11 + 12 * k + j by omega, ((a4 k hk).2.2 j hj)]
  exact g_reti rfl (rfl) rfl
theorem m_steps (h : m_Y M tr v wd hd ld nw W H L hs lot n kc) {k : Nat} (hk : k < n) : z_C S d 122 [.ref 62, .int (zI (k : Int))] M (some (.int (zI ((kc k).2.1 : Int)))) M := by
  obtain ⟨⟨h1, h2, h3, h4, h5⟩, ⟨w1, w2, w3⟩, ⟨⟨hW1, hW2⟩, ⟨hH1, hH2⟩, ⟨hL1, hL2⟩, hn⟩, ⟨a1, a2, a3, a4⟩, hok⟩ := id h
  have hC := p_WH hW2 hH2
  have eC : (W : Int) * (H : Int) = ((W * H : Nat) : Int) := (Int.natCast_mul W H).symm
  have hkk := hok k hk
  refine c_of rfl rfl (Nat.le_of_ble_eq_true rfl) ?_
  refine g_al rfl rfl ?_
  refine g_gf rfl h1 rfl rfl ?_
  refine g_ic rfl ?_
  refine g_il rfl rfl ?_
  refine g_addI rfl ?_
  refine g_iaI rfl (by decide) h5 (by omega) (by omega) (by omega) ?_
  rw [show (7 + (k : Int)).toNat = 0 + 7 + k by omega, (a4 k hk).2.1]
  exact g_reti rfl (rfl) rfl
end MR
end
section
/-! the reference: its chains -/
section MC
variable {S : ZS} {d : Nat} {M : ZM} {tr : Int64} {v wd hd ld nw : Nat → Int32} {W H L n : Nat} {hs lot : Int32} {kc : Nat → ZK}
theorem m_lastCell_l (h : m_Y M tr v wd hd ld nw W H L hs lot n kc) {k : Nat} (hk : k < n) : ∀ (m i c : Nat), i + m = (kc k).2.1 → q_pos W H (kc k).1 (kc k).2.2 i = some c → z_G S (d + 2) 123 11 [some (.ref 62), some (.int (zI (k : Int))), some (.int (zI (c : Int))), some (.int (zI (i : Int)))] [] M (some (.int (zI (k_last W H (kc k) : Int)))) M := by
  obtain ⟨⟨h1, h2, h3, h4, h5⟩, ⟨w1, w2, w3⟩, ⟨⟨hW1, hW2⟩, ⟨hH1, hH2⟩, ⟨hL1, hL2⟩, hn⟩, ⟨a1, a2, a3, a4⟩, hok⟩ := id h
  have hC := p_WH hW2 hH2
  have eC : (W : Int) * (H : Int) = ((W * H : Nat) : Int) := (Int.natCast_mul W H).symm
  have hkk := hok k hk
  obtain ⟨p1, p2, p3, p4⟩ := id hkk
  intro m
  induction m with
  | zero =>
    intro i c hi hc
    refine g_il rfl rfl ?_
    refine g_al rfl rfl ?_
    refine g_il rfl rfl ?_
    refine g_cv1 rfl rfl h1 rfl (by decide) rfl (m_steps h hk) ?_
    refine g_icT rfl (zcT3 ⟨by omega, by omega⟩ ⟨by omega, by omega⟩ (by omega)) ?_
    refine g_il rfl rfl ?_
    exact g_reti rfl (by rw [show k_last W H (kc k) = c by unfold k_last; rw [show (kc k).2.1 = i by omega, hc]; rfl]) rfl
  | succ m ih =>
    intro i c hi hc
    refine g_il rfl rfl ?_
    refine g_al rfl rfl ?_
    refine g_il rfl rfl ?_
    refine g_cv1 rfl rfl h1 rfl (by decide) rfl (m_steps h hk) ?_
    refine g_icF rfl (zcF3 ⟨by omega, by omega⟩ ⟨by omega, by omega⟩ (by omega)) ?_
    refine g_al rfl rfl ?_
    refine g_ic rfl ?_
    refine g_il rfl rfl ?_
    refine g_al rfl rfl ?_
    refine g_il rfl rfl ?_
    refine g_il rfl rfl ?_
    refine g_cv2 rfl rfl h1 rfl (by decide) rfl (m_stepIn h hk (j := i) (by omega)) ?_
    have hcl := q_lt p1 i c hc
    refine g_cv3 rfl rfl h1 rfl (by decide) rfl (m_off (e := 0) ⟨h1, h2, h3, h4, h5⟩ hW1 hW2 hH1 hH2 (by omega) w1 w2 hcl (p3 i (by omega))) ?_
    obtain ⟨c2, g1, g2⟩ := p4 (i + 1) (by omega)
    have g3 : p_off W H c ((kc k).2.2 i) = some c2 := by
      have : (match q_pos W H (kc k).1 (kc k).2.2 i with | some c => p_off W H c ((kc k).2.2 i) | none => none) = some c2 := g1
      rw [hc] at this
      exact this
    rw [g3]
    refine g_is2 rfl rfl ?_
    refine g_jj3 rfl rfl ?_
    refine g_goto rfl ?_
    exact ih (i + 1) c2 (by omega) g1
theorem m_lastCell (h : m_Y M tr v wd hd ld nw W H L hs lot n kc) {k : Nat} (hk : k < n) : z_C S (d + 2) 123 [.ref 62, .int (zI (k : Int))] M (some (.int (zI (k_last W H (kc k) : Int)))) M := by
  obtain ⟨⟨h1, h2, h3, h4, h5⟩, ⟨w1, w2, w3⟩, ⟨⟨hW1, hW2⟩, ⟨hH1, hH2⟩, ⟨hL1, hL2⟩, hn⟩, ⟨a1, a2, a3, a4⟩, hok⟩ := id h
  have hC := p_WH hW2 hH2
  have eC : (W : Int) * (H : Int) = ((W * H : Nat) : Int) := (Int.natCast_mul W H).symm
  have hkk := hok k hk
  obtain ⟨p1, p2, p3, p4⟩ := id hkk
  refine c_of rfl rfl (Nat.le_of_ble_eq_true rfl) ?_
  refine g_al rfl rfl ?_
  refine g_gf rfl h1 rfl rfl ?_
  refine g_ic rfl ?_
  refine g_il rfl rfl ?_
  refine g_addI rfl ?_
  refine g_iaI rfl (by decide) h5 (by omega) (by omega) (by omega) ?_
  rw [show (3 + (k : Int)).toNat = 0 + 3 + k by omega, (a4 k hk).1]
  refine g_is2 rfl rfl ?_
  refine g_ic rfl ?_
  refine g_is3 rfl rfl ?_
  exact m_lastCell_l h hk (kc k).2.1 0 (kc k).1 (by omega) rfl
theorem m_onChains_i (h : m_Y M tr v wd hd ld nw W H L hs lot n kc) {k : Nat} (hk : k < n) {r : Option Value} {M' : ZM} (x : Int32) (hx : ∀ (c i : Int32), z_G S (d + 2) 124 68 [some (.ref 62), some (.int (x ||| q_msk W H (kc k).1 (kc k).2.2 (kc k).2.1)), some (.int (zI (k : Int))), some (.int c), some (.int i)] [] M r M') : ∀ (m i c : Nat), i + m = (kc k).2.1 → q_pos W H (kc k).1 (kc k).2.2 i = some c → z_G S (d + 2) 124 32 [some (.ref 62), some (.int (x ||| q_msk W H (kc k).1 (kc k).2.2 i)), some (.int (zI (k : Int))), some (.int (zI (c : Int))), some (.int (zI (i : Int)))] [] M r M' := by
  obtain ⟨⟨h1, h2, h3, h4, h5⟩, ⟨w1, w2, w3⟩, ⟨⟨hW1, hW2⟩, ⟨hH1, hH2⟩, ⟨hL1, hL2⟩, hn⟩, ⟨a1, a2, a3, a4⟩, hok⟩ := id h
  have hC := p_WH hW2 hH2
  have eC : (W : Int) * (H : Int) = ((W * H : Nat) : Int) := (Int.natCast_mul W H).symm
  have hkk := hok k hk
  obtain ⟨p1, p2, p3, p4⟩ := id hkk
  intro m
  induction m with
  | zero =>
    intro i c hi hc
    refine g_il rfl rfl ?_
    refine g_al rfl rfl ?_
    refine g_il rfl rfl ?_
    refine g_cv1 rfl rfl h1 rfl (by decide) rfl (m_steps h hk) ?_
    refine g_icT rfl (zcT3 ⟨by omega, by omega⟩ ⟨by omega, by omega⟩ (by omega)) ?_
    rw [show i = (kc k).2.1 by omega]
    exact hx _ _
  | succ m ih =>
    intro i c hi hc
    refine g_il rfl rfl ?_
    refine g_al rfl rfl ?_
    refine g_il rfl rfl ?_
    refine g_cv1 rfl rfl h1 rfl (by decide) rfl (m_steps h hk) ?_
    refine g_icF rfl (zcF3 ⟨by omega, by omega⟩ ⟨by omega, by omega⟩ (by omega)) ?_
    refine g_al rfl rfl ?_
    refine g_ic rfl ?_
    refine g_il rfl rfl ?_
    refine g_al rfl rfl ?_
    refine g_il rfl rfl ?_
    refine g_il rfl rfl ?_
    refine g_cv2 rfl rfl h1 rfl (by decide) rfl (m_stepIn h hk (j := i) (by omega)) ?_
    have hcl := q_lt p1 i c hc
    refine g_cv3 rfl rfl h1 rfl (by decide) rfl (m_off (e := 0) ⟨h1, h2, h3, h4, h5⟩ hW1 hW2 hH1 hH2 (by omega) w1 w2 hcl (p3 i (by omega))) ?_
    obtain ⟨c2, g1, g2⟩ := p4 (i + 1) (by omega)
    have g3 : p_off W H c ((kc k).2.2 i) = some c2 := by
      have : (match q_pos W H (kc k).1 (kc k).2.2 i with | some c => p_off W H c ((kc k).2.2 i) | none => none) = some c2 := g1
      rw [hc] at this
      exact this
    rw [g3]
    refine g_is3 rfl rfl ?_
    refine g_il rfl rfl ?_
    refine g_ic rfl ?_
    refine g_il rfl rfl ?_
    refine g_ishl rfl ?_
    refine g_ior rfl ?_
    refine g_is1 rfl rfl ?_
    refine g_jj4 rfl rfl ?_
    refine g_goto rfl ?_
    have e9 := ih (i + 1) c2 (by omega) g1
    rw [show q_msk W H (kc k).1 (kc k).2.2 (i + 1) = q_msk W H (kc k).1 (kc k).2.2 i ||| (zI 1 <<< (zI (c2 : Int) &&& 31)) by show q_msk W H (kc k).1 (kc k).2.2 i ||| (zI 1 <<< (zI (oI (q_pos W H (kc k).1 (kc k).2.2 (i + 1)) 0) &&& 31)) = _; rw [g1]; rfl, ← Int32.or_assoc] at e9
    exact e9
theorem m_onChains_l (h : m_Y M tr v wd hd ld nw W H L hs lot n kc) : ∀ (m k : Nat) (u1 u2 : Option Value), k + m = n → z_G S (d + 2) 124 4 [some (.ref 62), some (.int (p_trod (fun k => q_msk W H (kc k).1 (kc k).2.2 (kc k).2.1) k)), some (.int (zI (k : Int))), u1, u2] [] M (some (.int (p_trod (fun k => q_msk W H (kc k).1 (kc k).2.2 (kc k).2.1) n))) M := by
  obtain ⟨⟨h1, h2, h3, h4, h5⟩, ⟨w1, w2, w3⟩, ⟨⟨hW1, hW2⟩, ⟨hH1, hH2⟩, ⟨hL1, hL2⟩, hn⟩, ⟨a1, a2, a3, a4⟩, hok⟩ := id h
  have hC := p_WH hW2 hH2
  have eC : (W : Int) * (H : Int) = ((W * H : Nat) : Int) := (Int.natCast_mul W H).symm
  intro m
  induction m with
  | zero =>
    intro k u1 u2 hk0
    refine g_il rfl rfl ?_
    refine g_al rfl rfl ?_
    refine g_gf rfl h1 rfl rfl ?_
    refine g_ic rfl ?_
    refine g_iaI rfl (by decide) h5 (by omega) (by omega) (by omega) ?_
    rw [show nw (Int.toNat 1) = zI (n : Int) from a2]
    refine g_icT rfl (zcT3 ⟨by omega, by omega⟩ ⟨by omega, by omega⟩ (by omega)) ?_
    refine g_il rfl rfl ?_
    exact g_reti rfl (by rw [show k = n by omega]) rfl
  | succ m ih =>
    intro k u1 u2 hk0
    refine g_il rfl rfl ?_
    refine g_al rfl rfl ?_
    refine g_gf rfl h1 rfl rfl ?_
    refine g_ic rfl ?_
    refine g_iaI rfl (by decide) h5 (by omega) (by omega) (by omega) ?_
    rw [show nw (Int.toNat 1) = zI (n : Int) from a2]
    refine g_icF rfl (zcF3 ⟨by omega, by omega⟩ ⟨by omega, by omega⟩ (by omega)) ?_
    refine g_al rfl rfl ?_
    refine g_gf rfl h1 rfl rfl ?_
    refine g_ic rfl ?_
    refine g_il rfl rfl ?_
    refine g_addI rfl ?_
    refine g_iaI rfl (by decide) h5 (by omega) (by omega) (by omega) ?_
    have hk : k < n := by omega
    have p1 := (hok k hk).1
    rw [show (3 + (k : Int)).toNat = 0 + 3 + k by omega, (a4 k hk).1]
    refine g_is3 rfl rfl ?_
    refine g_il rfl rfl ?_
    refine g_ic rfl ?_
    refine g_il rfl rfl ?_
    refine g_ishl rfl ?_
    refine g_ior rfl ?_
    refine g_is1 rfl rfl ?_
    refine g_ic rfl ?_
    refine g_is4 rfl rfl ?_
    refine m_onChains_i h hk (p_trod (fun k => q_msk W H (kc k).1 (kc k).2.2 (kc k).2.1) k) (fun c i => ?_) (kc k).2.1 0 (kc k).1 (by omega) rfl
    refine g_jj2 rfl rfl ?_
    refine g_goto rfl ?_
    exact ih (k + 1) (some (.int c)) (some (.int i)) (by omega)
theorem m_onChains (h : m_Y M tr v wd hd ld nw W H L hs lot n kc) : z_C S (d + 2) 124 [.ref 62] M (some (.int (p_trod (fun k => q_msk W H (kc k).1 (kc k).2.2 (kc k).2.1) n))) M := by
  obtain ⟨⟨h1, h2, h3, h4, h5⟩, ⟨w1, w2, w3⟩, ⟨⟨hW1, hW2⟩, ⟨hH1, hH2⟩, ⟨hL1, hL2⟩, hn⟩, ⟨a1, a2, a3, a4⟩, hok⟩ := id h
  have hC := p_WH hW2 hH2
  have eC : (W : Int) * (H : Int) = ((W * H : Nat) : Int) := (Int.natCast_mul W H).symm
  refine c_of rfl rfl (Nat.le_of_ble_eq_true rfl) ?_
  refine g_ic rfl ?_
  refine g_is1 rfl rfl ?_
  refine g_ic rfl ?_
  refine g_is2 rfl rfl ?_
  exact m_onChains_l h n 0 none none (by omega)
theorem m_runAt_l (h : m_Y M tr v wd hd ld nw W H L hs lot n kc) {k : Nat} (hk : k < n) {i : Nat} (hi : i < (kc k).2.1) : ∀ (j t : Nat), t + j = i + 1 → z_G S (d + 1) 126 2 [some (.ref 62), some (.int (zI (k : Int))), some (.int (zI (i : Int))), some (.int (zI (t : Int)))] [] M (some (.int (zI ((t + p_back (kc k).2.2 ((kc k).2.2 i) j : Nat) : Int)))) M := by
  obtain ⟨⟨h1, h2, h3, h4, h5⟩, ⟨w1, w2, w3⟩, ⟨⟨hW1, hW2⟩, ⟨hH1, hH2⟩, ⟨hL1, hL2⟩, hn⟩, ⟨a1, a2, a3, a4⟩, hok⟩ := id h
  have hC := p_WH hW2 hH2
  have eC : (W : Int) * (H : Int) = ((W * H : Nat) : Int) := (Int.natCast_mul W H).symm
  have hkk := hok k hk
  obtain ⟨p1, p2, p3, p4⟩ := id hkk
  intro j
  induction j with
  | zero =>
    intro t ht
    refine g_il rfl rfl ?_
    refine g_il rfl rfl ?_
    refine g_icT rfl (zcT4 ⟨by omega, by omega⟩ ⟨by omega, by omega⟩ (by omega)) ?_
    refine g_il rfl rfl ?_
    exact g_reti rfl (by rw [show p_back (kc k).2.2 ((kc k).2.2 i) 0 = 0 from rfl, Nat.add_zero]) rfl
  | succ j ih =>
    intro t ht
    refine g_il rfl rfl ?_
    refine g_il rfl rfl ?_
    refine g_icF rfl (zcF4 ⟨by omega, by omega⟩ ⟨by omega, by omega⟩ (by omega)) ?_
    refine g_al rfl rfl ?_
    refine g_il rfl rfl ?_
    refine g_il rfl rfl ?_
    refine g_il rfl rfl ?_
    refine g_subI rfl ?_
    rw [show (i : Int) - (t : Int) = (j : Int) by omega]
    refine g_cv2 rfl rfl h1 rfl (by decide) rfl (m_stepIn h hk (j := j) (by omega)) ?_
    refine g_al rfl rfl ?_
    refine g_il rfl rfl ?_
    refine g_il rfl rfl ?_
    refine g_cv2 rfl rfl h1 rfl (by decide) rfl (m_stepIn h hk (j := i) hi) ?_
    have e1 := p3 j (by omega)
    have e2 := p3 i hi
    by_cases he : (kc k).2.2 j = (kc k).2.2 i
    · refine g_icF rfl (zcF1 (he)) ?_
      refine g_jj3 rfl rfl ?_
      refine g_goto rfl ?_
      have e3 := ih (t + 1) (by omega)
      have e4 : p_back (kc k).2.2 ((kc k).2.2 i) (j + 1) = p_back (kc k).2.2 ((kc k).2.2 i) j + 1 := by
        conv => lhs; unfold p_back
        exact if_pos he
      rw [e4, show t + (p_back (kc k).2.2 ((kc k).2.2 i) j + 1) = t + 1 + p_back (kc k).2.2 ((kc k).2.2 i) j by omega]
      exact e3
    · refine g_icT rfl (zcT1 ⟨by omega, by omega⟩ ⟨by omega, by omega⟩ (he)) ?_
      refine g_il rfl rfl ?_
      have e4 : p_back (kc k).2.2 ((kc k).2.2 i) (j + 1) = 0 := by
        conv => lhs; unfold p_back
        exact if_neg he
      rw [e4, Nat.add_zero]
      exact g_reti rfl (rfl) rfl
theorem m_runAt (h : m_Y M tr v wd hd ld nw W H L hs lot n kc) {k : Nat} (hk : k < n) {i : Nat} (hi : i < (kc k).2.1) : z_C S (d + 1) 126 [.ref 62, .int (zI (k : Int)), .int (zI (i : Int))] M (some (.int (zI (p_run (kc k).2.2 i : Int)))) M := by
  obtain ⟨⟨h1, h2, h3, h4, h5⟩, ⟨w1, w2, w3⟩, ⟨⟨hW1, hW2⟩, ⟨hH1, hH2⟩, ⟨hL1, hL2⟩, hn⟩, ⟨a1, a2, a3, a4⟩, hok⟩ := id h
  have hC := p_WH hW2 hH2
  have eC : (W : Int) * (H : Int) = ((W * H : Nat) : Int) := (Int.natCast_mul W H).symm
  have hkk := hok k hk
  obtain ⟨p1, p2, p3, p4⟩ := id hkk
  refine c_of rfl rfl (Nat.le_of_ble_eq_true rfl) ?_
  refine g_ic rfl ?_
  refine g_is3 rfl rfl ?_
  have e1 := m_runAt_l (S := S) (d := d) h hk hi i 1 (by omega)
  rw [show 1 + p_back (kc k).2.2 ((kc k).2.2 i) i = p_run (kc k).2.2 i by unfold p_run; omega] at e1
  exact e1
theorem m_longest_l (h : m_Y M tr v wd hd ld nw W H L hs lot n kc) {k : Nat} (hk : k < n) : ∀ (m i : Nat), i + m = (kc k).2.1 → z_G S (d + 2) 127 4 [some (.ref 62), some (.int (zI (k : Int))), some (.int (zI (p_long (kc k).2.2 i : Int))), some (.int (zI (i : Int)))] [] M (some (.int (zI (p_long (kc k).2.2 (kc k).2.1 : Int)))) M := by
  obtain ⟨⟨h1, h2, h3, h4, h5⟩, ⟨w1, w2, w3⟩, ⟨⟨hW1, hW2⟩, ⟨hH1, hH2⟩, ⟨hL1, hL2⟩, hn⟩, ⟨a1, a2, a3, a4⟩, hok⟩ := id h
  have hC := p_WH hW2 hH2
  have eC : (W : Int) * (H : Int) = ((W * H : Nat) : Int) := (Int.natCast_mul W H).symm
  have hkk := hok k hk
  obtain ⟨p1, p2, p3, p4⟩ := id hkk
  intro m
  induction m with
  | zero =>
    intro i hi
    refine g_il rfl rfl ?_
    refine g_al rfl rfl ?_
    refine g_il rfl rfl ?_
    refine g_cv1 rfl rfl h1 rfl (by decide) rfl (m_steps h hk) ?_
    refine g_icT rfl (zcT3 ⟨by omega, by omega⟩ ⟨by omega, by omega⟩ (by omega)) ?_
    refine g_il rfl rfl ?_
    exact g_reti rfl (by rw [show i = (kc k).2.1 by omega]) rfl
  | succ m ih =>
    intro i hi
    refine g_il rfl rfl ?_
    refine g_al rfl rfl ?_
    refine g_il rfl rfl ?_
    refine g_cv1 rfl rfl h1 rfl (by decide) rfl (m_steps h hk) ?_
    refine g_icF rfl (zcF3 ⟨by omega, by omega⟩ ⟨by omega, by omega⟩ (by omega)) ?_
    refine g_al rfl rfl ?_
    refine g_il rfl rfl ?_
    refine g_il rfl rfl ?_
    refine g_cv2 rfl rfl h1 rfl (by decide) rfl (m_runAt h hk (i := i) (by omega)) ?_
    refine g_il rfl rfl ?_
    have e4 := p_run_le (kc k).2.2 i
    have e5 := p_long_le (kc k).2.2 i
    have e3 := ih (i + 1) (by omega)
    have e6 : p_long (kc k).2.2 (i + 1) = max (p_long (kc k).2.2 i) (p_run (kc k).2.2 i) := rfl
    by_cases hg : p_long (kc k).2.2 i < p_run (kc k).2.2 i
    · refine g_icF rfl (zcF5 ⟨by omega, by omega⟩ ⟨by omega, by omega⟩ (by omega)) ?_
      refine g_al rfl rfl ?_
      refine g_il rfl rfl ?_
      refine g_il rfl rfl ?_
      refine g_cv2 rfl rfl h1 rfl (by decide) rfl (m_runAt h hk (i := i) (by omega)) ?_
      refine g_goto rfl ?_
      refine g_is2 rfl rfl ?_
      refine g_jj3 rfl rfl ?_
      refine g_goto rfl ?_
      rw [show p_long (kc k).2.2 (i + 1) = p_run (kc k).2.2 i by omega] at e3
      exact e3
    · refine g_icT rfl (zcT5 ⟨by omega, by omega⟩ ⟨by omega, by omega⟩ (by omega)) ?_
      refine g_il rfl rfl ?_
      refine g_is2 rfl rfl ?_
      refine g_jj3 rfl rfl ?_
      refine g_goto rfl ?_
      rw [show p_long (kc k).2.2 (i + 1) = p_long (kc k).2.2 i by omega] at e3
      exact e3
theorem m_longest (h : m_Y M tr v wd hd ld nw W H L hs lot n kc) {k : Nat} (hk : k < n) : z_C S (d + 2) 127 [.ref 62, .int (zI (k : Int))] M (some (.int (zI (p_long (kc k).2.2 (kc k).2.1 : Int)))) M := by
  obtain ⟨⟨h1, h2, h3, h4, h5⟩, ⟨w1, w2, w3⟩, ⟨⟨hW1, hW2⟩, ⟨hH1, hH2⟩, ⟨hL1, hL2⟩, hn⟩, ⟨a1, a2, a3, a4⟩, hok⟩ := id h
  have hC := p_WH hW2 hH2
  have eC : (W : Int) * (H : Int) = ((W * H : Nat) : Int) := (Int.natCast_mul W H).symm
  have hkk := hok k hk
  obtain ⟨p1, p2, p3, p4⟩ := id hkk
  refine c_of rfl rfl (Nat.le_of_ble_eq_true rfl) ?_
  refine g_ic rfl ?_
  refine g_is2 rfl rfl ?_
  refine g_ic rfl ?_
  refine g_is3 rfl rfl ?_
  exact m_longest_l h hk (kc k).2.1 0 (by omega)
theorem m_straightOf_l (h : m_Y M tr v wd hd ld nw W H L hs lot n kc) {k : Nat} (hk : k < n) : ∀ (m i : Nat), i + m = (kc k).2.1 → z_G S (d + 2) 130 2 [some (.ref 62), some (.int (zI (k : Int))), some (.int (zI (i : Int)))] [] M (some (.int (zI (p_strF (kc k).2.2 L (kc k).2.1 m i)))) M := by
  obtain ⟨⟨h1, h2, h3, h4, h5⟩, ⟨w1, w2, w3⟩, ⟨⟨hW1, hW2⟩, ⟨hH1, hH2⟩, ⟨hL1, hL2⟩, hn⟩, ⟨a1, a2, a3, a4⟩, hok⟩ := id h
  have hC := p_WH hW2 hH2
  have eC : (W : Int) * (H : Int) = ((W * H : Nat) : Int) := (Int.natCast_mul W H).symm
  have hkk := hok k hk
  obtain ⟨p1, p2, p3, p4⟩ := id hkk
  intro m
  induction m with
  | zero =>
    intro i hi
    refine g_il rfl rfl ?_
    refine g_al rfl rfl ?_
    refine g_il rfl rfl ?_
    refine g_cv1 rfl rfl h1 rfl (by decide) rfl (m_steps h hk) ?_
    refine g_icT rfl (zcT3 ⟨by omega, by omega⟩ ⟨by omega, by omega⟩ (by omega)) ?_
    refine g_ic rfl ?_
    exact g_reti rfl (rfl) rfl
  | succ m ih =>
    intro i hi
    refine g_il rfl rfl ?_
    refine g_al rfl rfl ?_
    refine g_il rfl rfl ?_
    refine g_cv1 rfl rfl h1 rfl (by decide) rfl (m_steps h hk) ?_
    refine g_icF rfl (zcF3 ⟨by omega, by omega⟩ ⟨by omega, by omega⟩ (by omega)) ?_
    refine g_al rfl rfl ?_
    refine g_il rfl rfl ?_
    refine g_il rfl rfl ?_
    refine g_cv2 rfl rfl h1 rfl (by decide) rfl (m_runAt h hk (i := i) (by omega)) ?_
    refine g_al rfl rfl ?_
    refine g_gf rfl h1 rfl rfl ?_
    refine g_ic rfl ?_
    refine g_iaI rfl (by decide) h4 (by omega) (by omega) (by omega) ?_
    rw [show ld (Int.toNat 0) = zI (L : Int) from w3]
    have e4 := p_run_le (kc k).2.2 i
    by_cases hg : L < p_run (kc k).2.2 i
    · refine g_icF rfl (zcF5 ⟨by omega, by omega⟩ ⟨by omega, by omega⟩ (by omega)) ?_
      refine g_il rfl rfl ?_
      exact g_reti rfl (by rw [show p_strF (kc k).2.2 L (kc k).2.1 (m + 1) i = (i : Int) by conv => lhs; unfold p_strF; rw [if_pos (show i < (kc k).2.1 by omega), if_pos hg]]) rfl
    · refine g_icT rfl (zcT5 ⟨by omega, by omega⟩ ⟨by omega, by omega⟩ (by omega)) ?_
      refine g_jj2 rfl rfl ?_
      refine g_goto rfl ?_
      rw [show p_strF (kc k).2.2 L (kc k).2.1 (m + 1) i = p_strF (kc k).2.2 L (kc k).2.1 m (i + 1) by conv => lhs; unfold p_strF; rw [if_pos (show i < (kc k).2.1 by omega), if_neg hg]]
      exact ih (i + 1) (by omega)
theorem m_straightOf (h : m_Y M tr v wd hd ld nw W H L hs lot n kc) {k : Nat} (hk : k < n) : z_C S (d + 2) 130 [.ref 62, .int (zI (k : Int))] M (some (.int (zI (p_str (kc k).2.2 L (kc k).2.1)))) M := by
  obtain ⟨⟨h1, h2, h3, h4, h5⟩, ⟨w1, w2, w3⟩, ⟨⟨hW1, hW2⟩, ⟨hH1, hH2⟩, ⟨hL1, hL2⟩, hn⟩, ⟨a1, a2, a3, a4⟩, hok⟩ := id h
  have hC := p_WH hW2 hH2
  have eC : (W : Int) * (H : Int) = ((W * H : Nat) : Int) := (Int.natCast_mul W H).symm
  have hkk := hok k hk
  obtain ⟨p1, p2, p3, p4⟩ := id hkk
  refine c_of rfl rfl (Nat.le_of_ble_eq_true rfl) ?_
  refine g_ic rfl ?_
  refine g_is2 rfl rfl ?_
  exact m_straightOf_l h hk (kc k).2.1 0 (by omega)
theorem m_firstRun_l (h : m_Y M tr v wd hd ld nw W H L hs lot n kc) {k : Nat} (hk : k < n) : ∀ (m t : Nat), (kc k).2.1 + 1 ≤ m + t ∧ t ≤ (kc k).2.1 → z_G S (d + 1) 132 2 [some (.ref 62), some (.int (zI (k : Int))), some (.int (zI (t : Int)))] [] M (some (.int (zI (p_fr (kc k).2.2 (kc k).2.1 m t : Int)))) M := by
  obtain ⟨⟨h1, h2, h3, h4, h5⟩, ⟨w1, w2, w3⟩, ⟨⟨hW1, hW2⟩, ⟨hH1, hH2⟩, ⟨hL1, hL2⟩, hn⟩, ⟨a1, a2, a3, a4⟩, hok⟩ := id h
  have hC := p_WH hW2 hH2
  have eC : (W : Int) * (H : Int) = ((W * H : Nat) : Int) := (Int.natCast_mul W H).symm
  have hkk := hok k hk
  obtain ⟨p1, p2, p3, p4⟩ := id hkk
  intro m
  induction m with
  | zero => intro t ht; omega
  | succ m ih =>
    intro t ht
    refine g_il rfl rfl ?_
    refine g_al rfl rfl ?_
    refine g_il rfl rfl ?_
    refine g_cv1 rfl rfl h1 rfl (by decide) rfl (m_steps h hk) ?_
    by_cases hg : t < (kc k).2.1
    · refine g_icF rfl (zcF3 ⟨by omega, by omega⟩ ⟨by omega, by omega⟩ (by omega)) ?_
      refine g_al rfl rfl ?_
      refine g_il rfl rfl ?_
      refine g_il rfl rfl ?_
      refine g_cv2 rfl rfl h1 rfl (by decide) rfl (m_stepIn h hk (j := t) hg) ?_
      refine g_al rfl rfl ?_
      refine g_il rfl rfl ?_
      refine g_ic rfl ?_
      refine g_cv2 rfl rfl h1 rfl (by decide) rfl (m_stepIn h hk (j := 0) (by omega)) ?_
      have e1 := p3 t hg
      have e2 := p3 0 (by omega)
      by_cases he : (kc k).2.2 t = (kc k).2.2 0
      · refine g_icF rfl (zcF1 (he)) ?_
        refine g_jj2 rfl rfl ?_
        refine g_goto rfl ?_
        rw [show p_fr (kc k).2.2 (kc k).2.1 (m + 1) t = p_fr (kc k).2.2 (kc k).2.1 m (t + 1) by conv => lhs; unfold p_fr; rw [if_pos ⟨hg, he⟩]]
        exact ih (t + 1) (by omega)
      · refine g_icT rfl (zcT1 ⟨by omega, by omega⟩ ⟨by omega, by omega⟩ (he)) ?_
        refine g_il rfl rfl ?_
        exact g_reti rfl (by rw [show p_fr (kc k).2.2 (kc k).2.1 (m + 1) t = t by conv => lhs; unfold p_fr; rw [if_neg (fun g => he g.2)]]) rfl
    · refine g_icT rfl (zcT3 ⟨by omega, by omega⟩ ⟨by omega, by omega⟩ (by omega)) ?_
      refine g_il rfl rfl ?_
      exact g_reti rfl (by rw [show p_fr (kc k).2.2 (kc k).2.1 (m + 1) t = t by conv => lhs; unfold p_fr; rw [if_neg (fun g => hg g.1)]]) rfl
theorem m_firstRun (h : m_Y M tr v wd hd ld nw W H L hs lot n kc) {k : Nat} (hk : k < n) : z_C S (d + 1) 132 [.ref 62, .int (zI (k : Int))] M (some (.int (zI (p_first (kc k).2.2 (kc k).2.1 : Int)))) M := by
  obtain ⟨⟨h1, h2, h3, h4, h5⟩, ⟨w1, w2, w3⟩, ⟨⟨hW1, hW2⟩, ⟨hH1, hH2⟩, ⟨hL1, hL2⟩, hn⟩, ⟨a1, a2, a3, a4⟩, hok⟩ := id h
  have hC := p_WH hW2 hH2
  have eC : (W : Int) * (H : Int) = ((W * H : Nat) : Int) := (Int.natCast_mul W H).symm
  have hkk := hok k hk
  obtain ⟨p1, p2, p3, p4⟩ := id hkk
  refine c_of rfl rfl (Nat.le_of_ble_eq_true rfl) ?_
  refine g_ic rfl ?_
  refine g_is2 rfl rfl ?_
  exact m_firstRun_l h hk (kc k).2.1 1 (by omega)
theorem m_isJoint (h : m_Y M tr v wd hd ld nw W H L hs lot n kc) {k : Nat} (hk : k < n) {j : Nat} (hj : j < n) : z_C S (d + 3) 133 [.ref 62, .int (zI (k : Int)), .int (zI (j : Int))] M (some (.int (zI (if p_join (k_last W H (kc k) : Int) (kc k).2.2 (kc k).2.1 ((kc j).1 : Int) (kc j).2.2 (kc j).2.1 L = true then 1 else 0)))) M := by
  obtain ⟨⟨h1, h2, h3, h4, h5⟩, ⟨w1, w2, w3⟩, ⟨⟨hW1, hW2⟩, ⟨hH1, hH2⟩, ⟨hL1, hL2⟩, hn⟩, ⟨a1, a2, a3, a4⟩, hok⟩ := id h
  have hC := p_WH hW2 hH2
  have eC : (W : Int) * (H : Int) = ((W * H : Nat) : Int) := (Int.natCast_mul W H).symm
  have hkk := hok k hk
  obtain ⟨p1, p2, p3, p4⟩ := id hkk
  obtain ⟨r1, r2, r3, r4⟩ := hok j hj
  have hla : k_last W H (kc k) < W * H := by
    obtain ⟨c, g1, -⟩ := p4 (kc k).2.1 (Nat.le_refl _)
    unfold k_last
    rw [g1]
    exact q_lt p1 _ _ g1
  refine c_of rfl rfl (Nat.le_of_ble_eq_true rfl) ?_
  refine g_al rfl rfl ?_
  refine g_il rfl rfl ?_
  refine g_cv1 rfl rfl h1 rfl (by decide) rfl (m_steps h hk) ?_
  refine g_ic rfl ?_
  refine g_subI rfl ?_
  refine g_is3 rfl rfl ?_
  refine g_al rfl rfl ?_
  refine g_il rfl rfl ?_
  rw [show ((kc k).2.1 : Int) - 1 = (((kc k).2.1 - 1 : Nat) : Int) by omega]
  refine g_cv1 rfl rfl h1 rfl (by decide) rfl (m_lastCell h hk) ?_
  refine g_al rfl rfl ?_
  refine g_gf rfl h1 rfl rfl ?_
  refine g_ic rfl ?_
  refine g_il rfl rfl ?_
  refine g_addI rfl ?_
  refine g_iaI rfl (by decide) h5 (by omega) (by omega) (by omega) ?_
  rw [show (3 + (j : Int)).toNat = 0 + 3 + j by omega, (a4 j hj).1]
  by_cases g1 : (k_last W H (kc k) : Int) = ((kc j).1 : Int)
  · refine g_icF rfl (zcF1 (g1)) ?_
    refine g_al rfl rfl ?_
    refine g_il rfl rfl ?_
    refine g_il rfl rfl ?_
    refine g_cv2 rfl rfl h1 rfl (by decide) rfl (m_stepIn h hk (j := (kc k).2.1 - 1) (by omega)) ?_
    refine g_al rfl rfl ?_
    refine g_il rfl rfl ?_
    refine g_ic rfl ?_
    refine g_cv2 rfl rfl h1 rfl (by decide) rfl (m_stepIn h hj (j := 0) (by omega)) ?_
    have e1 := p3 ((kc k).2.1 - 1) (by omega)
    have e2 := r3 0 (by omega)
    by_cases g2 : (kc k).2.2 ((kc k).2.1 - 1) = (kc j).2.2 0
    · refine g_icF rfl (zcF1 (g2)) ?_
      refine g_al rfl rfl ?_
      refine g_il rfl rfl ?_
      refine g_il rfl rfl ?_
      refine g_cv2 rfl rfl h1 rfl (by decide) rfl (m_runAt h hk (i := (kc k).2.1 - 1) (by omega)) ?_
      refine g_al rfl rfl ?_
      refine g_il rfl rfl ?_
      refine g_cv1 rfl rfl h1 rfl (by decide) rfl (m_firstRun h hj) ?_
      refine g_addI rfl ?_
      refine g_al rfl rfl ?_
      refine g_gf rfl h1 rfl rfl ?_
      refine g_ic rfl ?_
      refine g_iaI rfl (by decide) h4 (by omega) (by omega) (by omega) ?_
      rw [show ld (Int.toNat 0) = zI (L : Int) from w3]
      have e3 := p_run_le (kc k).2.2 ((kc k).2.1 - 1)
      have e4 := p_fr_le (kc j).2.2 (kc j).2.1 (kc j).2.1 1
      have e5 : p_first (kc j).2.2 (kc j).2.1 ≤ 12 := by unfold p_first; omega
      by_cases g3 : L < p_run (kc k).2.2 ((kc k).2.1 - 1) + p_first (kc j).2.2 (kc j).2.1
      · refine g_icF rfl (zcF5 ⟨by omega, by omega⟩ ⟨by omega, by omega⟩ (by omega)) ?_
        refine g_ic rfl ?_
        refine g_goto rfl ?_
        exact g_reti rfl (by unfold p_join; rw [decide_eq_true g1, decide_eq_true g2, decide_eq_true g3]; rfl) rfl
      · refine g_icT rfl (zcT5 ⟨by omega, by omega⟩ ⟨by omega, by omega⟩ (by omega)) ?_
        refine g_ic rfl ?_
        exact g_reti rfl (by unfold p_join; rw [decide_eq_true g1, decide_eq_true g2, decide_eq_false g3]; rfl) rfl
    · refine g_icT rfl (zcT1 ⟨by omega, by omega⟩ ⟨by omega, by omega⟩ (g2)) ?_
      refine g_ic rfl ?_
      exact g_reti rfl (by unfold p_join; rw [decide_eq_true g1, decide_eq_false g2]; rfl) rfl
  · refine g_icT rfl (zcT1 ⟨by omega, by omega⟩ ⟨by omega, by omega⟩ (g1)) ?_
    refine g_ic rfl ?_
    exact g_reti rfl (by unfold p_join; rw [decide_eq_false g1]; rfl) rfl
theorem m_openNow (h : m_Y M tr v wd hd ld nw W H L hs lot n kc) : z_C S (d + 3) 142 [.ref 62] M (some (.int (p_open W H hs (p_trod (fun k => q_msk W H (kc k).1 (kc k).2.2 (kc k).2.1) n)))) M := by
  obtain ⟨⟨h1, h2, h3, h4, h5⟩, ⟨w1, w2, w3⟩, ⟨⟨hW1, hW2⟩, ⟨hH1, hH2⟩, ⟨hL1, hL2⟩, hn⟩, ⟨a1, a2, a3, a4⟩, hok⟩ := id h
  have hC := p_WH hW2 hH2
  have eC : (W : Int) * (H : Int) = ((W * H : Nat) : Int) := (Int.natCast_mul W H).symm
  refine c_of rfl rfl (Nat.le_of_ble_eq_true rfl) ?_
  refine g_ic rfl ?_
  refine g_al rfl rfl ?_
  refine g_cv0 rfl rfl h1 rfl (by decide) rfl (m_cells h) ?_
  refine g_ishl rfl ?_
  refine g_ic rfl ?_
  refine g_isub rfl ?_
  refine g_al rfl rfl ?_
  refine g_gf rfl h1 rfl rfl ?_
  refine g_ic rfl ?_
  refine g_iaI rfl (by decide) h5 (by omega) (by omega) (by omega) ?_
  rw [show nw (Int.toNat 0) = hs from a1]
  refine g_ic rfl ?_
  refine g_ixor rfl ?_
  refine g_iand rfl ?_
  refine g_al rfl rfl ?_
  refine g_cv0 rfl rfl h1 rfl (by decide) rfl (m_onChains h) ?_
  refine g_ic rfl ?_
  refine g_ixor rfl ?_
  refine g_iand rfl ?_
  exact g_reti rfl (rfl) rfl
end MC
end
section
/-! THE WHOLE STATE as a value: the text, the yard, the images, the trace; and how either side holds it (the class in the cells below 62, the reference from 62 on) -/
/-- houses, the lot, how many chains, the chains -/
abbrev ZB : Type := Int32 × Int32 × Nat × (Nat → ZK)
/-- ((bytes, text), (W, H, L), what images keep, the two images, the trace) -/
abbrev ZT : Type := (Nat × (Nat → Int32)) × (Nat × Nat × Nat) × ZB × (Nat → Option ZB) × Int64
def x_R (M : ZM) (T : Nat) (tx : Nat → Int32) : Prop := T ≤ 200 ∧ (∃ i1 i2 i6 i7 i8 : Int32, M[11]? = some (.inl (1, [.int (zI (T : Int)), .int i1, .int i2, .ref 13, .ref 12, .ref 23, .int i6, .int i7, .int i8]))) ∧ (∃ g : Nat → Int32, M[12]? = some (.inr (1, 200, .inl g)) ∧ ∀ j, j < T → g j = tx j) ∧ (∃ v, k_o M 13 v) ∧ (∃ ch, k_R M 13 ch) ∧ ∃ r, k_c M 23 r
def x_W (M : ZM) : Prop := (∃ i1 i2 : Int32, M[25]? = some (.inl (3, [.ref 26, .int i1, .int i2, .ref 27, .ref 28, .ref 29, .ref 30, .ref 31, .ref 32]))) ∧ (∃ f : Nat → Int32, M[26]? = some (.inr (0, 60, .inl f))) ∧ (∃ f : Nat → Int32, M[27]? = some (.inr (0, 100, .inl f))) ∧ (∃ f : Nat → Int32, M[28]? = some (.inr (0, 325, .inl f))) ∧ (∃ f : Nat → Int32, M[29]? = some (.inr (0, 325, .inl f))) ∧ (∃ f : Nat → Int64, M[30]? = some (.inr (3, 325, .inr (.inl f)))) ∧ (∃ f : Nat → Int64, M[31]? = some (.inr (3, 325, .inr (.inl f)))) ∧ ∃ f : Nat → Int32, M[32]? = some (.inr (0, 4225, .inl f))
def x_V (M : ZM) : Prop := (∃ i3 i4 i5 i6 i7 i9 : Int32, M[33]? = some (.inl (4, [.ref 34, .ref 35, .ref 36, .int i3, .int i4, .int i5, .int i6, .int i7, .ref 37, .int i9]))) ∧ (∃ f : Nat → Int32, M[34]? = some (.inr (0, 30, .inl f))) ∧ (∃ f : Nat → Int32, M[35]? = some (.inr (0, 30, .inl f))) ∧ (∃ f : Nat → Int32, M[36]? = some (.inr (0, 3, .inl f))) ∧ ∃ f : Nat → Int32, M[37]? = some (.inr (0, 40, .inl f))
def x_G (M : ZM) (W H L : Nat) (im : Nat → Option ZB) : Prop := (∃ f : Nat → Option Nat, M[40]? = some (.inr (5, 2, .inr (.inr f))) ∧ f 0 = some 41 ∧ f 1 = some 51) ∧ (∃ kf : Nat → Int32, M[61]? = some (.inr (2, 2, .inl kf)) ∧ ∀ i, i < 2 → kf i = zI (if (im i).isSome = true then 1 else 0)) ∧ ∀ i, i < 2 → (∃ v, k_o M (41 + 10 * i) v) ∧ (∃ ch, k_R M (41 + 10 * i) ch) ∧ ∀ b, im i = some b → k_A M (41 + 10 * i) W H L b.1 b.2.1 b.2.2.1 b.2.2.2
/-- the class holds this state -/
def X_I (M : ZM) (A : ZT) : Prop := 78 ≤ M.length ∧ M[0]? = some (.inl (5, [.ref 1, .ref 11, .ref 25, .ref 33, .ref 38, .ref 40, .ref 61, .long A.2.2.2.2])) ∧ k_A M 1 A.2.1.1 A.2.1.2.1 A.2.1.2.2 A.2.2.1.1 A.2.2.1.2.1 A.2.2.1.2.2.1 A.2.2.1.2.2.2 ∧ x_R M A.1.1 A.1.2 ∧ x_W M ∧ x_V M ∧ (∃ r, k_c M 38 r) ∧ x_G M A.2.1.1 A.2.1.2.1 A.2.1.2.2 A.2.2.2.1
/-- the reference's rows that hold nothing between calls -/
def y_W (M : ZM) : Prop := (∃ f : Nat → Int32, M[69]? = some (.inr (0, 325, .inl f))) ∧ (∃ f : Nat → Int64, M[70]? = some (.inr (3, 325, .inr (.inl f)))) ∧ (∃ f : Nat → Int64, M[71]? = some (.inr (3, 325, .inr (.inl f)))) ∧ (∃ f : Nat → Int32, M[72]? = some (.inr (0, 4225, .inl f))) ∧ (∃ f : Nat → Int32, M[73]? = some (.inr (0, 60, .inl f))) ∧ (∃ f : Nat → Int32, M[74]? = some (.inr (0, 60, .inl f))) ∧ (∃ f : Nat → Int32, M[75]? = some (.inr (0, 60, .inl f))) ∧ (∃ f : Nat → Int32, M[76]? = some (.inr (0, 3, .inl f))) ∧ ∃ f : Nat → Int32, M[77]? = some (.inr (0, 12, .inl f))
/-- the reference holds this state -/
def Y_I (M : ZM) (A : ZT) : Prop := 78 ≤ M.length ∧ ∃ v wd hd ld nw : Nat → Int32, m_Y M A.2.2.2.2 v wd hd ld nw A.2.1.1 A.2.1.2.1 A.2.1.2.2 A.2.2.1.1 A.2.2.1.2.1 A.2.2.1.2.2.1 A.2.2.1.2.2.2 ∧ v 2 = zI (A.1.1 : Int) ∧ A.1.1 ≤ 200 ∧ (∃ g : Nat → Int32, M[63]? = some (.inr (1, 200, .inl g)) ∧ ∀ j, j < A.1.1 → g j = A.1.2 j) ∧ (∃ kf : Nat → Int32, M[68]? = some (.inr (2, 2, .inl kf)) ∧ ∀ i, i < 2 → kf i = zI (if (A.2.2.2.1 i).isSome = true then 1 else 0)) ∧ (∀ i, i < 2 → ∀ b, A.2.2.2.1 i = some b → m_A nw (59 * (2 + i)) b.1 b.2.1 b.2.2.1 b.2.2.2 ∧ b.2.2.1 ≤ 4 ∧ ∀ k, k < b.2.2.1 → p_ok A.2.1.1 A.2.1.2.1 b.1 (b.2.2.2 k)) ∧ y_W M
theorem k_O.ev {M M' : ZM} {P : Nat → Prop} {a W H L n : Nat} {hs lot : Int32} (e : z_ev M M' P) (h0 : ¬ P a) (h : k_O M a W H L hs n lot) : k_O M' a W H L hs n lot := ⟨(e.2 _ h0).trans h.1, h.2⟩
theorem k_A.ev {M M' : ZM} {P : Nat → Prop} {a W H L n : Nat} {hs lot : Int32} {kc : Nat → ZK} (e : z_ev M M' P) (h0 : ∀ k, a ≤ k → k < a + 10 → ¬ P k) (h : k_A M a W H L hs lot n kc) : k_A M' a W H L hs lot n kc := by
  obtain ⟨h1, h2, ch, h3, h4⟩ := h
  exact ⟨h1, h2.ev e (h0 _ (by omega) (by omega)), ch, h3.eqv e h0, h4⟩
theorem k_o.ev {M M' : ZM} {P : Nat → Prop} {a : Nat} {v : Nat → Int32} (e : z_ev M M' P) (h0 : ¬ P a) (h : k_o M a v) : k_o M' a v := (e.2 _ h0).trans h
theorem x_R.ev {M M' : ZM} {P : Nat → Prop} {T : Nat} {tx : Nat → Int32} (e : z_ev M M' P) (h0 : ∀ k, 11 ≤ k → k < 25 → ¬ P k) (h : x_R M T tx) : x_R M' T tx := by
  obtain ⟨h1, ⟨a1, a2, a3, a4, a5, h2⟩, ⟨g, h3, h4⟩, ⟨v, h5⟩, ⟨ch, h6⟩, r, h7⟩ := h
  exact ⟨h1, ⟨a1, a2, a3, a4, a5, (e.2 _ (h0 _ (by decide) (by decide))).trans h2⟩, ⟨g, (e.2 _ (h0 _ (by decide) (by decide))).trans h3, h4⟩, ⟨v, h5.ev e (h0 _ (by decide) (by decide))⟩, ⟨ch, h6.eqv e (fun k g1 g2 => h0 k (by omega) (by omega))⟩, r, h7.eqv e (h0 _ (by decide) (by decide)) (h0 _ (by decide) (by decide))⟩
theorem x_W.ev {M M' : ZM} {P : Nat → Prop} (e : z_ev M M' P) (h0 : ∀ k, 25 ≤ k → k < 33 → ¬ P k) (h : x_W M) : x_W M' := by
  obtain ⟨⟨a1, a2, h1⟩, ⟨f2, h2⟩, ⟨f3, h3⟩, ⟨f4, h4⟩, ⟨f5, h5⟩, ⟨f6, h6⟩, ⟨f7, h7⟩, f8, h8⟩ := h
  have q : ∀ k, 25 ≤ k → k < 33 → M'[k]? = M[k]? := fun k g1 g2 => e.2 k (h0 k g1 g2)
  exact ⟨⟨a1, a2, (q _ (by decide) (by decide)).trans h1⟩, ⟨f2, (q _ (by decide) (by decide)).trans h2⟩, ⟨f3, (q _ (by decide) (by decide)).trans h3⟩, ⟨f4, (q _ (by decide) (by decide)).trans h4⟩, ⟨f5, (q _ (by decide) (by decide)).trans h5⟩, ⟨f6, (q _ (by decide) (by decide)).trans h6⟩, ⟨f7, (q _ (by decide) (by decide)).trans h7⟩, f8, (q _ (by decide) (by decide)).trans h8⟩
theorem x_V.ev {M M' : ZM} {P : Nat → Prop} (e : z_ev M M' P) (h0 : ∀ k, 33 ≤ k → k < 38 → ¬ P k) (h : x_V M) : x_V M' := by
  obtain ⟨⟨a1, a2, a3, a4, a5, a6, h1⟩, ⟨f2, h2⟩, ⟨f3, h3⟩, ⟨f4, h4⟩, f5, h5⟩ := h
  have q : ∀ k, 33 ≤ k → k < 38 → M'[k]? = M[k]? := fun k g1 g2 => e.2 k (h0 k g1 g2)
  exact ⟨⟨a1, a2, a3, a4, a5, a6, (q _ (by decide) (by decide)).trans h1⟩, ⟨f2, (q _ (by decide) (by decide)).trans h2⟩, ⟨f3, (q _ (by decide) (by decide)).trans h3⟩, ⟨f4, (q _ (by decide) (by decide)).trans h4⟩, f5, (q _ (by decide) (by decide)).trans h5⟩
theorem x_G.ev {M M' : ZM} {P : Nat → Prop} {W H L : Nat} {im : Nat → Option ZB} (e : z_ev M M' P) (h0 : ∀ k, 40 ≤ k → k < 62 → ¬ P k) (h : x_G M W H L im) : x_G M' W H L im := by
  obtain ⟨⟨f, h1, h2⟩, ⟨kf, h3, h4⟩, h5⟩ := h
  refine ⟨⟨f, (e.2 _ (h0 _ (by decide) (by decide))).trans h1, h2⟩, ⟨kf, (e.2 _ (h0 _ (by decide) (by decide))).trans h3, h4⟩, fun i hi => ?_⟩
  obtain ⟨⟨v, g1⟩, ⟨ch, g2⟩, g3⟩ := h5 i hi
  exact ⟨⟨v, g1.ev e (h0 _ (by omega) (by omega))⟩, ⟨ch, g2.eqv e (fun k x1 x2 => h0 k (by omega) (by omega))⟩, fun b hb => (g3 b hb).ev e (fun k x1 x2 => h0 k (by omega) (by omega))⟩
theorem X_I.ev {M M' : ZM} {P : Nat → Prop} {A : ZT} (e : z_ev M M' P) (h0 : ∀ k, k < 62 → ¬ P k) (h : X_I M A) : X_I M' A := by
  obtain ⟨h1, h2, h3, h4, h5, h6, ⟨r, h7⟩, h8⟩ := h
  exact ⟨by rw [e.1]; exact h1, (e.2 _ (h0 _ (by decide))).trans h2, h3.ev e (fun k g1 g2 => h0 k (by omega)), h4.ev e (fun k g1 g2 => h0 k (by omega)), h5.ev e (fun k g1 g2 => h0 k (by omega)), h6.ev e (fun k g1 g2 => h0 k (by omega)), ⟨r, h7.eqv e (h0 _ (by decide)) (h0 _ (by decide))⟩, h8.ev e (fun k g1 g2 => h0 k (by omega))⟩
theorem m_B.ev {M M' : ZM} {P : Nat → Prop} {tr : Int64} {v wd hd ld nw : Nat → Int32} (e : z_ev M M' P) (h0 : ∀ k, 62 ≤ k → k < 68 → ¬ P k) (h : m_B M tr v wd hd ld nw) : m_B M' tr v wd hd ld nw := by
  obtain ⟨h1, h2, h3, h4, h5⟩ := h
  have q : ∀ k, 62 ≤ k → k < 68 → M'[k]? = M[k]? := fun k g1 g2 => e.2 k (h0 k g1 g2)
  exact ⟨(q _ (by decide) (by decide)).trans h1, (q _ (by decide) (by decide)).trans h2, (q _ (by decide) (by decide)).trans h3, (q _ (by decide) (by decide)).trans h4, (q _ (by decide) (by decide)).trans h5⟩
theorem y_W.ev {M M' : ZM} {P : Nat → Prop} (e : z_ev M M' P) (h0 : ∀ k, 69 ≤ k → k < 78 → ¬ P k) (h : y_W M) : y_W M' := by
  obtain ⟨⟨f1, h1⟩, ⟨f2, h2⟩, ⟨f3, h3⟩, ⟨f4, h4⟩, ⟨f5, h5⟩, ⟨f6, h6⟩, ⟨f7, h7⟩, ⟨f8, h8⟩, f9, h9⟩ := h
  have q : ∀ k, 69 ≤ k → k < 78 → M'[k]? = M[k]? := fun k g1 g2 => e.2 k (h0 k g1 g2)
  exact ⟨⟨f1, (q _ (by decide) (by decide)).trans h1⟩, ⟨f2, (q _ (by decide) (by decide)).trans h2⟩, ⟨f3, (q _ (by decide) (by decide)).trans h3⟩, ⟨f4, (q _ (by decide) (by decide)).trans h4⟩, ⟨f5, (q _ (by decide) (by decide)).trans h5⟩, ⟨f6, (q _ (by decide) (by decide)).trans h6⟩, ⟨f7, (q _ (by decide) (by decide)).trans h7⟩, ⟨f8, (q _ (by decide) (by decide)).trans h8⟩, f9, (q _ (by decide) (by decide)).trans h9⟩
theorem Y_I.ev {M M' : ZM} {P : Nat → Prop} {A : ZT} (e : z_ev M M' P) (h0 : ∀ k, 62 ≤ k → ¬ P k) (h : Y_I M A) : Y_I M' A := by
  obtain ⟨h1, v, wd, hd, ld, nw, ⟨h2, h2b⟩, h3, h4, ⟨g, h5, h5b⟩, ⟨kf, h6, h6b⟩, h7, h8⟩ := h
  exact ⟨by rw [e.1]; exact h1, v, wd, hd, ld, nw, ⟨h2.ev e (fun k g1 g2 => h0 k (by omega)), h2b⟩, h3, h4, ⟨g, (e.2 _ (h0 _ (by decide))).trans h5, h5b⟩, ⟨kf, (e.2 _ (h0 _ (by decide))).trans h6, h6b⟩, h7, h8.ev e (fun k g1 g2 => h0 k (by omega))⟩
/-- a call of either side, as the law makes it: the answer and the state behind it -/
def z_Xc (S : ZS) (y : Nat) (as : List Value) (A : ZT) (r : Value) (A' : ZT) : Prop := ∀ (d : Nat) (M : ZM), X_I M A → ∃ M', z_C S (d + 20) y (.ref 0 :: as) M (some r) M' ∧ X_I M' A' ∧ z_ev M M' (fun k => k < 62)
def z_Yc (S : ZS) (y : Nat) (as : List Value) (A : ZT) (r : Value) (A' : ZT) : Prop := ∀ (d : Nat) (M : ZM), Y_I M A → ∃ M', z_C S (d + 20) y (.ref 62 :: as) M (some r) M' ∧ Y_I M' A' ∧ z_ev M M' (fun k => 62 ≤ k)
end
section
/-! calls that only read: what they answer, on either side -/
theorem p_trod_c {f g : Nat → Int32} : ∀ {n : Nat}, (∀ k, k < n → f k = g k) → p_trod f n = p_trod g n := by
  intro n
  induction n with
  | zero => intro _; rfl
  | succ n ih =>
    intro h
    show p_trod f n ||| f n = p_trod g n ||| g n
    rw [ih (fun k hk => h k (by omega)), h n (by omega)]
/-- the cells that chains begin on or come to -/
def v_trod (W H n : Nat) (kc : Nat → ZK) : Int32 := p_trod (fun k => q_msk W H (kc k).1 (kc k).2.2 (kc k).2.1) n
def v_cell (W H : Nat) (hs : Int32) (n : Nat) (kc : Nat → ZK) (c : Int) : Int := if 0 ≤ c ∧ c < ((W * H : Nat) : Int) then (if bt hs c.toNat = true then 1 else if bt (v_trod W H n kc) c.toNat = true then 2 else 0) else -1
def v_chain (W H n : Nat) (kc : Nat → ZK) (k w : Int) : Int := if 0 ≤ k ∧ k < (n : Int) then (if w = 0 then ((kc k.toNat).1 : Int) else if w = 1 then (k_last W H (kc k.toNat) : Int) else if w = 2 then ((kc k.toNat).2.1 : Int) else if w = 3 then (p_long (kc k.toNat).2.2 (kc k.toNat).2.1 : Int) else -1) else -1
def v_step (n : Nat) (kc : Nat → ZK) (k i : Int) : Int := if (0 ≤ k ∧ k < (n : Int)) ∧ 0 ≤ i then (if i < ((kc k.toNat).2.1 : Int) then (kc k.toNat).2.2 i.toNat else -5) else -1
def v_straight (L n : Nat) (kc : Nat → ZK) (k : Int) : Int := if 0 ≤ k ∧ k < (n : Int) then p_str (kc k.toNat).2.2 L (kc k.toNat).2.1 else -1
def v_joint (W H L n : Nat) (kc : Nat → ZK) (k j : Int) : Int := if (0 ≤ k ∧ k < (n : Int)) ∧ 0 ≤ j ∧ j < (n : Int) then (if p_join (k_last W H (kc k.toNat) : Int) (kc k.toNat).2.2 (kc k.toNat).2.1 ((kc j.toNat).1 : Int) (kc j.toNat).2.2 (kc j.toNat).2.1 L = true then 1 else 0) else -1
theorem k_last_lt {W H : Nat} {hs : Int32} {k : ZK} (h : p_ok W H hs k) : k_last W H k < W * H := by
  obtain ⟨c, g1, -⟩ := h.2.2.2 k.2.1 (Nat.le_refl _)
  unfold k_last
  rw [g1]
  exact q_lt h.1 _ _ g1
section PR
variable {S : ZS} {T : Nat} {tx : Nat → Int32} {W H L n : Nat} {hs lot : Int32} {kc : Nat → ZK} {im : Nat → Option ZB} {tr : Int64}
theorem x_cell {c : Int} (hc : z_sm c) : z_Xc S 73 [.int (zI c)] ((T, tx), (W, H, L), (hs, lot, n, kc), im, tr) (.int (zI (v_cell W H hs n kc c))) ((T, tx), (W, H, L), (hs, lot, n, kc), im, tr) := by
  intro d M hX
  obtain ⟨x1, x2, x3, x4, x5, x6, x7, x8⟩ := id hX
  have hA : k_A M 1 W H L hs lot n kc := x3
  obtain ⟨ha, hO, ch, hR, hk9⟩ := id hA
  obtain ⟨o1, ⟨hW1, hW2⟩, ⟨hH1, hH2⟩, ⟨hL1, hL2⟩, hn⟩ := id hO
  have hC := p_WH hW2 hH2
  have hTR : p_trod (fun k => (ch k).2.2.2.1) n = v_trod W H n kc := p_trod_c (fun k hk => (hk9 k hk).2.2.2.2.1)
  refine ⟨M, ?_, hX, .rf⟩
  refine c_of rfl rfl (Nat.le_of_ble_eq_true rfl) ?_
  refine g_al rfl rfl ?_
  refine g_gf rfl x2 rfl rfl ?_
  refine g_il rfl rfl ?_
  refine g_cv1 rfl rfl o1 rfl (by decide) rfl (c_has hO hc) ?_
  unfold v_cell
  by_cases h0 : 0 ≤ c ∧ c < ((W * H : Nat) : Int)
  · rw [if_pos h0, if_pos h0]
    refine g_ifT rfl (zcT1 ⟨by omega, by omega⟩ ⟨by omega, by omega⟩ (by decide)) ?_
    refine g_al rfl rfl ?_
    refine g_gf rfl x2 rfl rfl ?_
    refine g_il rfl rfl ?_
    refine g_cv1 rfl rfl o1 rfl (by decide) rfl (c_isHouse hO hc) ?_
    by_cases hb : bt hs c.toNat = true
    · rw [if_pos ⟨h0.1, h0.2, hb⟩, if_pos hb]
      refine g_ifF rfl (zcF0 ⟨by omega, by omega⟩ ⟨by omega, by omega⟩ (by decide)) ?_
      refine g_ic rfl ?_
      exact g_reti rfl (rfl) rfl
    · rw [if_neg (fun g => hb g.2.2), if_neg hb]
      refine g_ifT rfl (zcT0 (rfl)) ?_
      refine g_al rfl rfl ?_
      refine g_gf rfl x2 rfl rfl ?_
      refine g_il rfl rfl ?_
      refine g_cv1 rfl rfl o1 rfl (by decide) rfl (c_isTrodden hO hR hc) ?_
      rw [hTR]
      by_cases ht : bt (v_trod W H n kc) c.toNat = true
      · rw [if_pos ⟨h0.1, h0.2, ht⟩, if_pos ht]
        refine g_ifF rfl (zcF0 ⟨by omega, by omega⟩ ⟨by omega, by omega⟩ (by decide)) ?_
        refine g_ic rfl ?_
        refine g_goto rfl ?_
        exact g_reti rfl (rfl) rfl
      · rw [if_neg (fun g => ht g.2.2), if_neg ht]
        refine g_ifT rfl (zcT0 (rfl)) ?_
        refine g_ic rfl ?_
        exact g_reti rfl (rfl) rfl
  · rw [if_neg h0, if_neg h0]
    refine g_ifF rfl (zcF1 (rfl)) ?_
    refine g_ic rfl ?_
    exact g_reti rfl (rfl) rfl
theorem y_cell {c : Int} (hc : z_sm c) : z_Yc S 125 [.int (zI c)] ((T, tx), (W, H, L), (hs, lot, n, kc), im, tr) (.int (zI (v_cell W H hs n kc c))) ((T, tx), (W, H, L), (hs, lot, n, kc), im, tr) := by
  intro d M hY
  obtain ⟨y1, v, wd, hd, ld, nw, h, y3, y4, y5, y6, y7, y8⟩ := id hY
  have h : m_Y M tr v wd hd ld nw W H L hs lot n kc := h
  obtain ⟨⟨h1, h2, h3, h4, h5⟩, ⟨w1, w2, w3⟩, ⟨⟨hW1, hW2⟩, ⟨hH1, hH2⟩, ⟨hL1, hL2⟩, hn⟩, ⟨a1, a2, a3, a4⟩, hok⟩ := id h
  have hC := p_WH hW2 hH2
  refine ⟨M, ?_, hY, .rf⟩
  refine c_of rfl rfl (Nat.le_of_ble_eq_true rfl) ?_
  refine g_al rfl rfl ?_
  refine g_il rfl rfl ?_
  refine g_cv1 rfl rfl h1 rfl (by decide) rfl (m_isCell h hc) ?_
  unfold v_cell
  by_cases h0 : 0 ≤ c ∧ c < ((W * H : Nat) : Int)
  · rw [if_pos h0, if_pos h0]
    refine g_ifT rfl (zcT1 ⟨by omega, by omega⟩ ⟨by omega, by omega⟩ (by decide)) ?_
    refine g_al rfl rfl ?_
    refine g_il rfl rfl ?_
    obtain ⟨q, rfl⟩ : ∃ q : Nat, c = (q : Int) := ⟨c.toNat, by omega⟩
    rw [Int.toNat_natCast]
    refine g_cv1 rfl rfl h1 rfl (by decide) rfl (m_isHouse h (c := q) (by omega)) ?_
    by_cases hb : bt hs q = true
    · rw [if_pos hb, if_pos hb]
      refine g_ifF rfl (zcF0 ⟨by omega, by omega⟩ ⟨by omega, by omega⟩ (by decide)) ?_
      refine g_ic rfl ?_
      refine g_goto rfl ?_
      exact g_reti rfl (rfl) rfl
    · rw [if_neg hb, if_neg hb]
      refine g_ifT rfl (zcT0 (rfl)) ?_
      refine g_al rfl rfl ?_
      refine g_cv0 rfl rfl h1 rfl (by decide) rfl (m_onChains h) ?_
      refine g_il rfl rfl ?_
      refine g_ishr rfl ?_
      refine g_ic rfl ?_
      refine g_iand rfl ?_
      refine g_ic rfl ?_
      rw [show p_trod (fun k => q_msk W H (kc k).1 (kc k).2.2 (kc k).2.1) n = v_trod W H n kc from rfl, z_bit _ (c := q) (by omega)]
      by_cases ht : bt (v_trod W H n kc) q = true
      · rw [if_pos ht, if_pos ht]
        refine g_icF rfl (zcF1 (rfl)) ?_
        refine g_ic rfl ?_
        refine g_goto rfl ?_
        exact g_reti rfl (rfl) rfl
      · rw [if_neg ht, if_neg ht]
        refine g_icT rfl (zcT1 ⟨by omega, by omega⟩ ⟨by omega, by omega⟩ (by decide)) ?_
        refine g_ic rfl ?_
        exact g_reti rfl (rfl) rfl
  · rw [if_neg h0, if_neg h0]
    refine g_ifF rfl (zcF1 (rfl)) ?_
    refine g_ic rfl ?_
    refine g_goto rfl ?_
    exact g_reti rfl (rfl) rfl
theorem x_chain {k w : Int} (hk : z_sm k) (hw9 : z_sm w) : z_Xc S 74 [.int (zI k), .int (zI w)] ((T, tx), (W, H, L), (hs, lot, n, kc), im, tr) (.int (zI (v_chain W H n kc k w))) ((T, tx), (W, H, L), (hs, lot, n, kc), im, tr) := by
  intro d M hX
  obtain ⟨x1, x2, x3, x4, x5, x6, x7, x8⟩ := id hX
  have hA : k_A M 1 W H L hs lot n kc := x3
  obtain ⟨ha, hO, ch, hR, hk9⟩ := id hA
  obtain ⟨o1, ⟨hW1, hW2⟩, ⟨hH1, hH2⟩, ⟨hL1, hL2⟩, hn⟩ := id hO
  have hC := p_WH hW2 hH2
  refine ⟨M, ?_, hX, .rf⟩
  refine c_of rfl rfl (Nat.le_of_ble_eq_true rfl) ?_
  refine g_al rfl rfl ?_
  refine g_gf rfl x2 rfl rfl ?_
  refine g_il rfl rfl ?_
  unfold v_chain
  by_cases h0 : 0 ≤ k ∧ k < (n : Int)
  · rw [if_pos h0]
    refine g_cv1 rfl rfl o1 rfl (by decide) rfl (c_chainAt hO hR h0.1 h0.2) ?_
    obtain ⟨q, rfl⟩ : ∃ q : Nat, k = (q : Int) := ⟨k.toNat, by omega⟩
    obtain ⟨cs, g, hq⟩ := hA.chain (k := q) (by omega)
    obtain ⟨q1, q2, q3, q4, q5⟩ := id hq
    have hpk := (hk9 q (by omega)).1
    rw [Int.toNat_natCast]
    refine g_as3 rfl rfl ?_
    refine g_al rfl rfl ?_
    refine g_nnT rfl ?_
    refine g_il rfl rfl ?_
    rcases (show w = 0 ∨ w = 1 ∨ w = 2 ∨ w = 3 ∨ (w < 0 ∨ 3 < w) by omega) with hw | hw | hw | hw | hw
    · subst hw
      refine g_tsI rfl (by rw [zI_toInt ⟨by omega, by omega⟩]; omega) (v := 48) (by rw [zI_toInt ⟨by omega, by omega⟩]; rfl) ?_
      refine g_al rfl rfl ?_
      refine g_gf rfl q1 rfl rfl ?_
      exact g_reti rfl (by rfl) rfl
    · subst hw
      refine g_tsI rfl (by rw [zI_toInt ⟨by omega, by omega⟩]; omega) (v := 53) (by rw [zI_toInt ⟨by omega, by omega⟩]; rfl) ?_
      refine g_al rfl rfl ?_
      refine g_gf rfl q1 rfl rfl ?_
      exact g_reti rfl (by rfl) rfl
    · subst hw
      refine g_tsI rfl (by rw [zI_toInt ⟨by omega, by omega⟩]; omega) (v := 58) (by rw [zI_toInt ⟨by omega, by omega⟩]; rfl) ?_
      refine g_al rfl rfl ?_
      refine g_gf rfl q1 rfl rfl ?_
      exact g_reti rfl (by rfl) rfl
    · subst hw
      refine g_tsI rfl (by rw [zI_toInt ⟨by omega, by omega⟩]; omega) (v := 63) (by rw [zI_toInt ⟨by omega, by omega⟩]; rfl) ?_
      refine g_al rfl rfl ?_
      refine g_cv0 rfl rfl q1 rfl (by decide) rfl (c_longestRun hq) ?_
      exact g_reti rfl (by rfl) rfl
    · refine g_tsO rfl (by rw [zI_toInt hw9]; exact hw) ?_
      refine g_ic rfl ?_
      exact g_reti rfl (by rw [if_neg (by omega), if_neg (by omega), if_neg (by omega), if_neg (by omega)]) rfl
  · rw [if_neg h0]
    refine g_cv1 rfl rfl o1 rfl (by decide) rfl (c_chainAtN hO hR hk (by omega)) ?_
    refine g_an3 rfl rfl ?_
    refine g_aln rfl rfl ?_
    refine g_nnF rfl ?_
    refine g_ic rfl ?_
    exact g_reti rfl (rfl) rfl
theorem y_chain {k w : Int} (hk : z_sm k) (hw9 : z_sm w) : z_Yc S 128 [.int (zI k), .int (zI w)] ((T, tx), (W, H, L), (hs, lot, n, kc), im, tr) (.int (zI (v_chain W H n kc k w))) ((T, tx), (W, H, L), (hs, lot, n, kc), im, tr) := by
  intro d M hY
  obtain ⟨y1, v, wd, hd, ld, nw, h, y3, y4, y5, y6, y7, y8⟩ := id hY
  have h : m_Y M tr v wd hd ld nw W H L hs lot n kc := h
  obtain ⟨⟨h1, h2, h3, h4, h5⟩, ⟨w1, w2, w3⟩, ⟨⟨hW1, hW2⟩, ⟨hH1, hH2⟩, ⟨hL1, hL2⟩, hn⟩, ⟨a1, a2, a3, a4⟩, hok⟩ := id h
  have hC := p_WH hW2 hH2
  refine ⟨M, ?_, hY, .rf⟩
  refine c_of rfl rfl (Nat.le_of_ble_eq_true rfl) ?_
  refine g_al rfl rfl ?_
  refine g_il rfl rfl ?_
  refine g_cv1 rfl rfl h1 rfl (by decide) rfl (m_isChain h hk) ?_
  unfold v_chain
  by_cases h0 : 0 ≤ k ∧ k < (n : Int)
  · rw [if_pos h0, if_pos h0]
    refine g_ifF rfl (zcF0 ⟨by omega, by omega⟩ ⟨by omega, by omega⟩ (by decide)) ?_
    refine g_il rfl rfl ?_
    refine g_ic rfl ?_
    refine g_ic rfl ?_
    refine g_cs3 rfl rfl rfl rfl (m_in hw9 ⟨by omega, by omega⟩ ⟨by omega, by omega⟩) ?_
    obtain ⟨q, rfl⟩ : ∃ q : Nat, k = (q : Int) := ⟨k.toNat, by omega⟩
    have hq : q < n := by omega
    rw [Int.toNat_natCast]
    rcases (show w = 0 ∨ w = 1 ∨ w = 2 ∨ w = 3 ∨ (w < 0 ∨ 3 < w) by omega) with hw | hw | hw | hw | hw
    · subst hw
      refine g_ifT rfl (zcT1 ⟨by omega, by omega⟩ ⟨by omega, by omega⟩ (by decide)) ?_
      refine g_il rfl rfl ?_
      refine g_ifF rfl (zcF1 (rfl)) ?_
      refine g_al rfl rfl ?_
      refine g_gf rfl h1 rfl rfl ?_
      refine g_ic rfl ?_
      refine g_il rfl rfl ?_
      refine g_addI rfl ?_
      refine g_iaI rfl (by decide) h5 (by omega) (by omega) (by omega) ?_
      rw [show (3 + (q : Int)).toNat = 0 + 3 + q by omega, (a4 q hq).1]
      refine g_goto rfl ?_
      exact g_reti rfl (by rfl) rfl
    · subst hw
      refine g_ifT rfl (zcT1 ⟨by omega, by omega⟩ ⟨by omega, by omega⟩ (by decide)) ?_
      refine g_il rfl rfl ?_
      refine g_ifT rfl (zcT1 ⟨by omega, by omega⟩ ⟨by omega, by omega⟩ (by decide)) ?_
      refine g_il rfl rfl ?_
      refine g_ic rfl ?_
      refine g_icF rfl (zcF1 (rfl)) ?_
      refine g_al rfl rfl ?_
      refine g_il rfl rfl ?_
      refine g_cv1 rfl rfl h1 rfl (by decide) rfl (m_lastCell h hq) ?_
      refine g_goto rfl ?_
      exact g_reti rfl (by rfl) rfl
    · subst hw
      refine g_ifT rfl (zcT1 ⟨by omega, by omega⟩ ⟨by omega, by omega⟩ (by decide)) ?_
      refine g_il rfl rfl ?_
      refine g_ifT rfl (zcT1 ⟨by omega, by omega⟩ ⟨by omega, by omega⟩ (by decide)) ?_
      refine g_il rfl rfl ?_
      refine g_ic rfl ?_
      refine g_icT rfl (zcT1 ⟨by omega, by omega⟩ ⟨by omega, by omega⟩ (by decide)) ?_
      refine g_il rfl rfl ?_
      refine g_ic rfl ?_
      refine g_icF rfl (zcF1 (rfl)) ?_
      refine g_al rfl rfl ?_
      refine g_il rfl rfl ?_
      refine g_cv1 rfl rfl h1 rfl (by decide) rfl (m_steps h hq) ?_
      refine g_goto rfl ?_
      exact g_reti rfl (by rfl) rfl
    · subst hw
      refine g_ifT rfl (zcT1 ⟨by omega, by omega⟩ ⟨by omega, by omega⟩ (by decide)) ?_
      refine g_il rfl rfl ?_
      refine g_ifT rfl (zcT1 ⟨by omega, by omega⟩ ⟨by omega, by omega⟩ (by decide)) ?_
      refine g_il rfl rfl ?_
      refine g_ic rfl ?_
      refine g_icT rfl (zcT1 ⟨by omega, by omega⟩ ⟨by omega, by omega⟩ (by decide)) ?_
      refine g_il rfl rfl ?_
      refine g_ic rfl ?_
      refine g_icT rfl (zcT1 ⟨by omega, by omega⟩ ⟨by omega, by omega⟩ (by decide)) ?_
      refine g_al rfl rfl ?_
      refine g_il rfl rfl ?_
      refine g_cv1 rfl rfl h1 rfl (by decide) rfl (m_longest h hq) ?_
      exact g_reti rfl (by rfl) rfl
    · rw [if_neg (show ¬ (0 ≤ w ∧ w ≤ 3) by omega)]
      refine g_ifF rfl (zcF1 (rfl)) ?_
      refine g_ic rfl ?_
      exact g_reti rfl (by rw [if_neg (by omega), if_neg (by omega), if_neg (by omega), if_neg (by omega)]) rfl
  · rw [if_neg h0, if_neg h0]
    refine g_ifT rfl (zcT0 (rfl)) ?_
    refine g_ic rfl ?_
    exact g_reti rfl (rfl) rfl
theorem x_step {k i : Int} (hk : z_sm k) (hi9 : z_sm i) : z_Xc S 75 [.int (zI k), .int (zI i)] ((T, tx), (W, H, L), (hs, lot, n, kc), im, tr) (.int (zI (v_step n kc k i))) ((T, tx), (W, H, L), (hs, lot, n, kc), im, tr) := by
  intro d M hX
  obtain ⟨x1, x2, x3, x4, x5, x6, x7, x8⟩ := id hX
  have hA : k_A M 1 W H L hs lot n kc := x3
  obtain ⟨ha, hO, ch, hR, hk9⟩ := id hA
  obtain ⟨o1, ⟨hW1, hW2⟩, ⟨hH1, hH2⟩, ⟨hL1, hL2⟩, hn⟩ := id hO
  have hC := p_WH hW2 hH2
  refine ⟨M, ?_, hX, .rf⟩
  refine c_of rfl rfl (Nat.le_of_ble_eq_true rfl) ?_
  refine g_al rfl rfl ?_
  refine g_gf rfl x2 rfl rfl ?_
  refine g_il rfl rfl ?_
  unfold v_step
  by_cases h0 : 0 ≤ k ∧ k < (n : Int)
  · refine g_cv1 rfl rfl o1 rfl (by decide) rfl (c_chainAt hO hR h0.1 h0.2) ?_
    obtain ⟨q, rfl⟩ : ∃ q : Nat, k = (q : Int) := ⟨k.toNat, by omega⟩
    obtain ⟨cs, g, hq⟩ := hA.chain (k := q) (by omega)
    obtain ⟨q1, q2, q3, q4, q5⟩ := id hq
    have hpk := (hk9 q (by omega)).1
    rw [Int.toNat_natCast]
    refine g_as3 rfl rfl ?_
    refine g_al rfl rfl ?_
    refine g_nuF rfl ?_
    refine g_il rfl rfl ?_
    by_cases hi : 0 ≤ i
    · rw [if_pos ⟨h0, hi⟩]
      refine g_ifT rfl (zcT3 ⟨by omega, by omega⟩ ⟨by omega, by omega⟩ (by omega)) ?_
      refine g_il rfl rfl ?_
      refine g_al rfl rfl ?_
      refine g_gf rfl q1 rfl rfl ?_
      by_cases hl : i < ((kc q).2.1 : Int)
      · rw [if_pos hl]
        refine g_icF rfl (zcF3 ⟨by omega, by omega⟩ ⟨by omega, by omega⟩ (hl)) ?_
        refine g_al rfl rfl ?_
        refine g_il rfl rfl ?_
        refine g_cv1 rfl rfl q1 rfl (by decide) rfl (c_stepAt hq hi hl) ?_
        refine g_goto rfl ?_
        exact g_reti rfl (rfl) rfl
      · rw [if_neg hl]
        refine g_icT rfl (zcT3 ⟨by omega, by omega⟩ ⟨by omega, by omega⟩ (hl)) ?_
        refine g_ic rfl ?_
        exact g_reti rfl (rfl) rfl
    · rw [if_neg (fun g => hi g.2)]
      refine g_ifF rfl (zcF3 ⟨by omega, by omega⟩ ⟨by omega, by omega⟩ (by omega)) ?_
      refine g_ic rfl ?_
      exact g_reti rfl (rfl) rfl
  · rw [if_neg (fun g => h0 g.1)]
    refine g_cv1 rfl rfl o1 rfl (by decide) rfl (c_chainAtN hO hR hk (by omega)) ?_
    refine g_an3 rfl rfl ?_
    refine g_aln rfl rfl ?_
    refine g_nuT rfl ?_
    refine g_ic rfl ?_
    exact g_reti rfl (rfl) rfl
theorem y_step {k i : Int} (hk : z_sm k) (hi9 : z_sm i) : z_Yc S 129 [.int (zI k), .int (zI i)] ((T, tx), (W, H, L), (hs, lot, n, kc), im, tr) (.int (zI (v_step n kc k i))) ((T, tx), (W, H, L), (hs, lot, n, kc), im, tr) := by
  intro d M hY
  obtain ⟨y1, v, wd, hd, ld, nw, h, y3, y4, y5, y6, y7, y8⟩ := id hY
  have h : m_Y M tr v wd hd ld nw W H L hs lot n kc := h
  obtain ⟨⟨h1, h2, h3, h4, h5⟩, ⟨w1, w2, w3⟩, ⟨⟨hW1, hW2⟩, ⟨hH1, hH2⟩, ⟨hL1, hL2⟩, hn⟩, ⟨a1, a2, a3, a4⟩, hok⟩ := id h
  have hC := p_WH hW2 hH2
  refine ⟨M, ?_, hY, .rf⟩
  refine c_of rfl rfl (Nat.le_of_ble_eq_true rfl) ?_
  refine g_al rfl rfl ?_
  refine g_il rfl rfl ?_
  refine g_cv1 rfl rfl h1 rfl (by decide) rfl (m_isChain h hk) ?_
  unfold v_step
  by_cases h0 : 0 ≤ k ∧ k < (n : Int)
  · rw [if_pos h0]
    refine g_ifF rfl (zcF0 ⟨by omega, by omega⟩ ⟨by omega, by omega⟩ (by decide)) ?_
    refine g_il rfl rfl ?_
    obtain ⟨q, rfl⟩ : ∃ q : Nat, k = (q : Int) := ⟨k.toNat, by omega⟩
    have hq : q < n := by omega
    have hpk := hok q hq
    by_cases hi : 0 ≤ i
    · rw [if_pos ⟨h0, hi⟩, Int.toNat_natCast]
      obtain ⟨p1, p2, p3, p4⟩ := id hpk
      refine g_ifT rfl (zcT3 ⟨by omega, by omega⟩ ⟨by omega, by omega⟩ (by omega)) ?_
      refine g_il rfl rfl ?_
      refine g_al rfl rfl ?_
      refine g_il rfl rfl ?_
      refine g_cv1 rfl rfl h1 rfl (by decide) rfl (m_steps h hq) ?_
      by_cases hl : i < ((kc q).2.1 : Int)
      · rw [if_pos hl]
        refine g_icF rfl (zcF3 ⟨by omega, by omega⟩ ⟨by omega, by omega⟩ (hl)) ?_
        refine g_al rfl rfl ?_
        refine g_il rfl rfl ?_
        refine g_il rfl rfl ?_
        obtain ⟨j, rfl⟩ : ∃ j : Nat, i = (j : Int) := ⟨i.toNat, by omega⟩
        refine g_cv2 rfl rfl h1 rfl (by decide) rfl (m_stepIn h hq (j := j) (by omega)) ?_
        refine g_goto rfl ?_
        exact g_reti rfl (by rw [Int.toNat_natCast]) rfl
      · rw [if_neg hl]
        refine g_icT rfl (zcT3 ⟨by omega, by omega⟩ ⟨by omega, by omega⟩ (hl)) ?_
        refine g_ic rfl ?_
        exact g_reti rfl (rfl) rfl
    · rw [if_neg (fun g => hi g.2)]
      refine g_ifF rfl (zcF3 ⟨by omega, by omega⟩ ⟨by omega, by omega⟩ (by omega)) ?_
      refine g_ic rfl ?_
      exact g_reti rfl (rfl) rfl
  · rw [if_neg h0, if_neg (fun g => h0 g.1)]
    refine g_ifT rfl (zcT0 (rfl)) ?_
    refine g_ic rfl ?_
    exact g_reti rfl (rfl) rfl
theorem x_straight {k : Int} (hk : z_sm k) : z_Xc S 76 [.int (zI k)] ((T, tx), (W, H, L), (hs, lot, n, kc), im, tr) (.int (zI (v_straight L n kc k))) ((T, tx), (W, H, L), (hs, lot, n, kc), im, tr) := by
  intro d M hX
  obtain ⟨x1, x2, x3, x4, x5, x6, x7, x8⟩ := id hX
  have hA : k_A M 1 W H L hs lot n kc := x3
  obtain ⟨ha, hO, ch, hR, hk9⟩ := id hA
  obtain ⟨o1, ⟨hW1, hW2⟩, ⟨hH1, hH2⟩, ⟨hL1, hL2⟩, hn⟩ := id hO
  have hC := p_WH hW2 hH2
  refine ⟨M, ?_, hX, .rf⟩
  refine c_of rfl rfl (Nat.le_of_ble_eq_true rfl) ?_
  refine g_al rfl rfl ?_
  refine g_gf rfl x2 rfl rfl ?_
  refine g_il rfl rfl ?_
  unfold v_straight
  by_cases h0 : 0 ≤ k ∧ k < (n : Int)
  · rw [if_pos h0]
    refine g_cv1 rfl rfl o1 rfl (by decide) rfl (c_chainAt hO hR h0.1 h0.2) ?_
    obtain ⟨q, rfl⟩ : ∃ q : Nat, k = (q : Int) := ⟨k.toNat, by omega⟩
    obtain ⟨cs, g, hq⟩ := hA.chain (k := q) (by omega)
    obtain ⟨q1, q2, q3, q4, q5⟩ := id hq
    have hpk := (hk9 q (by omega)).1
    rw [Int.toNat_natCast]
    refine g_as2 rfl rfl ?_
    refine g_al rfl rfl ?_
    refine g_nnT rfl ?_
    refine g_al rfl rfl ?_
    refine g_al rfl rfl ?_
    refine g_gf rfl x2 rfl rfl ?_
    refine g_gf rfl o1 rfl rfl ?_
    refine g_cv1 rfl rfl q1 rfl (by decide) rfl (c_straightAt hq (by omega)) ?_
    exact g_reti rfl (by rfl) rfl
  · rw [if_neg h0]
    refine g_cv1 rfl rfl o1 rfl (by decide) rfl (c_chainAtN hO hR hk (by omega)) ?_
    refine g_an2 rfl rfl ?_
    refine g_aln rfl rfl ?_
    refine g_nnF rfl ?_
    refine g_ic rfl ?_
    refine g_goto rfl ?_
    exact g_reti rfl (rfl) rfl
theorem y_straight {k : Int} (hk : z_sm k) : z_Yc S 131 [.int (zI k)] ((T, tx), (W, H, L), (hs, lot, n, kc), im, tr) (.int (zI (v_straight L n kc k))) ((T, tx), (W, H, L), (hs, lot, n, kc), im, tr) := by
  intro d M hY
  obtain ⟨y1, v, wd, hd, ld, nw, h, y3, y4, y5, y6, y7, y8⟩ := id hY
  have h : m_Y M tr v wd hd ld nw W H L hs lot n kc := h
  obtain ⟨⟨h1, h2, h3, h4, h5⟩, ⟨w1, w2, w3⟩, ⟨⟨hW1, hW2⟩, ⟨hH1, hH2⟩, ⟨hL1, hL2⟩, hn⟩, ⟨a1, a2, a3, a4⟩, hok⟩ := id h
  have hC := p_WH hW2 hH2
  refine ⟨M, ?_, hY, .rf⟩
  refine c_of rfl rfl (Nat.le_of_ble_eq_true rfl) ?_
  refine g_al rfl rfl ?_
  refine g_il rfl rfl ?_
  refine g_cv1 rfl rfl h1 rfl (by decide) rfl (m_isChain h hk) ?_
  unfold v_straight
  by_cases h0 : 0 ≤ k ∧ k < (n : Int)
  · rw [if_pos h0, if_pos h0]
    refine g_ifF rfl (zcF0 ⟨by omega, by omega⟩ ⟨by omega, by omega⟩ (by decide)) ?_
    refine g_al rfl rfl ?_
    refine g_il rfl rfl ?_
    obtain ⟨q, rfl⟩ : ∃ q : Nat, k = (q : Int) := ⟨k.toNat, by omega⟩
    rw [Int.toNat_natCast]
    refine g_cv1 rfl rfl h1 rfl (by decide) rfl (m_straightOf h (k := q) (by omega)) ?_
    refine g_goto rfl ?_
    exact g_reti rfl (by rfl) rfl
  · rw [if_neg h0, if_neg h0]
    refine g_ifT rfl (zcT0 (rfl)) ?_
    refine g_ic rfl ?_
    exact g_reti rfl (rfl) rfl
theorem x_trace : z_Xc S 93 [] ((T, tx), (W, H, L), (hs, lot, n, kc), im, tr) (.long (tr)) ((T, tx), (W, H, L), (hs, lot, n, kc), im, tr) := by
  intro d M hX
  obtain ⟨x1, x2, x3, x4, x5, x6, x7, x8⟩ := id hX
  have hA : k_A M 1 W H L hs lot n kc := x3
  obtain ⟨ha, hO, ch, hR, hk9⟩ := id hA
  obtain ⟨o1, ⟨hW1, hW2⟩, ⟨hH1, hH2⟩, ⟨hL1, hL2⟩, hn⟩ := id hO
  have hC := p_WH hW2 hH2
  refine ⟨M, ?_, hX, .rf⟩
  refine c_of rfl rfl (Nat.le_of_ble_eq_true rfl) ?_
  refine g_al rfl rfl ?_
  refine g_gf rfl x2 rfl rfl ?_
  exact g_retl rfl (rfl) rfl
theorem y_trace : z_Yc S 164 [] ((T, tx), (W, H, L), (hs, lot, n, kc), im, tr) (.long (tr)) ((T, tx), (W, H, L), (hs, lot, n, kc), im, tr) := by
  intro d M hY
  obtain ⟨y1, v, wd, hd, ld, nw, h, y3, y4, y5, y6, y7, y8⟩ := id hY
  have h : m_Y M tr v wd hd ld nw W H L hs lot n kc := h
  obtain ⟨⟨h1, h2, h3, h4, h5⟩, ⟨w1, w2, w3⟩, ⟨⟨hW1, hW2⟩, ⟨hH1, hH2⟩, ⟨hL1, hL2⟩, hn⟩, ⟨a1, a2, a3, a4⟩, hok⟩ := id h
  have hC := p_WH hW2 hH2
  refine ⟨M, ?_, hY, .rf⟩
  refine c_of rfl rfl (Nat.le_of_ble_eq_true rfl) ?_
  refine g_al rfl rfl ?_
  refine g_gf rfl h1 rfl rfl ?_
  exact g_retl rfl (rfl) rfl
theorem x_joint {k j : Int} (hk : z_sm k) (hj : z_sm j) : z_Xc S 77 [.int (zI k), .int (zI j)] ((T, tx), (W, H, L), (hs, lot, n, kc), im, tr) (.int (zI (v_joint W H L n kc k j))) ((T, tx), (W, H, L), (hs, lot, n, kc), im, tr) := by
  intro d M hX
  obtain ⟨x1, x2, x3, x4, x5, x6, x7, x8⟩ := id hX
  have hA : k_A M 1 W H L hs lot n kc := x3
  obtain ⟨ha, hO, ch, hR, hk9⟩ := id hA
  obtain ⟨o1, ⟨hW1, hW2⟩, ⟨hH1, hH2⟩, ⟨hL1, hL2⟩, hn⟩ := id hO
  have hC := p_WH hW2 hH2
  refine ⟨M, ?_, hX, .rf⟩
  refine c_of rfl rfl (Nat.le_of_ble_eq_true rfl) ?_
  refine g_al rfl rfl ?_
  refine g_gf rfl x2 rfl rfl ?_
  refine g_il rfl rfl ?_
  unfold v_joint
  by_cases h0 : 0 ≤ k ∧ k < (n : Int)
  · refine g_cv1 rfl rfl o1 rfl (by decide) rfl (c_chainAt hO hR h0.1 h0.2) ?_
    obtain ⟨q, rfl⟩ : ∃ q : Nat, k = (q : Int) := ⟨k.toNat, by omega⟩
    obtain ⟨cs, g, hq⟩ := hA.chain (k := q) (by omega)
    obtain ⟨q1, q2, q3, q4, q5⟩ := id hq
    have hpk := (hk9 q (by omega)).1
    rw [Int.toNat_natCast]
    refine g_as3 rfl rfl ?_
    refine g_al rfl rfl ?_
    refine g_gf rfl x2 rfl rfl ?_
    refine g_il rfl rfl ?_
    by_cases hj0 : 0 ≤ j ∧ j < (n : Int)
    · rw [if_pos ⟨h0, hj0⟩]
      refine g_cv1 rfl rfl o1 rfl (by decide) rfl (c_chainAt hO hR hj0.1 hj0.2) ?_
      obtain ⟨p, rfl⟩ : ∃ p : Nat, j = (p : Int) := ⟨j.toNat, by omega⟩
      obtain ⟨cs2, g2, hp⟩ := hA.chain (k := p) (by omega)
      obtain ⟨r1, r2, r3, r4, r5⟩ := id hp
      have hpp := (hk9 p (by omega)).1
      have l1 := k_last_lt hpk
      have l2 := hpp.1
      rw [Int.toNat_natCast]
      refine g_as4 rfl rfl ?_
      refine g_al rfl rfl ?_
      refine g_nuF rfl ?_
      refine g_al rfl rfl ?_
      refine g_nnT rfl ?_
      refine g_al rfl rfl ?_
      refine g_al rfl rfl ?_
      refine g_al rfl rfl ?_
      refine g_gf rfl x2 rfl rfl ?_
      refine g_gf rfl o1 rfl rfl ?_
      refine g_cv2 rfl rfl q1 rfl (by decide) rfl (c_joins hq hp hpk.2.1.1 hpp.2.1.1 ⟨by omega, by omega⟩ ⟨by omega, by omega⟩ (by omega)) ?_
      by_cases hb : p_join (k_last W H (kc q) : Int) (kc q).2.2 (kc q).2.1 ((kc p).1 : Int) (kc p).2.2 (kc p).2.1 L = true
      · rw [if_pos hb]
        refine g_ifF rfl (zcF0 ⟨by omega, by omega⟩ ⟨by omega, by omega⟩ (by decide)) ?_
        refine g_ic rfl ?_
        refine g_goto rfl ?_
        exact g_reti rfl (rfl) rfl
      · rw [if_neg hb]
        refine g_ifT rfl (zcT0 (rfl)) ?_
        refine g_ic rfl ?_
        exact g_reti rfl (rfl) rfl
    · rw [if_neg (fun g => hj0 g.2)]
      refine g_cv1 rfl rfl o1 rfl (by decide) rfl (c_chainAtN hO hR hj (by omega)) ?_
      refine g_an4 rfl rfl ?_
      refine g_al rfl rfl ?_
      refine g_nuF rfl ?_
      refine g_aln rfl rfl ?_
      refine g_nnF rfl ?_
      refine g_ic rfl ?_
      exact g_reti rfl (rfl) rfl
  · rw [if_neg (fun g => h0 g.1)]
    refine g_cv1 rfl rfl o1 rfl (by decide) rfl (c_chainAtN hO hR hk (by omega)) ?_
    refine g_an3 rfl rfl ?_
    refine g_al rfl rfl ?_
    refine g_gf rfl x2 rfl rfl ?_
    refine g_il rfl rfl ?_
    by_cases hj0 : 0 ≤ j ∧ j < (n : Int)
    · refine g_cv1 rfl rfl o1 rfl (by decide) rfl (c_chainAt hO hR hj0.1 hj0.2) ?_
      refine g_as4 rfl rfl ?_
      refine g_aln rfl rfl ?_
      refine g_nuT rfl ?_
      refine g_ic rfl ?_
      exact g_reti rfl (rfl) rfl
    · refine g_cv1 rfl rfl o1 rfl (by decide) rfl (c_chainAtN hO hR hj (by omega)) ?_
      refine g_an4 rfl rfl ?_
      refine g_aln rfl rfl ?_
      refine g_nuT rfl ?_
      refine g_ic rfl ?_
      exact g_reti rfl (rfl) rfl
theorem y_joint {k j : Int} (hk : z_sm k) (hj : z_sm j) : z_Yc S 134 [.int (zI k), .int (zI j)] ((T, tx), (W, H, L), (hs, lot, n, kc), im, tr) (.int (zI (v_joint W H L n kc k j))) ((T, tx), (W, H, L), (hs, lot, n, kc), im, tr) := by
  intro d M hY
  obtain ⟨y1, v, wd, hd, ld, nw, h, y3, y4, y5, y6, y7, y8⟩ := id hY
  have h : m_Y M tr v wd hd ld nw W H L hs lot n kc := h
  obtain ⟨⟨h1, h2, h3, h4, h5⟩, ⟨w1, w2, w3⟩, ⟨⟨hW1, hW2⟩, ⟨hH1, hH2⟩, ⟨hL1, hL2⟩, hn⟩, ⟨a1, a2, a3, a4⟩, hok⟩ := id h
  have hC := p_WH hW2 hH2
  refine ⟨M, ?_, hY, .rf⟩
  refine c_of rfl rfl (Nat.le_of_ble_eq_true rfl) ?_
  refine g_al rfl rfl ?_
  refine g_il rfl rfl ?_
  refine g_cv1 rfl rfl h1 rfl (by decide) rfl (m_isChain h hk) ?_
  unfold v_joint
  by_cases h0 : 0 ≤ k ∧ k < (n : Int)
  · rw [if_pos h0]
    refine g_ifF rfl (zcF0 ⟨by omega, by omega⟩ ⟨by omega, by omega⟩ (by decide)) ?_
    refine g_al rfl rfl ?_
    refine g_il rfl rfl ?_
    refine g_cv1 rfl rfl h1 rfl (by decide) rfl (m_isChain h hj) ?_
    by_cases hj0 : 0 ≤ j ∧ j < (n : Int)
    · rw [if_pos hj0, if_pos ⟨h0, hj0⟩]
      refine g_ifF rfl (zcF0 ⟨by omega, by omega⟩ ⟨by omega, by omega⟩ (by decide)) ?_
      refine g_al rfl rfl ?_
      refine g_il rfl rfl ?_
      refine g_il rfl rfl ?_
      obtain ⟨q, rfl⟩ : ∃ q : Nat, k = (q : Int) := ⟨k.toNat, by omega⟩
      obtain ⟨p, rfl⟩ : ∃ p : Nat, j = (p : Int) := ⟨j.toNat, by omega⟩
      rw [Int.toNat_natCast, Int.toNat_natCast]
      refine g_cv2 rfl rfl h1 rfl (by decide) rfl (m_isJoint h (k := q) (by omega) (j := p) (by omega)) ?_
      by_cases hb : p_join (k_last W H (kc q) : Int) (kc q).2.2 (kc q).2.1 ((kc p).1 : Int) (kc p).2.2 (kc p).2.1 L = true
      · rw [if_pos hb]
        refine g_ifF rfl (zcF0 ⟨by omega, by omega⟩ ⟨by omega, by omega⟩ (by decide)) ?_
        refine g_ic rfl ?_
        refine g_goto rfl ?_
        exact g_reti rfl (rfl) rfl
      · rw [if_neg hb]
        refine g_ifT rfl (zcT0 (rfl)) ?_
        refine g_ic rfl ?_
        refine g_goto rfl ?_
        exact g_reti rfl (rfl) rfl
    · rw [if_neg hj0, if_neg (fun g => hj0 g.2)]
      refine g_ifT rfl (zcT0 (rfl)) ?_
      refine g_ic rfl ?_
      exact g_reti rfl (rfl) rfl
  · rw [if_neg h0, if_neg (fun g => h0 g.1)]
    refine g_ifT rfl (zcT0 (rfl)) ?_
    refine g_ic rfl ?_
    exact g_reti rfl (rfl) rfl
end PR
end
section
/-! small writes -/
theorem k_R.upd {M : ZM} {a x : Nat} {ch : Nat → ZCh} {c : ZE} (h : k_R M a ch) (h0 : x = a + 1 → False) (h1 : ∀ k, a + 2 ≤ k → k < a + 10 → x = k → False) : k_R (M.set x c) a ch := by
  obtain ⟨⟨cf, g1, g2⟩, g3⟩ := h
  exact ⟨⟨cf, z_gn (fun g => h0 g) g1, g2⟩, fun k hk => ⟨z_gn (fun g => h1 _ (by omega) (by omega) g) (g3 k hk).1, z_gn (fun g => h1 _ (by omega) (by omega) g) (g3 k hk).2⟩⟩
theorem k_A.cell {M : ZM} {a W H L n n' : Nat} {hs lot lot' : Int32} {kc : Nat → ZK} (h : k_A M a W H L hs lot n kc) (hn : n' ≤ n) : k_A (M.set a (.inl (2, [.int (zI (W : Int)), .int (zI (H : Int)), .int (zI (L : Int)), .int hs, .int (zI (n' : Int)), .int lot', .ref (a + 1)]))) a W H L hs lot' n' kc := by
  obtain ⟨h1, hO, ch, hR, hk⟩ := h
  obtain ⟨o1, o2, o3, o4, o5⟩ := hO
  exact ⟨h1, ⟨z_gs o1, o2, o3, o4, by omega⟩, ch, hR.upd (fun g => by omega) (fun k g1 g2 g3 => by omega), fun k hk' => hk k (by omega)⟩
theorem X_I.site {M M' : ZM} {T : Nat} {tx : Nat → Int32} {W H L : Nat} {b b' : ZB} {im : Nat → Option ZB} {tr : Int64} (e : z_ev M M' (fun k => 1 ≤ k ∧ k < 11)) (h : X_I M ((T, tx), (W, H, L), b, im, tr)) (hA : k_A M' 1 W H L b'.1 b'.2.1 b'.2.2.1 b'.2.2.2) : X_I M' ((T, tx), (W, H, L), b', im, tr) := by
  obtain ⟨h1, h2, h3, h4, h5, h6, ⟨r, h7⟩, h8⟩ := h
  exact ⟨by rw [e.1]; exact h1, (e.2 _ (by omega)).trans h2, hA, h4.ev e (fun k g1 g2 => by omega), h5.ev e (fun k g1 g2 => by omega), h6.ev e (fun k g1 g2 => by omega), ⟨r, h7.eqv e (by omega) (by omega)⟩, h8.ev e (fun k g1 g2 => by omega)⟩
theorem X_I.read {M M' : ZM} {T T' : Nat} {tx tx' : Nat → Int32} {Y : Nat × Nat × Nat} {b : ZB} {im : Nat → Option ZB} {tr : Int64} (e : z_ev M M' (fun k => 11 ≤ k ∧ k < 25)) (h : X_I M ((T, tx), Y, b, im, tr)) (hR : x_R M' T' tx') : X_I M' ((T', tx'), Y, b, im, tr) := by
  obtain ⟨h1, h2, h3, h4, h5, h6, ⟨r, h7⟩, h8⟩ := h
  exact ⟨by rw [e.1]; exact h1, (e.2 _ (by omega)).trans h2, h3.ev e (fun k g1 g2 => by omega), hR, h5.ev e (fun k g1 g2 => by omega), h6.ev e (fun k g1 g2 => by omega), ⟨r, h7.eqv e (by omega) (by omega)⟩, h8.ev e (fun k g1 g2 => by omega)⟩
theorem Y_I.now {M : ZM} {T : Nat} {tx : Nat → Int32} {W H L : Nat} {b b' : ZB} {im : Nat → Option ZB} {tr : Int64} {v wd hd ld nw nw' : Nat → Int32} (h : Y_I M ((T, tx), (W, H, L), b, im, tr)) (hB : m_B M tr v wd hd ld nw) (h9 : ∀ j, 118 ≤ j → nw' j = nw j) (hA : m_A nw' 0 b'.1 b'.2.1 b'.2.2.1 b'.2.2.2) (hn : b'.2.2.1 ≤ 4) (hok : ∀ k, k < b'.2.2.1 → p_ok W H b'.1 (b'.2.2.2 k)) : Y_I (M.set 67 (.inr (0, 236, .inl nw'))) ((T, tx), (W, H, L), b', im, tr) := by
  obtain ⟨h1, v2, wd2, hd2, ld2, nw2, ⟨⟨a1, a2, a3, a4, a5⟩, g2, ⟨g3, g4, g5, -⟩, -, -⟩, h3, h4, ⟨g, h5, h5b⟩, ⟨kf, h6, h6b⟩, h7, h8⟩ := h
  have e5 : nw2 = nw := by
    have := a5.symm.trans hB.2.2.2.2
    cases this
    rfl
  subst e5
  refine ⟨by rw [List.length_set]; exact h1, v2, wd2, hd2, ld2, nw', ⟨⟨z_gn (by decide) a1, z_gn (by decide) a2, z_gn (by decide) a3, z_gn (by decide) a4, z_gs a5⟩, g2, ⟨g3, g4, g5, hn⟩, hA, hok⟩, h3, h4, ⟨g, z_gn (by decide) h5, h5b⟩, ⟨kf, z_gn (by decide) h6, h6b⟩, fun i hi b hb => ?_, h8.ev (.set (P := fun k => k = 67) rfl) (fun k g1 g2 => by omega)⟩
  obtain ⟨⟨m1, m2, m3, m4⟩, q1, q2⟩ := h7 i hi b hb
  refine ⟨⟨(h9 _ (by omega)).trans m1, (h9 _ (by omega)).trans m2, (h9 _ (by omega)).trans m3, fun k hk => ⟨(h9 _ (by omega)).trans (m4 k hk).1, (h9 _ (by omega)).trans (m4 k hk).2.1, fun j hj => (h9 _ (by omega)).trans ((m4 k hk).2.2 j hj)⟩⟩, q1, q2⟩
section PW
variable {S : ZS} {T : Nat} {tx : Nat → Int32} {W H L n : Nat} {hs lot : Int32} {kc : Nat → ZK} {im : Nat → Option ZB} {tr : Int64}
theorem x_lot {x : Int32} : z_Xc S 84 [.int x] ((T, tx), (W, H, L), (hs, lot, n, kc), im, tr) (.int lot) ((T, tx), (W, H, L), (hs, x, n, kc), im, tr) := by
  intro d M hX
  obtain ⟨x1, x2, x3, x4, x5, x6, x7, x8⟩ := id hX
  have hA : k_A M 1 W H L hs lot n kc := x3
  obtain ⟨ha, hO, ch, hR, hk9⟩ := id hA
  obtain ⟨o1, ⟨hW1, hW2⟩, ⟨hH1, hH2⟩, ⟨hL1, hL2⟩, hn⟩ := id hO
  have hC := p_WH hW2 hH2
  refine ⟨_, ?_, hX.site (b' := (hs, x, n, kc)) (.set (by omega)) (hA.cell (lot' := x) (Nat.le_refl n)), .set (by omega)⟩
  refine c_of rfl rfl (Nat.le_of_ble_eq_true rfl) ?_
  refine g_al rfl rfl ?_
  refine g_gf rfl x2 rfl rfl ?_
  refine g_gf rfl o1 rfl rfl ?_
  refine g_is2 rfl rfl ?_
  refine g_al rfl rfl ?_
  refine g_gf rfl x2 rfl rfl ?_
  refine g_il rfl rfl ?_
  refine g_pf5 rfl o1 rfl rfl rfl (Or.inl rfl) ?_
  refine g_il rfl rfl ?_
  exact g_reti rfl (rfl) rfl
theorem y_lot {x : Int32} : z_Yc S 151 [.int x] ((T, tx), (W, H, L), (hs, lot, n, kc), im, tr) (.int lot) ((T, tx), (W, H, L), (hs, x, n, kc), im, tr) := by
  intro d M hY
  obtain ⟨y1, v, wd, hd, ld, nw, h, y3, y4, y5, y6, y7, y8⟩ := id hY
  have h : m_Y M tr v wd hd ld nw W H L hs lot n kc := h
  obtain ⟨⟨h1, h2, h3, h4, h5⟩, ⟨w1, w2, w3⟩, ⟨⟨hW1, hW2⟩, ⟨hH1, hH2⟩, ⟨hL1, hL2⟩, hn⟩, ⟨a1, a2, a3, a4⟩, hok⟩ := id h
  have hC := p_WH hW2 hH2
  refine ⟨_, ?_, hY.now (b' := (hs, x, n, kc)) (nw' := upd nw (Int.toNat 2) x) ⟨h1, h2, h3, h4, h5⟩ (fun j hj => pk_un (by show j ≠ 2; omega)) ⟨(pk_un (by decide)).trans a1, (pk_un (by decide)).trans a2, pk_us, fun k hk => ⟨(pk_un (by show _ ≠ 2; omega)).trans (a4 k hk).1, (pk_un (by show _ ≠ 2; omega)).trans (a4 k hk).2.1, fun j hj => (pk_un (by show _ ≠ 2; omega)).trans ((a4 k hk).2.2 j hj)⟩⟩ hn hok, .set (by omega)⟩
  refine c_of rfl rfl (Nat.le_of_ble_eq_true rfl) ?_
  refine g_al rfl rfl ?_
  refine g_gf rfl h1 rfl rfl ?_
  refine g_ic rfl ?_
  refine g_iaI rfl (by decide) h5 (by omega) (by omega) (by omega) ?_
  refine g_is2 rfl rfl ?_
  refine g_al rfl rfl ?_
  refine g_gf rfl h1 rfl rfl ?_
  refine g_ic rfl ?_
  refine g_il rfl rfl ?_
  refine g_iSI rfl h5 (by omega) (by omega) (by omega) ?_
  refine g_il rfl rfl ?_
  exact g_reti rfl (by rw [show nw (Int.toNat 2) = lot from a3]) rfl
theorem x_clear : z_Xc S 71 [] ((T, tx), (W, H, L), (hs, lot, n, kc), im, tr) (.int (zI (T : Int))) ((0, tx), (W, H, L), (hs, lot, n, kc), im, tr) := by
  intro d M hX
  obtain ⟨x1, x2, x3, x4, x5, x6, x7, x8⟩ := id hX
  have hA : k_A M 1 W H L hs lot n kc := x3
  obtain ⟨ha, hO, ch, hR, hk9⟩ := id hA
  obtain ⟨o1, ⟨hW1, hW2⟩, ⟨hH1, hH2⟩, ⟨hL1, hL2⟩, hn⟩ := id hO
  have hC := p_WH hW2 hH2
  obtain ⟨t1, ⟨i1, i2, i6, i7, i8, t2⟩, ⟨g, t3, t4⟩, ⟨vd, t5⟩, ⟨cd, t6⟩, rt, t7⟩ := id x4
  have e : z_ev M (M.set 11 (.inl (1, [.int (zI ((0 : Nat) : Int)), .int i1, .int i2, .ref 13, .ref 12, .ref 23, .int i6, .int i7, .int i8]))) (fun k => k = 11) := .set rfl
  refine ⟨_, ?_, hX.read (T' := 0) (tx' := tx) (e.wk (fun k g => by omega)) ⟨by omega, ⟨i1, i2, i6, i7, i8, z_gs t2⟩, ⟨g, z_gn (by decide) t3, fun j hj => by omega⟩, ⟨vd, t5.ev e (by decide)⟩, ⟨cd, t6.eqv e (fun k g1 g2 => by omega)⟩, rt, t7.eqv e (by decide) (by decide)⟩, e.wk (fun k g => by omega)⟩
  refine c_of rfl rfl (Nat.le_of_ble_eq_true rfl) ?_
  refine g_al rfl rfl ?_
  refine g_gf rfl x2 rfl rfl ?_
  refine g_gf rfl t2 rfl rfl ?_
  refine g_is1 rfl rfl ?_
  refine g_al rfl rfl ?_
  refine g_gf rfl x2 rfl rfl ?_
  refine g_ic rfl ?_
  refine g_pf0 rfl t2 rfl rfl rfl (Or.inl rfl) ?_
  refine g_il rfl rfl ?_
  exact g_reti rfl (rfl) rfl
theorem y_clear : z_Yc S 104 [] ((T, tx), (W, H, L), (hs, lot, n, kc), im, tr) (.int (zI (T : Int))) ((0, tx), (W, H, L), (hs, lot, n, kc), im, tr) := by
  intro d M hY
  obtain ⟨y1, v, wd, hd, ld, nw, h, y3, y4, y5, y6, y7, y8⟩ := id hY
  have h : m_Y M tr v wd hd ld nw W H L hs lot n kc := h
  obtain ⟨⟨h1, h2, h3, h4, h5⟩, ⟨w1, w2, w3⟩, ⟨⟨hW1, hW2⟩, ⟨hH1, hH2⟩, ⟨hL1, hL2⟩, hn⟩, ⟨a1, a2, a3, a4⟩, hok⟩ := id h
  have hC := p_WH hW2 hH2
  obtain ⟨g, g1, g2⟩ := y5
  obtain ⟨kf, k1, k2⟩ := y6
  refine ⟨_, ?_, ⟨by rw [List.length_set]; exact y1, (fun k => if k = 2 then zI ((0 : Nat) : Int) else v k), wd, hd, ld, nw, ⟨⟨z_gs h1, z_gn (by decide) h2, z_gn (by decide) h3, z_gn (by decide) h4, z_gn (by decide) h5⟩, ⟨w1, w2, w3⟩, ⟨⟨hW1, hW2⟩, ⟨hH1, hH2⟩, ⟨hL1, hL2⟩, hn⟩, ⟨a1, a2, a3, a4⟩, hok⟩, rfl, by show 0 ≤ 200; omega, ⟨g, z_gn (by decide) g1, fun j hj => absurd hj (Nat.not_lt_zero j)⟩, ⟨kf, z_gn (by decide) k1, k2⟩, y7, y8.ev (.set (P := fun k => k = 62) rfl) (fun k g1 g2 => by omega)⟩, .set (by omega)⟩
  refine c_of rfl rfl (Nat.le_of_ble_eq_true rfl) ?_
  refine g_al rfl rfl ?_
  refine g_gf rfl h1 rfl rfl ?_
  refine g_is1 rfl rfl ?_
  refine g_al rfl rfl ?_
  refine g_ic rfl ?_
  refine g_pf2 rfl h1 rfl rfl rfl (Or.inl rfl) ?_
  refine g_il rfl rfl ?_
  exact g_reti rfl (by rw [y3]) rfl
def v_close (n : Nat) : Int := if n = 0 then -2 else ((n - 1 : Nat) : Int)
theorem x_close : z_Xc S 88 [] ((T, tx), (W, H, L), (hs, lot, n, kc), im, tr) (.int (zI (v_close n))) ((T, tx), (W, H, L), (hs, lot, n - 1, kc), im, tr) := by
  intro d M hX
  obtain ⟨x1, x2, x3, x4, x5, x6, x7, x8⟩ := id hX
  have hA : k_A M 1 W H L hs lot n kc := x3
  obtain ⟨ha, hO, ch, hR, hk9⟩ := id hA
  obtain ⟨o1, ⟨hW1, hW2⟩, ⟨hH1, hH2⟩, ⟨hL1, hL2⟩, hn⟩ := id hO
  have hC := p_WH hW2 hH2
  by_cases hz : n = 0
  · refine ⟨M, ?_, hX.site (b' := (hs, lot, n - 1, kc)) .rf (by rw [show n - 1 = n by omega]; exact hA), .rf⟩
    refine c_of rfl rfl (Nat.le_of_ble_eq_true rfl) ?_
    refine g_al rfl rfl ?_
    refine g_gf rfl x2 rfl rfl ?_
    refine g_gf rfl o1 rfl rfl ?_
    refine g_ic rfl ?_
    refine g_icF rfl (zcF3 ⟨by omega, by omega⟩ ⟨by omega, by omega⟩ (by omega)) ?_
    refine g_ic rfl ?_
    exact g_reti rfl (by unfold v_close; rw [if_pos hz]) rfl
  · refine ⟨_, ?_, hX.site (b' := (hs, lot, n - 1, kc)) (.set (by omega)) (hA.cell (lot' := lot) (Nat.sub_le n 1)), .set (by omega)⟩
    refine c_of rfl rfl (Nat.le_of_ble_eq_true rfl) ?_
    refine g_al rfl rfl ?_
    refine g_gf rfl x2 rfl rfl ?_
    refine g_gf rfl o1 rfl rfl ?_
    refine g_ic rfl ?_
    refine g_icT rfl (zcT3 ⟨by omega, by omega⟩ ⟨by omega, by omega⟩ (by omega)) ?_
    refine g_al rfl rfl ?_
    refine g_gf rfl x2 rfl rfl ?_
    refine g_dupA rfl ?_
    refine g_gf rfl o1 rfl rfl ?_
    refine g_ic rfl ?_
    refine g_subI rfl ?_
    rw [show (n : Int) - 1 = ((n - 1 : Nat) : Int) by omega]
    refine g_pf4 rfl o1 rfl rfl rfl (Or.inl rfl) ?_
    refine g_al rfl rfl ?_
    refine g_gf rfl (z_gn (by decide) x2) rfl rfl ?_
    refine g_gf rfl (z_gs o1) rfl rfl ?_
    exact g_reti rfl (by unfold v_close; rw [if_neg hz]) rfl
theorem y_close : z_Yc S 159 [] ((T, tx), (W, H, L), (hs, lot, n, kc), im, tr) (.int (zI (v_close n))) ((T, tx), (W, H, L), (hs, lot, n - 1, kc), im, tr) := by
  intro d M hY
  obtain ⟨y1, v, wd, hd, ld, nw, h, y3, y4, y5, y6, y7, y8⟩ := id hY
  have h : m_Y M tr v wd hd ld nw W H L hs lot n kc := h
  obtain ⟨⟨h1, h2, h3, h4, h5⟩, ⟨w1, w2, w3⟩, ⟨⟨hW1, hW2⟩, ⟨hH1, hH2⟩, ⟨hL1, hL2⟩, hn⟩, ⟨a1, a2, a3, a4⟩, hok⟩ := id h
  have hC := p_WH hW2 hH2
  by_cases hz : n = 0
  · refine ⟨M, ?_, by rw [show n - 1 = n by omega]; exact hY, .rf⟩
    refine c_of rfl rfl (Nat.le_of_ble_eq_true rfl) ?_
    refine g_al rfl rfl ?_
    refine g_gf rfl h1 rfl rfl ?_
    refine g_ic rfl ?_
    refine g_iaI rfl (by decide) h5 (by omega) (by omega) (by omega) ?_
    rw [show nw (Int.toNat 1) = zI (n : Int) from a2]
    refine g_ifF rfl (zcF1 (by omega)) ?_
    refine g_ic rfl ?_
    exact g_reti rfl (by unfold v_close; rw [if_pos hz]) rfl
  · refine ⟨_, ?_, hY.now (b' := (hs, lot, n - 1, kc)) (nw' := upd nw (Int.toNat 1) (zI ((n - 1 : Nat) : Int))) ⟨h1, h2, h3, h4, h5⟩ (fun j hj => pk_un (by show j ≠ 1; omega)) ⟨(pk_un (by decide)).trans a1, pk_us, (pk_un (by decide)).trans a3, fun k hk => ⟨(pk_un (by show _ ≠ 1; omega)).trans (a4 k (Nat.lt_of_lt_of_le hk (Nat.sub_le n 1))).1, (pk_un (by show _ ≠ 1; omega)).trans (a4 k (Nat.lt_of_lt_of_le hk (Nat.sub_le n 1))).2.1, fun j hj => (pk_un (by show _ ≠ 1; omega)).trans ((a4 k (Nat.lt_of_lt_of_le hk (Nat.sub_le n 1))).2.2 j hj)⟩⟩ (by show n - 1 ≤ 4; omega) (fun k hk => hok k (Nat.lt_of_lt_of_le hk (Nat.sub_le n 1))), .set (by omega)⟩
    refine c_of rfl rfl (Nat.le_of_ble_eq_true rfl) ?_
    refine g_al rfl rfl ?_
    refine g_gf rfl h1 rfl rfl ?_
    refine g_ic rfl ?_
    refine g_iaI rfl (by decide) h5 (by omega) (by omega) (by omega) ?_
    rw [show nw (Int.toNat 1) = zI (n : Int) from a2]
    refine g_ifT rfl (zcT1 ⟨by omega, by omega⟩ ⟨by omega, by omega⟩ (by omega)) ?_
    refine g_al rfl rfl ?_
    refine g_gf rfl h1 rfl rfl ?_
    refine g_ic rfl ?_
    refine g_dup2 rfl ?_
    refine g_iaI rfl (by decide) h5 (by omega) (by omega) (by omega) ?_
    rw [show nw (Int.toNat 1) = zI (n : Int) from a2]
    refine g_ic rfl ?_
    refine g_subI rfl ?_
    rw [show (n : Int) - 1 = ((n - 1 : Nat) : Int) by omega]
    refine g_iSI rfl h5 (by omega) (by omega) (by omega) ?_
    refine g_al rfl rfl ?_
    refine g_gf rfl (z_gn (by decide) h1) rfl rfl ?_
    refine g_ic rfl ?_
    refine g_iaI rfl (by decide) (z_gs h5) (by omega) (by omega) (by omega) ?_
    rw [pk_us]
    exact g_reti rfl (by unfold v_close; rw [if_neg hz]) rfl
end PW
end
section
/-! images -/
theorem c_copyA {S : ZS} {d : Nat} {M : ZM} {a b W H L n : Nat} {hs lot : Int32} {kc : Nat → ZK} (hab : a + 10 ≤ b ∨ b + 10 ≤ a) (ha : a ≤ 60) (hA : k_A M b W H L hs lot n kc) (h1 : ∃ v, k_o M a v) (hR : ∃ ch, k_R M a ch) : ∃ M', z_C S (d + 1) 32 [.ref a, .ref b] M none M' ∧ z_ev M M' (z_sI a) ∧ k_A M' a W H L hs lot n kc := by
  obtain ⟨v, h1⟩ := h1
  obtain ⟨ch, hR⟩ := hR
  obtain ⟨g1, ⟨o1, o2, o3, o4, o5⟩, ch2, g3, g4⟩ := hA
  obtain ⟨M', e1, e2, e3, ch3, e4, e5⟩ := c_copyS (S := S) (d := d) (v2 := fun k => match k with | 0 => zI (W : Int) | 1 => zI (H : Int) | 2 => zI (L : Int) | 3 => hs | 4 => zI (n : Int) | _ => lot) hab h1 hR o1 g3
  exact ⟨M', e1, e2, ha, ⟨e3, o2, o3, o4, o5⟩, ch3, e4, fun k hk => ⟨(g4 k hk).1, (g4 k hk).2.alk (e5 k (by omega)) (g4 k hk).1.2.1.2⟩⟩
theorem m_A.cpy {nw : Nat → Int32} {a b n : Nat} {hs lot : Int32} {kc : Nat → ZK} (h : m_A nw a hs lot n kc) (hn : n ≤ 4) (hk : ∀ k, k < n → (kc k).2.1 ≤ 12) : m_A (va_cpy nw nw a b 59) b hs lot n kc := by
  obtain ⟨h1, h2, h3, h4⟩ := h
  have q : ∀ j, j < 59 → va_cpy nw nw a b 59 (b + j) = nw (a + j) := fun j hj => by
    rw [pk_cpy_in (by omega) (by omega), show a + (b + j - b) = a + j by omega]
  refine ⟨(q 0 (by omega)).trans h1, (q 1 (by omega)).trans h2, (q 2 (by omega)).trans h3, fun k hk2 => ⟨?_, ?_, fun j hj => ?_⟩⟩
  · rw [show b + 3 + k = b + (3 + k) by omega, q _ (by omega), show a + (3 + k) = a + 3 + k by omega]
    exact (h4 k hk2).1
  · rw [show b + 7 + k = b + (7 + k) by omega, q _ (by omega), show a + (7 + k) = a + 7 + k by omega]
    exact (h4 k hk2).2.1
  · have := hk k hk2
    rw [show b + 11 + 12 * k + j = b + (11 + 12 * k + j) by omega, q _ (by omega), show a + (11 + 12 * k + j) = a + 11 + 12 * k + j by omega]
    exact (h4 k hk2).2.2 j hj
theorem m_A.off {nw : Nat → Int32} {a b c n : Nat} {hs lot : Int32} {kc : Nat → ZK} (h : m_A nw c hs lot n kc) (hn : n ≤ 4) (hk : ∀ k, k < n → (kc k).2.1 ≤ 12) (hc : c + 59 ≤ b ∨ b + 59 ≤ c) : m_A (va_cpy nw nw a b 59) c hs lot n kc := by
  obtain ⟨h1, h2, h3, h4⟩ := h
  have q : ∀ j, j < 59 → va_cpy nw nw a b 59 (c + j) = nw (c + j) := fun j hj => pk_cpy_out (by omega)
  refine ⟨(q 0 (by omega)).trans h1, (q 1 (by omega)).trans h2, (q 2 (by omega)).trans h3, fun k hk2 => ⟨?_, ?_, fun j hj => ?_⟩⟩
  · rw [show c + 3 + k = c + (3 + k) by omega, q _ (by omega), show c + (3 + k) = c + 3 + k by omega]
    exact (h4 k hk2).1
  · rw [show c + 7 + k = c + (7 + k) by omega, q _ (by omega), show c + (7 + k) = c + 7 + k by omega]
    exact (h4 k hk2).2.1
  · have := hk k hk2
    rw [show c + 11 + 12 * k + j = c + (11 + 12 * k + j) by omega, q _ (by omega), show c + (11 + 12 * k + j) = c + 11 + 12 * k + j by omega]
    exact (h4 k hk2).2.2 j hj
section PI
variable {S : ZS} {d : Nat} {M : ZM} {T : Nat} {tx : Nat → Int32} {W H L n : Nat} {hs lot : Int32} {kc : Nat → ZK} {im : Nat → Option ZB} {tr : Int64}
theorem m_copy_l {v nw : Nat → Int32} {a b : Nat} (hab : a + 59 ≤ b ∨ b + 59 ≤ a) (ha : a ≤ 177) (hb : b ≤ 177) (h1 : M[62]? = some (.inl (6, m_f tr v))) (h5 : M[67]? = some (.inr (0, 236, .inl nw))) : ∀ (m i : Nat), i + m = 59 → z_G S d 115 2 [some (.ref 62), some (.int (zI (a : Int))), some (.int (zI (b : Int))), some (.int (zI (i : Int)))] [] (M.set 67 (.inr (0, 236, .inl (va_cpy nw nw a b i)))) none (M.set 67 (.inr (0, 236, .inl (va_cpy nw nw a b 59)))) := by
  intro m
  induction m with
  | zero =>
    intro i hi
    have g1 := z_gn (e := .inr (0, 236, .inl (va_cpy nw nw a b i))) (show 67 ≠ 62 by decide) h1
    have g2 := z_gs (e := .inr (0, 236, .inl (va_cpy nw nw a b i))) h5
    refine g_il rfl rfl ?_
    refine g_ic rfl ?_
    refine g_icT rfl (zcT3 ⟨by omega, by omega⟩ ⟨by omega, by omega⟩ (by omega)) ?_
    rw [show i = 59 by omega]
    exact g_retv rfl (rfl) rfl
  | succ m ih =>
    intro i hi
    have g1 := z_gn (e := .inr (0, 236, .inl (va_cpy nw nw a b i))) (show 67 ≠ 62 by decide) h1
    have g2 := z_gs (e := .inr (0, 236, .inl (va_cpy nw nw a b i))) h5
    refine g_il rfl rfl ?_
    refine g_ic rfl ?_
    refine g_icF rfl (zcF3 ⟨by omega, by omega⟩ ⟨by omega, by omega⟩ (by omega)) ?_
    refine g_al rfl rfl ?_
    refine g_gf rfl g1 rfl rfl ?_
    refine g_il rfl rfl ?_
    refine g_il rfl rfl ?_
    refine g_addI rfl ?_
    refine g_al rfl rfl ?_
    refine g_gf rfl g1 rfl rfl ?_
    refine g_il rfl rfl ?_
    refine g_il rfl rfl ?_
    refine g_addI rfl ?_
    refine g_iaI rfl (by decide) g2 (by omega) (by omega) (by omega) ?_
    refine g_iSI rfl g2 (by omega) (by omega) (by omega) ?_
    rw [List.set_set]
    refine g_jj3 rfl rfl ?_
    refine g_goto rfl ?_
    have e1 : upd (va_cpy nw nw a b i) ((b : Int) + (i : Int)).toNat (va_cpy nw nw a b i ((a : Int) + (i : Int)).toNat) = va_cpy nw nw a b (i + 1) := by
      rw [show ((b : Int) + (i : Int)).toNat = b + i by omega, show ((a : Int) + (i : Int)).toNat = a + i by omega, pk_cpy_out (j := a + i) (by omega)]
      funext j
      by_cases hj : j = b + i
      · subst hj
        rw [pk_us, pk_cpy_in (by omega) (by omega), show a + (b + i - b) = a + i by omega]
      · rw [pk_un hj]
        unfold va_cpy
        by_cases h9 : b ≤ j ∧ j < b + i
        · rw [if_pos h9, if_pos (by omega)]
        · rw [if_neg h9, if_neg (by omega)]
    rw [e1]
    exact ih (i + 1) (by omega)
theorem z_same {M : ZM} {a : Nat} {x : ZE} (h : M[a]? = some x) : M.set a x = M := by
  apply List.ext_getElem?
  intro i
  by_cases e : a = i
  · subst e
    rw [z_gs h, h]
  · exact z_gn e rfl
theorem m_copy {v nw : Nat → Int32} {a b : Nat} (hab : a + 59 ≤ b ∨ b + 59 ≤ a) (ha : a ≤ 177) (hb : b ≤ 177) (h1 : M[62]? = some (.inl (6, m_f tr v))) (h5 : M[67]? = some (.inr (0, 236, .inl nw))) : z_C S d 115 [.ref 62, .int (zI (a : Int)), .int (zI (b : Int))] M none (M.set 67 (.inr (0, 236, .inl (va_cpy nw nw a b 59)))) := by
  refine c_of rfl rfl (Nat.le_of_ble_eq_true rfl) ?_
  refine g_ic rfl ?_
  refine g_is3 rfl rfl ?_
  have e1 := m_copy_l (S := S) (d := d) hab ha hb h1 h5 59 0 (by omega)
  rw [show M.set 67 (.inr (0, 236, .inl (va_cpy nw nw a b 0))) = M by
    rw [show va_cpy nw nw a b 0 = nw by funext j; exact pk_cpy_out (by omega)]
    exact z_same h5] at e1
  exact e1
def v_keep (n : Nat) (i : Int) : Int := if 0 ≤ i ∧ i ≤ 1 then (n : Int) else -1
def t_keep (im : Nat → Option ZB) (b : ZB) (i : Int) : Nat → Option ZB := if 0 ≤ i ∧ i ≤ 1 then (fun j => if j = i.toNat then some b else im j) else im
def v_back (im : Nat → Option ZB) (i : Int) : Int := if 0 ≤ i ∧ i ≤ 1 then (match im i.toNat with | some b => (b.2.2.1 : Int) | none => -2) else -1
def t_back (im : Nat → Option ZB) (b : ZB) (i : Int) : ZB := if 0 ≤ i ∧ i ≤ 1 then (match im i.toNat with | some b => b | none => b) else b
theorem x_keep {i : Int} (hi : z_sm i) : z_Xc S 90 [.int (zI i)] ((T, tx), (W, H, L), (hs, lot, n, kc), im, tr) (.int (zI (v_keep n i))) ((T, tx), (W, H, L), (hs, lot, n, kc), t_keep im (hs, lot, n, kc) i, tr) := by
  intro d M hX
  obtain ⟨x1, x2, x3, x4, x5, x6, x7, x8⟩ := id hX
  have hA : k_A M 1 W H L hs lot n kc := x3
  obtain ⟨ha, hO, ch, hR, hk9⟩ := id hA
  obtain ⟨o1, ⟨hW1, hW2⟩, ⟨hH1, hH2⟩, ⟨hL1, hL2⟩, hn⟩ := id hO
  have hC := p_WH hW2 hH2
  obtain ⟨⟨imf, u1, u2, u3⟩, ⟨kf, u4, u5⟩, u6⟩ := id x8
  have u5 : ∀ i, i < 2 → kf i = zI (if (im i).isSome = true then 1 else 0) := u5
  by_cases hv : 0 ≤ i ∧ i ≤ 1
  · obtain ⟨q, rfl⟩ : ∃ q : Nat, i = (q : Int) := ⟨i.toNat, by omega⟩
    have hq : q < 2 := by omega
    obtain ⟨g1, g2, g3⟩ := u6 q hq
    obtain ⟨M1, c1, c2, c3⟩ := c_copyA (S := S) (d := d + 18) (a := 41 + 10 * q) (b := 1) (by omega) (by omega) hA g1 g2
    have e0 : ∀ k, k < 41 ∨ k = 61 → ¬ z_sI (41 + 10 * q) k := fun k hk g => by unfold z_sI at g; omega
    have n0 : M1[0]? = _ := (c2.2 0 (e0 0 (by omega))).trans x2
    have n61 : M1[61]? = _ := (c2.2 61 (e0 61 (by omega))).trans u4
    have n1 : M1[1]? = _ := (c2.2 1 (e0 1 (by omega))).trans o1
    have e9 : z_ev M (M1.set 61 (.inr (2, 2, .inl (upd kf q (vp_nar .boolean (zI 1)))))) (fun k => 41 ≤ k ∧ k < 62) := (c2.wk (fun k g => by unfold z_sI at g; omega)).tr (.set (by omega))
    have hs1 : z_ev M1 (M1.set 61 (.inr (2, 2, .inl (upd kf q (vp_nar .boolean (zI 1)))))) (fun k => k = 61) := .set rfl
    refine ⟨_, ?_, ⟨by rw [e9.1]; exact x1, (e9.2 0 (by omega)).trans x2, x3.ev e9 (fun k g1 g2 => by omega), x4.ev e9 (fun k g1 g2 => by omega), x5.ev e9 (fun k g1 g2 => by omega), x6.ev e9 (fun k g1 g2 => by omega), by
      obtain ⟨r, h7⟩ := x7
      exact ⟨r, h7.eqv e9 (by omega) (by omega)⟩, ⟨imf, (e9.2 40 (by omega)).trans u1, u2, u3⟩, ⟨_, z_gs n61, fun j hj => ?_⟩, fun j hj => ?_⟩, e9.wk (fun k g => by omega)⟩
    · unfold v_keep
      rw [if_pos hv]
      refine c_of rfl rfl (Nat.le_of_ble_eq_true rfl) ?_
      refine g_il rfl rfl ?_
      refine g_ifF rfl (zcF2 ⟨by omega, by omega⟩ ⟨by omega, by omega⟩ (by omega)) ?_
      refine g_il rfl rfl ?_
      refine g_ic rfl ?_
      refine g_icT rfl (zcT2 ⟨by omega, by omega⟩ ⟨by omega, by omega⟩ (by omega)) ?_
      refine g_al rfl rfl ?_
      refine g_gf rfl x2 rfl rfl ?_
      refine g_il rfl rfl ?_
      refine g_aaI5 rfl u1 (by omega) (by omega) (by omega) (v := .ref (41 + 10 * q)) (by rw [Int.toNat_natCast]; rcases (show q = 0 ∨ q = 1 by omega) with rfl | rfl; rw [u2]; rfl; rw [u3]; rfl) ?_
      refine g_al rfl rfl ?_
      refine g_gf rfl x2 rfl rfl ?_
      obtain ⟨vi, hvi⟩ := g1
      refine g_cv1v rfl rfl hvi rfl (by decide) rfl (c1) ?_
      refine g_al rfl rfl ?_
      refine g_gf rfl n0 rfl rfl ?_
      refine g_il rfl rfl ?_
      refine g_ic rfl ?_
      refine g_zSI rfl n61 (by omega) (by omega) (by omega) ?_
      rw [Int.toNat_natCast]
      refine g_al rfl rfl ?_
      refine g_gf rfl (z_gn (by decide) n0) rfl rfl ?_
      refine g_gf rfl (z_gn (by decide) n1) rfl rfl ?_
      exact g_reti rfl (rfl) rfl
    · show upd kf q (vp_nar .boolean (zI 1)) j = zI (if (t_keep im (hs, lot, n, kc) (q : Int) j).isSome = true then 1 else 0)
      unfold t_keep
      rw [if_pos hv, Int.toNat_natCast]
      by_cases e : j = q
      · subst e
        rw [pk_us, if_pos rfl]
        rfl
      · rw [pk_un e, if_neg e]
        exact u5 j hj
    · show (∃ v, k_o _ (41 + 10 * j) v) ∧ (∃ ch, k_R _ (41 + 10 * j) ch) ∧ ∀ b, t_keep im (hs, lot, n, kc) (q : Int) j = some b → k_A _ (41 + 10 * j) W H L b.1 b.2.1 b.2.2.1 b.2.2.2
      unfold t_keep
      rw [if_pos hv, Int.toNat_natCast]
      by_cases e : j = q
      · subst e
        have c4 := c3.ev hs1 (fun k g1 g2 => by omega)
        obtain ⟨-, hO2, ch2, hR2, -⟩ := id c4
        refine ⟨⟨fun k => match k with | 0 => zI (W : Int) | 1 => zI (H : Int) | 2 => zI (L : Int) | 3 => hs | 4 => zI (n : Int) | _ => lot, hO2.1⟩, ⟨ch2, hR2⟩, fun b hb => ?_⟩
        rw [if_pos rfl] at hb
        cases hb
        exact c4
      · obtain ⟨f1, f2, f3⟩ := u6 j hj
        have e7 : z_ev M (M1.set 61 (.inr (2, 2, .inl (upd kf q (vp_nar .boolean (zI 1)))))) (fun k => (41 + 10 * q ≤ k ∧ k < 41 + 10 * q + 10) ∨ k = 61) := (c2.wk (fun k g => Or.inl g)).tr (.set (Or.inr rfl))
        obtain ⟨v3, f1⟩ := f1
        obtain ⟨ch3, f2⟩ := f2
        refine ⟨⟨v3, f1.ev e7 (by omega)⟩, ⟨ch3, f2.eqv e7 (fun k g1 g2 => by omega)⟩, fun b hb => ?_⟩
        rw [if_neg e] at hb
        exact (f3 b hb).ev e7 (fun k g1 g2 => by omega)
  · refine ⟨M, ?_, by unfold t_keep; rw [if_neg hv]; exact hX, .rf⟩
    refine c_of rfl rfl (Nat.le_of_ble_eq_true rfl) ?_
    unfold v_keep
    rw [if_neg hv]
    refine g_il rfl rfl ?_
    by_cases h0 : i < 0
    · refine g_ifT rfl (zcT2 ⟨by omega, by omega⟩ ⟨by omega, by omega⟩ (h0)) ?_
      refine g_ic rfl ?_
      exact g_reti rfl (rfl) rfl
    · refine g_ifF rfl (zcF2 ⟨by omega, by omega⟩ ⟨by omega, by omega⟩ (h0)) ?_
      refine g_il rfl rfl ?_
      refine g_ic rfl ?_
      refine g_icF rfl (zcF2 ⟨by omega, by omega⟩ ⟨by omega, by omega⟩ (by omega)) ?_
      refine g_ic rfl ?_
      exact g_reti rfl (rfl) rfl
theorem x_back {i : Int} (hi : z_sm i) : z_Xc S 91 [.int (zI i)] ((T, tx), (W, H, L), (hs, lot, n, kc), im, tr) (.int (zI (v_back im i))) ((T, tx), (W, H, L), t_back im (hs, lot, n, kc) i, im, tr) := by
  intro d M hX
  obtain ⟨x1, x2, x3, x4, x5, x6, x7, x8⟩ := id hX
  have hA : k_A M 1 W H L hs lot n kc := x3
  obtain ⟨ha, hO, ch, hR, hk9⟩ := id hA
  obtain ⟨o1, ⟨hW1, hW2⟩, ⟨hH1, hH2⟩, ⟨hL1, hL2⟩, hn⟩ := id hO
  have hC := p_WH hW2 hH2
  obtain ⟨⟨imf, u1, u2, u3⟩, ⟨kf, u4, u5⟩, u6⟩ := id x8
  have u5 : ∀ i, i < 2 → kf i = zI (if (im i).isSome = true then 1 else 0) := u5
  by_cases hv : 0 ≤ i ∧ i ≤ 1
  · obtain ⟨q, rfl⟩ : ∃ q : Nat, i = (q : Int) := ⟨i.toNat, by omega⟩
    have hq : q < 2 := by omega
    obtain ⟨g1, g2, g3⟩ := u6 q hq
    unfold v_back t_back
    rw [if_pos hv, if_pos hv, Int.toNat_natCast]
    cases hb : im q with
    | none =>
      refine ⟨M, ?_, hX, .rf⟩
      refine c_of rfl rfl (Nat.le_of_ble_eq_true rfl) ?_
      refine g_il rfl rfl ?_
      refine g_ifF rfl (zcF2 ⟨by omega, by omega⟩ ⟨by omega, by omega⟩ (by omega)) ?_
      refine g_il rfl rfl ?_
      refine g_ic rfl ?_
      refine g_icT rfl (zcT2 ⟨by omega, by omega⟩ ⟨by omega, by omega⟩ (by omega)) ?_
      refine g_al rfl rfl ?_
      refine g_gf rfl x2 rfl rfl ?_
      refine g_il rfl rfl ?_
      refine g_zaI rfl u4 (by omega) (by omega) (by omega) ?_
      rw [Int.toNat_natCast, u5 q hq]
      rw [hb]
      show z_G S (d + 20) 91 17 _ [.int (zI 0)] _ _ _
      refine g_ifF rfl (zcF1 (rfl)) ?_
      refine g_ic rfl ?_
      exact g_reti rfl (rfl) rfl
    | some b =>
      have hAb : k_A M (41 + 10 * q) W H L b.1 b.2.1 b.2.2.1 b.2.2.2 := g3 b hb
      obtain ⟨M1, c1, c2, c3⟩ := c_copyA (S := S) (d := d + 18) (a := 1) (b := 41 + 10 * q) (by omega) (by omega) hAb ⟨fun k => match k with | 0 => zI (W : Int) | 1 => zI (H : Int) | 2 => zI (L : Int) | 3 => hs | 4 => zI (n : Int) | _ => lot, o1⟩ ⟨ch, hR⟩
      have n0 : M1[0]? = _ := (c2.2 0 (fun g => by unfold z_sI at g; omega)).trans x2
      obtain ⟨-, ⟨n1, -⟩, -⟩ := id c3
      have c4 : z_ev M M1 (fun k => 1 ≤ k ∧ k < 11) := c2.wk (fun k g => by unfold z_sI at g; omega)
      refine ⟨M1, ?_, hX.site c4 c3, c4.wk (fun k g => by omega)⟩
      refine c_of rfl rfl (Nat.le_of_ble_eq_true rfl) ?_
      refine g_il rfl rfl ?_
      refine g_ifF rfl (zcF2 ⟨by omega, by omega⟩ ⟨by omega, by omega⟩ (by omega)) ?_
      refine g_il rfl rfl ?_
      refine g_ic rfl ?_
      refine g_icT rfl (zcT2 ⟨by omega, by omega⟩ ⟨by omega, by omega⟩ (by omega)) ?_
      refine g_al rfl rfl ?_
      refine g_gf rfl x2 rfl rfl ?_
      refine g_il rfl rfl ?_
      refine g_zaI rfl u4 (by omega) (by omega) (by omega) ?_
      rw [Int.toNat_natCast, u5 q hq]
      rw [hb]
      show z_G S (d + 20) 91 17 _ [.int (zI 1)] _ _ _
      refine g_ifT rfl (zcT1 ⟨by omega, by omega⟩ ⟨by omega, by omega⟩ (by decide)) ?_
      refine g_al rfl rfl ?_
      refine g_gf rfl x2 rfl rfl ?_
      refine g_al rfl rfl ?_
      refine g_gf rfl x2 rfl rfl ?_
      refine g_il rfl rfl ?_
      refine g_aaI5 rfl u1 (by omega) (by omega) (by omega) (v := .ref (41 + 10 * q)) (by rw [Int.toNat_natCast]; rcases (show q = 0 ∨ q = 1 by omega) with rfl | rfl; rw [u2]; rfl; rw [u3]; rfl) ?_
      refine g_cv1v rfl rfl o1 rfl (by decide) rfl (c1) ?_
      refine g_al rfl rfl ?_
      refine g_gf rfl n0 rfl rfl ?_
      refine g_gf rfl n1 rfl rfl ?_
      exact g_reti rfl (rfl) rfl
  · refine ⟨M, ?_, by unfold t_back; rw [if_neg hv]; exact hX, .rf⟩
    refine c_of rfl rfl (Nat.le_of_ble_eq_true rfl) ?_
    unfold v_back
    rw [if_neg hv]
    refine g_il rfl rfl ?_
    by_cases h0 : i < 0
    · refine g_ifT rfl (zcT2 ⟨by omega, by omega⟩ ⟨by omega, by omega⟩ (h0)) ?_
      refine g_ic rfl ?_
      exact g_reti rfl (rfl) rfl
    · refine g_ifF rfl (zcF2 ⟨by omega, by omega⟩ ⟨by omega, by omega⟩ (h0)) ?_
      refine g_il rfl rfl ?_
      refine g_ic rfl ?_
      refine g_icF rfl (zcF2 ⟨by omega, by omega⟩ ⟨by omega, by omega⟩ (by omega)) ?_
      refine g_ic rfl ?_
      exact g_reti rfl (rfl) rfl
theorem y_keep {i : Int} (hi : z_sm i) : z_Yc S 161 [.int (zI i)] ((T, tx), (W, H, L), (hs, lot, n, kc), im, tr) (.int (zI (v_keep n i))) ((T, tx), (W, H, L), (hs, lot, n, kc), t_keep im (hs, lot, n, kc) i, tr) := by
  intro d M hY
  obtain ⟨y1, v, wd, hd, ld, nw, h, y3, y4, y5, y6, y7, y8⟩ := id hY
  have h : m_Y M tr v wd hd ld nw W H L hs lot n kc := h
  obtain ⟨⟨h1, h2, h3, h4, h5⟩, ⟨w1, w2, w3⟩, ⟨⟨hW1, hW2⟩, ⟨hH1, hH2⟩, ⟨hL1, hL2⟩, hn⟩, ⟨a1, a2, a3, a4⟩, hok⟩ := id h
  have hC := p_WH hW2 hH2
  obtain ⟨g, g1, g2⟩ := y5
  obtain ⟨kf, k1, k2⟩ := y6
  have k2 : ∀ i, i < 2 → kf i = zI (if (im i).isSome = true then 1 else 0) := k2
  have hN : ∀ k, k < n → (kc k).2.1 ≤ 12 := fun k hk => (hok k hk).2.1.2
  by_cases hv : 0 ≤ i ∧ i ≤ 1
  · obtain ⟨q, rfl⟩ : ∃ q : Nat, i = (q : Int) := ⟨i.toNat, by omega⟩
    have hq : q < 2 := by omega
    unfold v_keep
    rw [if_pos hv]
    refine ⟨(M.set 67 (.inr (0, 236, .inl (va_cpy nw nw 0 (59 * (2 + q)) 59)))).set 68 (.inr (2, 2, .inl (upd kf q (vp_nar .boolean (zI 1))))), ?_, ⟨by rw [List.length_set, List.length_set]; exact y1, v, wd, hd, ld, va_cpy nw nw 0 (59 * (2 + q)) 59, ⟨⟨z_gn (by decide) (z_gn (by decide) h1), z_gn (by decide) (z_gn (by decide) h2), z_gn (by decide) (z_gn (by decide) h3), z_gn (by decide) (z_gn (by decide) h4), z_gn (by decide) (z_gs h5)⟩, ⟨w1, w2, w3⟩, ⟨⟨hW1, hW2⟩, ⟨hH1, hH2⟩, ⟨hL1, hL2⟩, hn⟩, m_A.off (c := 0) ⟨a1, a2, a3, a4⟩ hn hN (by omega), hok⟩, y3, y4, ⟨g, z_gn (by decide) (z_gn (by decide) g1), g2⟩, ⟨_, z_gs (z_gn (by decide) k1), fun j hj => ?_⟩, fun j hj b hb => ?_, y8.ev (P := fun k => k = 67 ∨ k = 68) ((z_ev.set (Or.inl rfl)).tr (.set (Or.inr rfl))) (fun k g1 g2 => by omega)⟩, (z_ev.set (by omega)).tr (.set (by omega))⟩
    · refine c_of rfl rfl (Nat.le_of_ble_eq_true rfl) ?_
      refine g_il rfl rfl ?_
      refine g_ic rfl ?_
      refine g_ic rfl ?_
      refine g_cs3 rfl rfl rfl rfl (m_in hi ⟨by omega, by omega⟩ ⟨by omega, by omega⟩) ?_
      rw [if_pos hv]
      refine g_ifT rfl (zcT1 ⟨by omega, by omega⟩ ⟨by omega, by omega⟩ (by decide)) ?_
      refine g_al rfl rfl ?_
      refine g_ic rfl ?_
      refine g_ic rfl ?_
      refine g_ic rfl ?_
      refine g_il rfl rfl ?_
      refine g_addI rfl ?_
      refine g_mulI rfl ?_
      rw [show (59 : Int) * (2 + (q : Int)) = ((59 * (2 + q) : Nat) : Int) by omega]
      refine g_cv2v rfl rfl h1 rfl (by decide) rfl (m_copy (a := 0) (b := 59 * (2 + q)) (by omega) (by omega) (by omega) h1 h5) ?_
      refine g_al rfl rfl ?_
      refine g_gf rfl (z_gn (by decide) h1) rfl rfl ?_
      refine g_il rfl rfl ?_
      refine g_ic rfl ?_
      refine g_zSI rfl (z_gn (by decide) k1) (by omega) (by omega) (by omega) ?_
      rw [Int.toNat_natCast]
      refine g_al rfl rfl ?_
      refine g_gf rfl (z_gn (by decide) (z_gn (by decide) h1)) rfl rfl ?_
      refine g_ic rfl ?_
      refine g_iaI rfl (by decide) (z_gn (by decide) (z_gs h5)) (by omega) (by omega) (by omega) ?_
      rw [show va_cpy nw nw 0 (59 * (2 + q)) 59 (Int.toNat 1) = zI (n : Int) from (pk_cpy_out (by left; show 1 < _; omega)).trans a2]
      exact g_reti rfl (rfl) rfl
    · show upd kf q (vp_nar .boolean (zI 1)) j = zI (if (t_keep im (hs, lot, n, kc) (q : Int) j).isSome = true then 1 else 0)
      unfold t_keep
      rw [if_pos hv, Int.toNat_natCast]
      by_cases e : j = q
      · subst e
        rw [pk_us, if_pos rfl]
        rfl
      · rw [pk_un e, if_neg e]
        exact k2 j hj
    · have hb : t_keep im (hs, lot, n, kc) (q : Int) j = some b := hb
      unfold t_keep at hb
      rw [if_pos hv, Int.toNat_natCast] at hb
      by_cases e : j = q
      · subst e
        rw [if_pos rfl] at hb
        cases hb
        exact ⟨m_A.cpy ⟨a1, a2, a3, a4⟩ hn hN, hn, hok⟩
      · rw [if_neg e] at hb
        obtain ⟨f1, f2, f3⟩ := y7 j hj b hb
        exact ⟨f1.off f2 (fun k hk => (f3 k hk).2.1.2) (by omega), f2, f3⟩
  · refine ⟨M, ?_, by unfold t_keep; rw [if_neg hv]; exact hY, .rf⟩
    refine c_of rfl rfl (Nat.le_of_ble_eq_true rfl) ?_
    unfold v_keep
    rw [if_neg hv]
    refine g_il rfl rfl ?_
    refine g_ic rfl ?_
    refine g_ic rfl ?_
    refine g_cs3 rfl rfl rfl rfl (m_in hi ⟨by omega, by omega⟩ ⟨by omega, by omega⟩) ?_
    rw [if_neg hv]
    refine g_ifF rfl (zcF1 (rfl)) ?_
    refine g_ic rfl ?_
    exact g_reti rfl (rfl) rfl
theorem y_back {i : Int} (hi : z_sm i) : z_Yc S 162 [.int (zI i)] ((T, tx), (W, H, L), (hs, lot, n, kc), im, tr) (.int (zI (v_back im i))) ((T, tx), (W, H, L), t_back im (hs, lot, n, kc) i, im, tr) := by
  intro d M hY
  obtain ⟨y1, v, wd, hd, ld, nw, h, y3, y4, y5, y6, y7, y8⟩ := id hY
  have h : m_Y M tr v wd hd ld nw W H L hs lot n kc := h
  obtain ⟨⟨h1, h2, h3, h4, h5⟩, ⟨w1, w2, w3⟩, ⟨⟨hW1, hW2⟩, ⟨hH1, hH2⟩, ⟨hL1, hL2⟩, hn⟩, ⟨a1, a2, a3, a4⟩, hok⟩ := id h
  have hC := p_WH hW2 hH2
  obtain ⟨g, g1, g2⟩ := y5
  obtain ⟨kf, k1, k2⟩ := y6
  have k2 : ∀ i, i < 2 → kf i = zI (if (im i).isSome = true then 1 else 0) := k2
  have hN : ∀ k, k < n → (kc k).2.1 ≤ 12 := fun k hk => (hok k hk).2.1.2
  by_cases hv : 0 ≤ i ∧ i ≤ 1
  · obtain ⟨q, rfl⟩ : ∃ q : Nat, i = (q : Int) := ⟨i.toNat, by omega⟩
    have hq : q < 2 := by omega
    unfold v_back t_back
    rw [if_pos hv, if_pos hv, Int.toNat_natCast]
    cases hb : im q with
    | none =>
      refine ⟨M, ?_, hY, .rf⟩
      refine c_of rfl rfl (Nat.le_of_ble_eq_true rfl) ?_
      refine g_il rfl rfl ?_
      refine g_ic rfl ?_
      refine g_ic rfl ?_
      refine g_cs3 rfl rfl rfl rfl (m_in hi ⟨by omega, by omega⟩ ⟨by omega, by omega⟩) ?_
      rw [if_pos hv]
      refine g_ifT rfl (zcT1 ⟨by omega, by omega⟩ ⟨by omega, by omega⟩ (by decide)) ?_
      refine g_al rfl rfl ?_
      refine g_gf rfl h1 rfl rfl ?_
      refine g_il rfl rfl ?_
      refine g_zaI rfl k1 (by omega) (by omega) (by omega) ?_
      rw [Int.toNat_natCast, k2 q hq]
      rw [hb]
      show z_G S (d + 20) 162 17 _ [.int (zI 0)] _ _ _
      refine g_ifF rfl (zcF1 (rfl)) ?_
      refine g_ic rfl ?_
      exact g_reti rfl (rfl) rfl
    | some b =>
      obtain ⟨f1, f2, f3⟩ := y7 q hq b hb
      have m1 := m_A.cpy (b := 0) f1 f2 (fun k hk => (f3 k hk).2.1.2)
      refine ⟨_, ?_, hY.now (b' := b) (nw' := va_cpy nw nw (59 * (2 + q)) 0 59) ⟨h1, h2, h3, h4, h5⟩ (fun j hj => pk_cpy_out (by omega)) m1 f2 f3, .set (by omega)⟩
      refine c_of rfl rfl (Nat.le_of_ble_eq_true rfl) ?_
      refine g_il rfl rfl ?_
      refine g_ic rfl ?_
      refine g_ic rfl ?_
      refine g_cs3 rfl rfl rfl rfl (m_in hi ⟨by omega, by omega⟩ ⟨by omega, by omega⟩) ?_
      rw [if_pos hv]
      refine g_ifT rfl (zcT1 ⟨by omega, by omega⟩ ⟨by omega, by omega⟩ (by decide)) ?_
      refine g_al rfl rfl ?_
      refine g_gf rfl h1 rfl rfl ?_
      refine g_il rfl rfl ?_
      refine g_zaI rfl k1 (by omega) (by omega) (by omega) ?_
      rw [Int.toNat_natCast, k2 q hq]
      rw [hb]
      show z_G S (d + 20) 162 17 _ [.int (zI 1)] _ _ _
      refine g_ifT rfl (zcT1 ⟨by omega, by omega⟩ ⟨by omega, by omega⟩ (by decide)) ?_
      refine g_al rfl rfl ?_
      refine g_ic rfl ?_
      refine g_ic rfl ?_
      refine g_il rfl rfl ?_
      refine g_addI rfl ?_
      refine g_mulI rfl ?_
      refine g_ic rfl ?_
      rw [show (59 : Int) * (2 + (q : Int)) = ((59 * (2 + q) : Nat) : Int) by omega]
      refine g_cv2v rfl rfl h1 rfl (by decide) rfl (m_copy (a := 59 * (2 + q)) (b := 0) (by omega) (by omega) (by omega) h1 h5) ?_
      refine g_al rfl rfl ?_
      refine g_gf rfl (z_gn (by decide) h1) rfl rfl ?_
      refine g_ic rfl ?_
      refine g_iaI rfl (by decide) (z_gs h5) (by omega) (by omega) (by omega) ?_
      rw [show va_cpy nw nw (59 * (2 + q)) 0 59 (Int.toNat 1) = zI (b.2.2.1 : Int) from m1.2.1]
      exact g_reti rfl (rfl) rfl
  · refine ⟨M, ?_, by unfold t_back; rw [if_neg hv]; exact hY, .rf⟩
    refine c_of rfl rfl (Nat.le_of_ble_eq_true rfl) ?_
    unfold v_back
    rw [if_neg hv]
    refine g_il rfl rfl ?_
    refine g_ic rfl ?_
    refine g_ic rfl ?_
    refine g_cs3 rfl rfl rfl rfl (m_in hi ⟨by omega, by omega⟩ ⟨by omega, by omega⟩) ?_
    rw [if_neg hv]
    refine g_ifF rfl (zcF1 (rfl)) ?_
    refine g_ic rfl ?_
    exact g_reti rfl (rfl) rfl
end PI
end
section
/-! type -/
/-- the byte of a long, as the class takes it -/
def p_byte (v : Int64) (i : Nat) : Int32 := (v.toUInt64 >>> ((zI (8 * (i : Int))).toInt64.toUInt64 &&& Int64.toUInt64 63)).toInt64.toInt32.toInt8.toInt32
theorem z_su : ∀ i : Nat, i < 8 → ((zI (8 * (i : Int))).toInt64.toUInt64 &&& Int64.toUInt64 63) = UInt64.ofNat (8 * i) := by decide +kernel
theorem z_ss : ∀ i : Nat, i < 8 → ((zI (8 * (i : Int))).toInt64.toBitVec &&& Int64.toBitVec 63).smod 64 = BitVec.ofNat 64 (8 * i) := by decide +kernel
theorem b64_255 : ∀ j : Nat, j < 8 → (Int64.ofInt 255).toBitVec.getLsbD j = true := by decide +kernel
/-- as the reference takes it -/
theorem p_byte_ref (v : Int64) {i : Nat} (hi : i < 8) : ((v >>> ((zI (8 * (i : Int))).toInt64 &&& 63)) &&& Int64.ofInt 255).toInt32.toInt8.toInt32 = p_byte v i := by
  unfold p_byte
  apply congrArg Int8.toInt32
  apply Int8.toBitVec_inj.mp
  apply BitVec.eq_of_getLsbD_eq
  intro j hj
  rw [z_su i hi]
  simp only [Int32.toBitVec_toInt8, Int64.toBitVec_toInt32, Int64.toBitVec_and, Int64.toBitVec_shiftRight, UInt64.toBitVec_toInt64, UInt64.toBitVec_shiftRight, Int64.toBitVec_toUInt64]
  rw [z_ss i hi]
  have e1 : (BitVec.ofNat 64 (8 * i)).toNat = 8 * i := by
    rw [BitVec.toNat_ofNat]
    omega
  have e2 : ((UInt64.ofNat (8 * i)).toBitVec % 64).toNat = 8 * i := by
    rw [BitVec.toNat_umod, UInt64.toBitVec_ofNat', BitVec.toNat_ofNat]
    have : (64 : BitVec 64).toNat = 64 := rfl
    rw [this]
    omega
  have h1 : 8 * i + j < 64 := by omega
  rw [BitVec.getLsbD_signExtend, BitVec.getLsbD_signExtend, BitVec.getLsbD_signExtend, BitVec.getLsbD_signExtend, if_pos (show j < 32 by omega), if_pos (show j < 64 by omega), if_pos (show j < 32 by omega), if_pos (show j < 64 by omega), BitVec.getLsbD_and, b64_255 j hj, Bool.and_true, BitVec.sshiftRight_eq', e1, BitVec.ushiftRight_eq', e2, BitVec.getLsbD_sshiftRight, BitVec.getLsbD_ushiftRight, if_pos h1, decide_eq_false (show ¬ 64 ≤ j by omega)]
  rfl

abbrev k_rd (T : Int) (i1 i2 i6 i7 i8 : Int32) : ZE := .inl (1, [.int (zI T), .int i1, .int i2, .ref 13, .ref 12, .ref 23, .int i6, .int i7, .int i8])
theorem w_two {M : ZM} {a b : Nat} {A B A2 B2 : ZE} (h : a ≠ b) : (((M.set a A).set b B).set a A2).set b B2 = (M.set a A2).set b B2 := by
  rw [List.set_comm B A2 (fun g => h g.symm), List.set_set, List.set_set]
/-- the text with t bytes more -/
def t_txt (g : Nat → Int32) (v : Int64) (T n t : Nat) : Nat → Int32 := fun j => if T ≤ j ∧ j < T + t then p_byte v (n - 1 - (j - T)) else g j
theorem t_txt_s (g : Nat → Int32) (v : Int64) (T n t : Nat) : upd (t_txt g v T n t) (T + t) (p_byte v (n - 1 - t)) = t_txt g v T n (t + 1) := by
  funext j
  by_cases h : j = T + t
  · subst h
    rw [pk_us]
    unfold t_txt
    rw [if_pos (by omega), show n - 1 - (T + t - T) = n - 1 - t by omega]
  · rw [pk_un h]
    unfold t_txt
    by_cases h2 : T ≤ j ∧ j < T + t
    · rw [if_pos h2, if_pos (by omega)]
    · rw [if_neg h2, if_neg (by omega)]
theorem t_txt_0 (g : Nat → Int32) (v : Int64) (T n : Nat) : t_txt g v T n 0 = g := by
  funext j
  unfold t_txt
  rw [if_neg (by omega)]
def v_type (T : Nat) (n : Int) : Int := if 1 ≤ n ∧ n ≤ 8 then (if 200 < (T : Int) + n then -3 else (T : Int) + n) else -1
def t_type (T : Nat) (tx : Nat → Int32) (v : Int64) (n : Int) : Nat × (Nat → Int32) := if (1 ≤ n ∧ n ≤ 8) ∧ ¬ 200 < (T : Int) + n then (T + n.toNat, t_txt tx v T n.toNat n.toNat) else (T, tx)
section PT
variable {S : ZS} {d nc : Nat} {M : ZM} {T : Nat} {tx : Nat → Int32} {W H L n : Nat} {hs lot : Int32} {kc : Nat → ZK} {im : Nat → Option ZB} {tr : Int64}
theorem c_append {i1 i2 i6 i7 i8 x : Int32} {g : Nat → Int32} (h : M[11]? = some (k_rd (T : Int) i1 i2 i6 i7 i8)) (ht : M[12]? = some (.inr (1, 200, .inl g))) (hT : T < 200) : z_C S d 11 [.ref 11, .int x] M none ((M.set 12 (.inr (1, 200, .inl (upd g T (vp_nar .byte x))))).set 11 (k_rd ((T + 1 : Nat) : Int) i1 i2 i6 i7 i8)) := by
  refine c_of rfl rfl (Nat.le_of_ble_eq_true rfl) ?_
  refine g_al rfl rfl ?_
  refine g_gf rfl h rfl rfl ?_
  refine g_ifF rfl (zcF2 ⟨by omega, by omega⟩ ⟨by omega, by omega⟩ (by omega)) ?_
  refine g_al rfl rfl ?_
  refine g_gf rfl h rfl rfl ?_
  refine g_ic rfl ?_
  refine g_icF rfl (zcF3 ⟨by omega, by omega⟩ ⟨by omega, by omega⟩ (by omega)) ?_
  refine g_al rfl rfl ?_
  refine g_gf rfl h rfl rfl ?_
  refine g_al rfl rfl ?_
  refine g_gf rfl h rfl rfl ?_
  refine g_il rfl rfl ?_
  refine g_bSI rfl ht (by omega) (by omega) (by omega) ?_
  refine g_al rfl rfl ?_
  refine g_dupA rfl ?_
  refine g_gf rfl (z_gn (by decide) h) rfl rfl ?_
  refine g_ic rfl ?_
  refine g_addI rfl ?_
  rw [Int.toNat_natCast]
  refine g_pf0 rfl (z_gn (by decide) h) rfl rfl rfl (Or.inl rfl) ?_
  rw [show (T : Int) + 1 = ((T + 1 : Nat) : Int) by omega]
  exact g_retv rfl (rfl) rfl
theorem x_type_l {i1 i2 i6 i7 i8 : Int32} {g : Nat → Int32} {v : Int64} (h0 : M[0]? = some (.inl (5, [.ref 1, .ref 11, .ref 25, .ref 33, .ref 38, .ref 40, .ref 61, .long tr]))) (h1 : M[11]? = some (k_rd (T : Int) i1 i2 i6 i7 i8)) (h2 : M[12]? = some (.inr (1, 200, .inl g))) (hn : n ≤ 8) (hT : T + n ≤ 200) : ∀ (m t : Nat), t + m = n → z_G S (d + 1) 70 36 [some (.ref 0), some (.long v), none, some (.int (zI (n : Int))), some (.int (zI ((n : Int) - 1 - (t : Int))))] [] ((M.set 12 (.inr (1, 200, .inl (t_txt g v T n t)))).set 11 (k_rd ((T + t : Nat) : Int) i1 i2 i6 i7 i8)) (some (.int (zI ((T + n : Nat) : Int)))) ((M.set 12 (.inr (1, 200, .inl (t_txt g v T n n)))).set 11 (k_rd ((T + n : Nat) : Int) i1 i2 i6 i7 i8)) := by
  intro m
  induction m with
  | zero =>
    intro t ht
    have q0 : (((M.set 12 (.inr (1, 200, .inl (t_txt g v T n t)))).set 11 (k_rd ((T + t : Nat) : Int) i1 i2 i6 i7 i8)))[0]? = _ := z_gn (show 11 ≠ 0 by decide) (z_gn (show 12 ≠ 0 by decide) h0)
    have q1 : (((M.set 12 (.inr (1, 200, .inl (t_txt g v T n t)))).set 11 (k_rd ((T + t : Nat) : Int) i1 i2 i6 i7 i8)))[11]? = _ := z_gs (z_gn (show 12 ≠ 11 by decide) h1)
    have q2 : (((M.set 12 (.inr (1, 200, .inl (t_txt g v T n t)))).set 11 (k_rd ((T + t : Nat) : Int) i1 i2 i6 i7 i8)))[12]? = _ := z_gn (show 11 ≠ 12 by decide) (z_gs h2)
    refine g_il rfl rfl ?_
    refine g_ifT rfl (zcT2 ⟨by omega, by omega⟩ ⟨by omega, by omega⟩ (by omega)) ?_
    refine g_al rfl rfl ?_
    refine g_gf rfl q0 rfl rfl ?_
    refine g_gf rfl q1 rfl rfl ?_
    rw [show t = n by omega]
    exact g_reti rfl (rfl) rfl
  | succ m ih =>
    intro t ht
    have q0 : (((M.set 12 (.inr (1, 200, .inl (t_txt g v T n t)))).set 11 (k_rd ((T + t : Nat) : Int) i1 i2 i6 i7 i8)))[0]? = _ := z_gn (show 11 ≠ 0 by decide) (z_gn (show 12 ≠ 0 by decide) h0)
    have q1 : (((M.set 12 (.inr (1, 200, .inl (t_txt g v T n t)))).set 11 (k_rd ((T + t : Nat) : Int) i1 i2 i6 i7 i8)))[11]? = _ := z_gs (z_gn (show 12 ≠ 11 by decide) h1)
    have q2 : (((M.set 12 (.inr (1, 200, .inl (t_txt g v T n t)))).set 11 (k_rd ((T + t : Nat) : Int) i1 i2 i6 i7 i8)))[12]? = _ := z_gn (show 11 ≠ 12 by decide) (z_gs h2)
    refine g_il rfl rfl ?_
    refine g_ifF rfl (zcF2 ⟨by omega, by omega⟩ ⟨by omega, by omega⟩ (by omega)) ?_
    refine g_al rfl rfl ?_
    refine g_gf rfl q0 rfl rfl ?_
    refine g_ll rfl rfl ?_
    refine g_ic rfl ?_
    refine g_il rfl rfl ?_
    refine g_mulI rfl ?_
    refine g_lushr rfl ?_
    refine g_l2i rfl ?_
    refine g_i2b rfl ?_
    refine g_cv1v rfl rfl q1 rfl (by decide) rfl (c_append (T := T + t) q1 q2 (by omega)) ?_
    rw [w_two (by decide)]
    have e1 : vp_nar .byte (v.toUInt64 >>> ((zI (8 * ((n : Int) - 1 - (t : Int)))).toInt64.toUInt64 &&& Int64.toUInt64 63)).toInt64.toInt32.toInt8.toInt32 = p_byte v (n - 1 - t) := by
      rw [pk_vb, show (n : Int) - 1 - (t : Int) = ((n - 1 - t : Nat) : Int) by omega]
      rfl
    rw [e1, t_txt_s, show T + t + 1 = T + (t + 1) by omega]
    refine g_jj4 rfl rfl ?_
    refine g_goto rfl ?_
    rw [show (n : Int) - 1 - (t : Int) + (-1) = (n : Int) - 1 - ((t + 1 : Nat) : Int) by omega]
    exact ih (t + 1) (by omega)
theorem x_type {v : Int64} {n : Int} (hn9 : z_sm n) : z_Xc S 70 [.long v, .int (zI n)] ((T, tx), (W, H, L), (hs, lot, nc, kc), im, tr) (.int (zI (v_type T n))) (t_type T tx v n, (W, H, L), (hs, lot, nc, kc), im, tr) := by
  intro d M hX
  obtain ⟨x1, x2, x3, x4, x5, x6, x7, x8⟩ := id hX
  have hA : k_A M 1 W H L hs lot nc kc := x3
  obtain ⟨ha, hO, ch, hR, hk9⟩ := id hA
  obtain ⟨o1, ⟨hW1, hW2⟩, ⟨hH1, hH2⟩, ⟨hL1, hL2⟩, hn⟩ := id hO
  have hC := p_WH hW2 hH2
  obtain ⟨t1, ⟨i1, i2, i6, i7, i8, t2⟩, ⟨g, t3, t4⟩, ⟨vd, t5⟩, ⟨cd, t6⟩, rt, t7⟩ := id x4
  have t4 : ∀ j, j < T → g j = tx j := t4
  have t1 : T ≤ 200 := t1
  have t2 : M[11]? = some (k_rd (T : Int) i1 i2 i6 i7 i8) := t2
  unfold v_type t_type
  by_cases hv : 1 ≤ n ∧ n ≤ 8
  · obtain ⟨q, rfl⟩ : ∃ q : Nat, n = (q : Int) := ⟨n.toNat, by omega⟩
    rw [if_pos hv]
    by_cases hf : 200 < (T : Int) + (q : Int)
    · rw [if_pos hf, if_neg (fun g => g.2 hf)]
      refine ⟨M, ?_, hX, .rf⟩
      refine c_of rfl rfl (Nat.le_of_ble_eq_true rfl) ?_
      refine g_il rfl rfl ?_
      refine g_ic rfl ?_
      refine g_icF rfl (zcF2 ⟨by omega, by omega⟩ ⟨by omega, by omega⟩ (by omega)) ?_
      refine g_il rfl rfl ?_
      refine g_ic rfl ?_
      refine g_icT rfl (zcT5 ⟨by omega, by omega⟩ ⟨by omega, by omega⟩ (by omega)) ?_
      refine g_al rfl rfl ?_
      refine g_gf rfl x2 rfl rfl ?_
      refine g_gf rfl t2 rfl rfl ?_
      refine g_il rfl rfl ?_
      refine g_addI rfl ?_
      refine g_ic rfl ?_
      refine g_icF rfl (zcF5 ⟨by omega, by omega⟩ ⟨by omega, by omega⟩ (by omega)) ?_
      refine g_ic rfl ?_
      exact g_reti rfl (rfl) rfl
    · rw [if_neg hf, if_pos ⟨hv, hf⟩, Int.toNat_natCast, show (T : Int) + (q : Int) = ((T + q : Nat) : Int) by omega]
      have e9 : z_ev M ((M.set 12 (.inr (1, 200, .inl (t_txt g v T q q)))).set 11 (k_rd ((T + q : Nat) : Int) i1 i2 i6 i7 i8)) (fun k => k = 11 ∨ k = 12) := (z_ev.set (Or.inr rfl)).tr (.set (Or.inl rfl))
      refine ⟨_, ?_, hX.read (T' := T + q) (tx' := t_txt tx v T q q) (e9.wk (fun k g => by omega)) ⟨by omega, ⟨i1, i2, i6, i7, i8, z_gs (z_gn (by decide) t2)⟩, ⟨_, z_gn (by decide) (z_gs t3), fun j hj => ?_⟩, ⟨vd, t5.ev e9 (by decide)⟩, ⟨cd, t6.eqv e9 (fun k g1 g2 => by omega)⟩, rt, t7.eqv e9 (by decide) (by decide)⟩, e9.wk (fun k g => by omega)⟩
      · refine c_of rfl rfl (Nat.le_of_ble_eq_true rfl) ?_
        refine g_il rfl rfl ?_
        refine g_ic rfl ?_
        refine g_icF rfl (zcF2 ⟨by omega, by omega⟩ ⟨by omega, by omega⟩ (by omega)) ?_
        refine g_il rfl rfl ?_
        refine g_ic rfl ?_
        refine g_icT rfl (zcT5 ⟨by omega, by omega⟩ ⟨by omega, by omega⟩ (by omega)) ?_
        refine g_al rfl rfl ?_
        refine g_gf rfl x2 rfl rfl ?_
        refine g_gf rfl t2 rfl rfl ?_
        refine g_il rfl rfl ?_
        refine g_addI rfl ?_
        refine g_ic rfl ?_
        refine g_icT rfl (zcT5 ⟨by omega, by omega⟩ ⟨by omega, by omega⟩ (by omega)) ?_
        refine g_il rfl rfl ?_
        refine g_ic rfl ?_
        refine g_subI rfl ?_
        refine g_is4 rfl rfl ?_
        have e1 := x_type_l (S := S) (d := d + 19) (T := T) (n := q) (v := v) x2 t2 t3 (by omega) (by omega) q 0 (by omega)
        rw [t_txt_0, show T + 0 = T from rfl, z_same t3, z_same t2, show (q : Int) - 1 - ((0 : Nat) : Int) = (q : Int) - 1 by omega] at e1
        exact e1
      · show t_txt g v T q q j = t_txt tx v T q q j
        unfold t_txt
        by_cases h5 : T ≤ j ∧ j < T + q
        · rw [if_pos h5, if_pos h5]
        · rw [if_neg h5, if_neg h5]
          exact t4 j (by omega)
  · rw [if_neg hv, if_neg (fun g => hv g.1)]
    refine ⟨M, ?_, hX, .rf⟩
    refine c_of rfl rfl (Nat.le_of_ble_eq_true rfl) ?_
    refine g_il rfl rfl ?_
    refine g_ic rfl ?_
    by_cases hl : n < 1
    · refine g_icT rfl (zcT2 ⟨by omega, by omega⟩ ⟨by omega, by omega⟩ (hl)) ?_
      refine g_ic rfl ?_
      exact g_reti rfl (rfl) rfl
    · refine g_icF rfl (zcF2 ⟨by omega, by omega⟩ ⟨by omega, by omega⟩ (hl)) ?_
      refine g_il rfl rfl ?_
      refine g_ic rfl ?_
      refine g_icF rfl (zcF5 ⟨by omega, by omega⟩ ⟨by omega, by omega⟩ (by omega)) ?_
      refine g_ic rfl ?_
      exact g_reti rfl (rfl) rfl
theorem y_type_l {u : Nat → Int32} {g : Nat → Int32} {v : Int64} (h1 : M[62]? = some (.inl (6, m_f tr u))) (h2 : M[63]? = some (.inr (1, 200, .inl g))) (hn : n ≤ 8) (hT : T + n ≤ 200) : ∀ (m t : Nat), t + m = n → z_G S (d + 1) 103 32 [some (.ref 62), some (.long v), none, some (.int (zI (n : Int))), some (.int (zI ((n : Int) - 1 - (t : Int))))] [] ((M.set 63 (.inr (1, 200, .inl (t_txt g v T n t)))).set 62 (.inl (6, m_f tr (upd u 2 (zI ((T + t : Nat) : Int)))))) (some (.int (zI ((T + n : Nat) : Int)))) ((M.set 63 (.inr (1, 200, .inl (t_txt g v T n n)))).set 62 (.inl (6, m_f tr (upd u 2 (zI ((T + n : Nat) : Int)))))) := by
  intro m
  induction m with
  | zero =>
    intro t ht
    have q0 : (((M.set 63 (.inr (1, 200, .inl (t_txt g v T n t)))).set 62 (.inl (6, m_f tr (upd u 2 (zI ((T + t : Nat) : Int)))))))[62]? = _ := z_gs (z_gn (show 63 ≠ 62 by decide) h1)
    have q1 : (((M.set 63 (.inr (1, 200, .inl (t_txt g v T n t)))).set 62 (.inl (6, m_f tr (upd u 2 (zI ((T + t : Nat) : Int)))))))[63]? = _ := z_gn (show 62 ≠ 63 by decide) (z_gs h2)
    refine g_il rfl rfl ?_
    refine g_ifT rfl (zcT2 ⟨by omega, by omega⟩ ⟨by omega, by omega⟩ (by omega)) ?_
    refine g_al rfl rfl ?_
    refine g_gf rfl q0 rfl rfl ?_
    rw [show t = n by omega]
    exact g_reti rfl (rfl) rfl
  | succ m ih =>
    intro t ht
    have q0 : (((M.set 63 (.inr (1, 200, .inl (t_txt g v T n t)))).set 62 (.inl (6, m_f tr (upd u 2 (zI ((T + t : Nat) : Int)))))))[62]? = _ := z_gs (z_gn (show 63 ≠ 62 by decide) h1)
    have q1 : (((M.set 63 (.inr (1, 200, .inl (t_txt g v T n t)))).set 62 (.inl (6, m_f tr (upd u 2 (zI ((T + t : Nat) : Int)))))))[63]? = _ := z_gn (show 62 ≠ 63 by decide) (z_gs h2)
    refine g_il rfl rfl ?_
    refine g_ifF rfl (zcF2 ⟨by omega, by omega⟩ ⟨by omega, by omega⟩ (by omega)) ?_
    refine g_al rfl rfl ?_
    refine g_gf rfl q0 rfl rfl ?_
    refine g_al rfl rfl ?_
    refine g_gf rfl q0 rfl rfl ?_
    refine g_ll rfl rfl ?_
    refine g_ic rfl ?_
    refine g_il rfl rfl ?_
    refine g_mulI rfl ?_
    refine g_lshr rfl ?_
    refine g_lc rfl ?_
    refine g_land rfl ?_
    refine g_l2i rfl ?_
    refine g_i2b rfl ?_
    rw [show upd u 2 (zI ((T + t : Nat) : Int)) 2 = zI ((T + t : Nat) : Int) from pk_us]
    refine g_bSI rfl q1 (by omega) (by omega) (by omega) ?_
    rw [Int.toNat_natCast, pk_vb]
    have e1 : ((v >>> ((zI (8 * ((n : Int) - 1 - (t : Int)))).toInt64 &&& 63)) &&& Int64.ofInt 255).toInt32.toInt8.toInt32 = p_byte v (n - 1 - t) := by
      rw [show (n : Int) - 1 - (t : Int) = ((n - 1 - t : Nat) : Int) by omega]
      exact p_byte_ref v (by omega)
    rw [e1, t_txt_s]
    refine g_al rfl rfl ?_
    refine g_dupA rfl ?_
    refine g_gf rfl (z_gn (by decide) q0) rfl rfl ?_
    refine g_ic rfl ?_
    refine g_addI rfl ?_
    refine g_pf2 rfl (z_gn (by decide) q0) rfl rfl rfl (Or.inl rfl) ?_
    rw [w_two (by decide)]
    refine g_jj4 rfl rfl ?_
    refine g_goto rfl ?_
    rw [show (n : Int) - 1 - (t : Int) + (-1) = (n : Int) - 1 - ((t + 1 : Nat) : Int) by omega]
    exact ih (t + 1) (by omega)
theorem upd_self {u : Nat → Int32} {k : Nat} {x : Int32} (h : u k = x) (j : Nat) : upd u k x j = u j := by
  by_cases hj : j = k
  · subst hj
    rw [pk_us, h]
  · rw [pk_un hj]
theorem y_type {v : Int64} {n : Int} (hn9 : z_sm n) : z_Yc S 103 [.long v, .int (zI n)] ((T, tx), (W, H, L), (hs, lot, nc, kc), im, tr) (.int (zI (v_type T n))) (t_type T tx v n, (W, H, L), (hs, lot, nc, kc), im, tr) := by
  intro d M hY
  obtain ⟨y1, u, wd, hd, ld, nw, h, y3, y4, y5, y6, y7, y8⟩ := id hY
  have h : m_Y M tr u wd hd ld nw W H L hs lot nc kc := h
  obtain ⟨⟨h1, h2, h3, h4, h5⟩, ⟨w1, w2, w3⟩, ⟨⟨hW1, hW2⟩, ⟨hH1, hH2⟩, ⟨hL1, hL2⟩, hn⟩, ⟨a1, a2, a3, a4⟩, hok⟩ := id h
  have hC := p_WH hW2 hH2
  obtain ⟨g, g1, g2⟩ := y5
  obtain ⟨kf, k1, k2⟩ := y6
  have g2 : ∀ j, j < T → g j = tx j := g2
  have y4 : T ≤ 200 := y4
  have y3 : u 2 = zI (T : Int) := y3
  unfold v_type t_type
  by_cases hv : 1 ≤ n ∧ n ≤ 8
  · obtain ⟨q, rfl⟩ : ∃ q : Nat, n = (q : Int) := ⟨n.toNat, by omega⟩
    rw [if_pos hv]
    by_cases hf : 200 < (T : Int) + (q : Int)
    · rw [if_pos hf, if_neg (fun g => g.2 hf)]
      refine ⟨M, ?_, hY, .rf⟩
      refine c_of rfl rfl (Nat.le_of_ble_eq_true rfl) ?_
      refine g_il rfl rfl ?_
      refine g_ic rfl ?_
      refine g_ic rfl ?_
      refine g_cs3 rfl rfl rfl rfl (m_in hn9 ⟨by omega, by omega⟩ ⟨by omega, by omega⟩) ?_
      rw [if_pos hv]
      refine g_ifT rfl (zcT1 ⟨by omega, by omega⟩ ⟨by omega, by omega⟩ (by decide)) ?_
      refine g_al rfl rfl ?_
      refine g_gf rfl h1 rfl rfl ?_
      refine g_il rfl rfl ?_
      rw [y3]
      refine g_addI rfl ?_
      refine g_ic rfl ?_
      refine g_icF rfl (zcF5 ⟨by omega, by omega⟩ ⟨by omega, by omega⟩ (by omega)) ?_
      refine g_ic rfl ?_
      exact g_reti rfl (rfl) rfl
    · rw [if_neg hf, if_pos ⟨hv, hf⟩, Int.toNat_natCast, show (T : Int) + (q : Int) = ((T + q : Nat) : Int) by omega]
      have e9 : z_ev M ((M.set 63 (.inr (1, 200, .inl (t_txt g v T q q)))).set 62 (.inl (6, m_f tr (upd u 2 (zI ((T + q : Nat) : Int)))))) (fun k => k = 62 ∨ k = 63) := (z_ev.set (Or.inr rfl)).tr (.set (Or.inl rfl))
      refine ⟨_, ?_, ⟨by rw [e9.1]; exact y1, upd u 2 (zI ((T + q : Nat) : Int)), wd, hd, ld, nw, ⟨⟨z_gs (z_gn (by decide) h1), (e9.2 64 (by decide)).trans h2, (e9.2 65 (by decide)).trans h3, (e9.2 66 (by decide)).trans h4, (e9.2 67 (by decide)).trans h5⟩, ⟨w1, w2, w3⟩, ⟨⟨hW1, hW2⟩, ⟨hH1, hH2⟩, ⟨hL1, hL2⟩, hn⟩, ⟨a1, a2, a3, a4⟩, hok⟩, pk_us, by show T + q ≤ 200; omega, ⟨_, z_gn (by decide) (z_gs g1), fun j hj => ?_⟩, ⟨kf, (e9.2 68 (by decide)).trans k1, k2⟩, y7, y8.ev e9 (fun k g1 g2 => by omega)⟩, e9.wk (fun k g => by omega)⟩
      · refine c_of rfl rfl (Nat.le_of_ble_eq_true rfl) ?_
        refine g_il rfl rfl ?_
        refine g_ic rfl ?_
        refine g_ic rfl ?_
        refine g_cs3 rfl rfl rfl rfl (m_in hn9 ⟨by omega, by omega⟩ ⟨by omega, by omega⟩) ?_
        rw [if_pos hv]
        refine g_ifT rfl (zcT1 ⟨by omega, by omega⟩ ⟨by omega, by omega⟩ (by decide)) ?_
        refine g_al rfl rfl ?_
        refine g_gf rfl h1 rfl rfl ?_
        refine g_il rfl rfl ?_
        rw [y3]
        refine g_addI rfl ?_
        refine g_ic rfl ?_
        refine g_icT rfl (zcT5 ⟨by omega, by omega⟩ ⟨by omega, by omega⟩ (by omega)) ?_
        refine g_il rfl rfl ?_
        refine g_ic rfl ?_
        refine g_subI rfl ?_
        refine g_is4 rfl rfl ?_
        have e1 := y_type_l (S := S) (d := d + 19) (T := T) (n := q) (v := v) h1 g1 (by omega) (by omega) q 0 (by omega)
        rw [t_txt_0, show T + 0 = T from rfl, z_same g1, show upd u 2 (zI (T : Int)) = u by funext j; exact upd_self y3 j, z_same h1, show (q : Int) - 1 - ((0 : Nat) : Int) = (q : Int) - 1 by omega] at e1
        exact e1
      · have hj : j < T + q := hj
        show t_txt g v T q q j = t_txt tx v T q q j
        unfold t_txt
        by_cases h5 : T ≤ j ∧ j < T + q
        · rw [if_pos h5, if_pos h5]
        · rw [if_neg h5, if_neg h5]
          exact g2 j (by omega)
  · rw [if_neg hv, if_neg (fun g => hv g.1)]
    refine ⟨M, ?_, hY, .rf⟩
    refine c_of rfl rfl (Nat.le_of_ble_eq_true rfl) ?_
    refine g_il rfl rfl ?_
    refine g_ic rfl ?_
    refine g_ic rfl ?_
    refine g_cs3 rfl rfl rfl rfl (m_in hn9 ⟨by omega, by omega⟩ ⟨by omega, by omega⟩) ?_
    rw [if_neg hv]
    refine g_ifF rfl (zcF1 (rfl)) ?_
    refine g_ic rfl ?_
    exact g_reti rfl (rfl) rfl
end PT
end
section
/-! houses counted (two rows out of kit/laws/BITS.to-paste first) -/
theorem nx_and (a b : Nat) : nI a &&& nI b = nI (a &&& b) := by
  apply Int32.toBitVec_inj.1
  show BitVec.ofNat 32 a &&& BitVec.ofNat 32 b = BitVec.ofNat 32 (a &&& b)
  apply BitVec.eq_of_getLsbD_eq
  intro i hi
  simp [hi]
theorem wb_of32 (x : Int32) : ∃ n, n < 2 ^ 32 ∧ x = nI n := ⟨x.toBitVec.toNat, x.toBitVec.isLt, Int32.toBitVec_inj.mp (by show _ = BitVec.ofNat 32 _; simp)⟩
theorem n_fold {p0 p1 p2 p3 : Nat} (h0 : p0 ≤ 8) (h1 : p1 ≤ 8) (h2 : p2 ≤ 8) (h3 : p3 ≤ 8) : (p0 + 256 * (p1 + 256 * (p2 + 256 * p3)) + (p0 + 256 * (p1 + 256 * (p2 + 256 * p3))) / 256 + (p0 + 256 * (p1 + 256 * (p2 + 256 * p3)) + (p0 + 256 * (p1 + 256 * (p2 + 256 * p3))) / 256) / 65536) % 64 = p0 + p1 + p2 + p3 := by
  have e1 : (p0 + 256 * (p1 + 256 * (p2 + 256 * p3))) / 256 = p1 + 256 * (p2 + 256 * p3) := by
    rw [Nat.add_mul_div_left _ _ (by decide), Nat.div_eq_of_lt (by omega), Nat.zero_add]
  rw [e1]
  have e2 : (p0 + 256 * (p1 + 256 * (p2 + 256 * p3)) + (p1 + 256 * (p2 + 256 * p3))) / 65536 = p2 + p3 + 256 * p3 := by
    rw [show p0 + 256 * (p1 + 256 * (p2 + 256 * p3)) + (p1 + 256 * (p2 + 256 * p3)) = (p0 + p1 + 256 * (p1 + p2)) + 65536 * (p2 + p3 + 256 * p3) by omega, Nat.add_mul_div_left _ _ (by decide), Nat.div_eq_of_lt (by omega), Nat.zero_add]
  rw [e2, show p0 + 256 * (p1 + 256 * (p2 + 256 * p3)) + (p1 + 256 * (p2 + 256 * p3)) + (p2 + p3 + 256 * p3) = (p0 + p1 + p2 + p3) + 64 * (4 * (p1 + p2 + p3) + 1024 * (p2 + p3) + 262144 * p3) by omega, Nat.add_mul_mod_self_left, Nat.mod_eq_of_lt (by omega)]
section PH
variable {S : ZS} {d : Nat} {M : ZM}
theorem c_bitCount_b {b0 b1 b2 b3 : Nat} (h0 : b0 < 256) (h1 : b1 < 256) (h2 : b2 < 256) (h3 : b3 < 256) : z_C S d 165 [.int (nI (b0 + 256 * (b1 + 256 * (b2 + 256 * b3))))] M (some (.int (nI (n_pc b0 8 + n_pc b1 8 + n_pc b2 8 + n_pc b3 8)))) M := by
  have a1 := n_all1 h0 h1 h2 h3
  have f0 := (n_b1 b0 h0).2
  have f1 := (n_b1 b1 h1).2
  have f2 := (n_b1 b2 h2).2
  have f3 := (n_b1 b3 h3).2
  have d0 := (n_b3 b0 h0).2
  have d1 := (n_b3 b1 h1).2
  have d2 := (n_b3 b2 h2).2
  have d3 := (n_b3 b3 h3).2
  refine c_of rfl rfl (Nat.le_of_ble_eq_true rfl) ?_
  refine g_il rfl rfl ?_
  refine g_il rfl rfl ?_
  refine g_ic rfl ?_
  refine g_iushr rfl ?_
  refine g_ic rfl ?_
  refine g_iand rfl ?_
  refine g_isub rfl ?_
  refine g_is0 rfl ?_
  rw [pk_ushrN (by omega) (zI 1) 1 (by decide +kernel), show zI 1431655765 = nI 1431655765 from rfl, nx_and, show (2 : Nat) ^ 1 = 2 from rfl, pk_sub a1.2, a1.1]
  refine g_il rfl rfl ?_
  refine g_ic rfl ?_
  refine g_iand rfl ?_
  refine g_il rfl rfl ?_
  refine g_ic rfl ?_
  refine g_iushr rfl ?_
  refine g_ic rfl ?_
  refine g_iand rfl ?_
  refine g_iadd rfl ?_
  refine g_is0 rfl ?_
  rw [show zI 858993459 = nI 858993459 from rfl, nx_and, pk_ushrN (by omega) (zI 2) 2 (by decide +kernel), nx_and, show (2 : Nat) ^ 2 = 4 from rfl, nI_add, n_all2 h0 h1 h2]
  generalize hB : n_f2 b0 + 256 * (n_f2 b1 + 256 * (n_f2 b2 + 256 * n_f2 b3)) = B
  obtain ⟨c1, c2⟩ := n_all3 h0 h1 h2 h3 B hB.symm
  refine g_il rfl rfl ?_
  refine g_il rfl rfl ?_
  refine g_ic rfl ?_
  refine g_iushr rfl ?_
  refine g_iadd rfl ?_
  refine g_ic rfl ?_
  refine g_iand rfl ?_
  refine g_is0 rfl ?_
  rw [pk_ushrN (by omega) (zI 4) 4 (by decide +kernel), nI_add, show (2 : Nat) ^ 4 = 16 from rfl, show zI 252645135 = nI 252645135 from rfl, nx_and, c2]
  refine g_il rfl rfl ?_
  refine g_il rfl rfl ?_
  refine g_ic rfl ?_
  refine g_iushr rfl ?_
  refine g_iadd rfl ?_
  refine g_is0 rfl ?_
  rw [pk_ushrN (by omega) (zI 8) 8 (by decide +kernel), nI_add, show (2 : Nat) ^ 8 = 256 from rfl]
  refine g_il rfl rfl ?_
  refine g_il rfl rfl ?_
  refine g_ic rfl ?_
  refine g_iushr rfl ?_
  refine g_iadd rfl ?_
  refine g_is0 rfl ?_
  rw [pk_ushrN (by omega) (zI 16) 16 (by decide +kernel), nI_add, show (2 : Nat) ^ 16 = 65536 from rfl]
  refine g_il rfl rfl ?_
  refine g_ic rfl ?_
  refine g_iand rfl ?_
  rw [show zI 63 = nI 63 from rfl, nx_and, show (63 : Nat) = 2 ^ 6 - 1 from rfl, Nat.and_two_pow_sub_one_eq_mod, show (2 : Nat) ^ 6 = 64 from rfl]
  rw [n_fold d0 d1 d2 d3]
  exact g_reti rfl (rfl) rfl
theorem c_bitCount (x : Int32) : z_C S d 165 [.int x] M (some (.int (zI (n_pc x.toBitVec.toNat 32 : Int)))) M := by
  obtain ⟨N, hN, rfl⟩ := wb_of32 x
  rw [pk_tn hN]
  have e := c_bitCount_b (S := S) (d := d) (M := M) (b0 := N % 256) (b1 := N / 256 % 256) (b2 := N / 256 / 256 % 256) (b3 := N / 256 / 256 / 256) (by omega) (by omega) (by omega) (by omega)
  rw [show N % 256 + 256 * (N / 256 % 256 + 256 * (N / 256 / 256 % 256 + 256 * (N / 256 / 256 / 256))) = N by omega] at e
  have e2 : n_pc N 32 = n_pc (N % 256) 8 + n_pc (N / 256 % 256) 8 + n_pc (N / 256 / 256 % 256) 8 + n_pc (N / 256 / 256 / 256) 8 := by
    rw [show 32 = 8 + 24 from rfl, n_pc_8, show 24 = 8 + 16 from rfl, n_pc_8, show 16 = 8 + 8 from rfl, n_pc_8]
    rw [← Nat.add_assoc, ← Nat.add_assoc]
  rw [e2]
  exact e
end PH
/-- how many houses there are -/
def v_hc (hs : Int32) : Nat := n_pc hs.toBitVec.toNat 25
/-- houses stand on the yard's cells -/
def p_in (W H : Nat) (hs : Int32) : Prop := ∀ c, W * H ≤ c → bt hs c = false
theorem v_hc32 {W H : Nat} {hs : Int32} (h : p_in W H hs) (hC : W * H ≤ 25) : n_pc hs.toBitVec.toNat 32 = v_hc hs := by
  have z : ∀ c, 25 ≤ c → (hs.toBitVec.toNat.testBit c).toNat = 0 := fun c hc => by
    have e : hs.toBitVec.toNat.testBit c = false := h c (by omega)
    rw [e]
    rfl
  have q : ∀ k, n_pc hs.toBitVec.toNat (25 + k) = n_pc hs.toBitVec.toNat 25 := by
    intro k
    induction k with
    | zero => rfl
    | succ k ih =>
      show n_pc hs.toBitVec.toNat (25 + k) + (hs.toBitVec.toNat.testBit (25 + k)).toNat = _
      rw [ih, z _ (by omega), Nat.add_zero]
  exact q 7
theorem n_pc_le (N : Nat) : ∀ n, n_pc N n ≤ n := by
  intro n
  induction n with
  | zero => exact Nat.le_refl 0
  | succ n ih =>
    show n_pc N n + (N.testBit n).toNat ≤ n + 1
    have : (N.testBit n).toNat ≤ 1 := Bool.toNat_le _
    omega
theorem c_houseCount {S : ZS} {d : Nat} {M : ZM} {a W H L n : Nat} {hs lot : Int32} (h : k_O M a W H L hs n lot) : z_C S (d + 1) 40 [.ref a] M (some (.int (zI (n_pc hs.toBitVec.toNat 32 : Int)))) M := by
  refine c_of rfl rfl (Nat.le_of_ble_eq_true rfl) ?_
  refine g_al rfl rfl ?_
  refine g_gf rfl h.1 rfl rfl ?_
  refine g_cs1 rfl rfl rfl rfl (c_bitCount hs) ?_
  exact g_reti rfl (rfl) rfl
theorem m_houses_l {S : ZS} {d : Nat} {M : ZM} {tr : Int64} {v nw : Nat → Int32} {hs : Int32} (h1 : M[62]? = some (.inl (6, m_f tr v))) (h5 : M[67]? = some (.inr (0, 236, .inl nw))) (a1 : nw 0 = hs) : ∀ (m c : Nat), c + m = 25 → z_G S d 152 4 [some (.ref 62), some (.int (zI (n_pc hs.toBitVec.toNat c : Int))), some (.int (zI (c : Int)))] [] M (some (.int (zI (v_hc hs : Int)))) M := by
  intro m
  induction m with
  | zero =>
    intro c hc
    refine g_il rfl rfl ?_
    refine g_ic rfl ?_
    refine g_icT rfl (zcT3 ⟨by omega, by omega⟩ ⟨by omega, by omega⟩ (by omega)) ?_
    refine g_il rfl rfl ?_
    rw [show c = 25 by omega]
    exact g_reti rfl (rfl) rfl
  | succ m ih =>
    intro c hc
    refine g_il rfl rfl ?_
    refine g_ic rfl ?_
    refine g_icF rfl (zcF3 ⟨by omega, by omega⟩ ⟨by omega, by omega⟩ (by omega)) ?_
    refine g_il rfl rfl ?_
    refine g_al rfl rfl ?_
    refine g_gf rfl h1 rfl rfl ?_
    refine g_ic rfl ?_
    refine g_iaI rfl (by decide) h5 (by omega) (by omega) (by omega) ?_
    rw [show nw (Int.toNat 0) = hs from a1]
    refine g_il rfl rfl ?_
    refine g_ishr rfl ?_
    refine g_ic rfl ?_
    refine g_iand rfl ?_
    rw [z_bit hs (c := c) (by omega), show (if bt hs c = true then (1 : Int) else 0) = (((hs.toBitVec.toNat.testBit c).toNat : Nat) : Int) by rw [show hs.toBitVec.toNat.testBit c = bt hs c from rfl]; cases bt hs c <;> rfl]
    refine g_addI rfl ?_
    refine g_is1 rfl rfl ?_
    refine g_jj2 rfl rfl ?_
    refine g_goto rfl ?_
    rw [← Int.natCast_add]
    exact ih (c + 1) (by omega)
theorem m_houses {S : ZS} {d : Nat} {M : ZM} {tr : Int64} {v nw : Nat → Int32} {hs : Int32} (h1 : M[62]? = some (.inl (6, m_f tr v))) (h5 : M[67]? = some (.inr (0, 236, .inl nw))) (a1 : nw 0 = hs) : z_C S d 152 [.ref 62] M (some (.int (zI (v_hc hs : Int)))) M := by
  refine c_of rfl rfl (Nat.le_of_ble_eq_true rfl) ?_
  refine g_ic rfl ?_
  refine g_is1 rfl rfl ?_
  refine g_ic rfl ?_
  refine g_is2 rfl rfl ?_
  exact m_houses_l h1 h5 a1 25 0 (by omega)
end
section
/-! count, build, raze -/
theorem q_msk_bit {W H f : Nat} {s : Nat → Int} (hf : f < 32) : ∀ (N i c : Nat), (∀ j x, q_pos W H f s j = some x → x < 32) → i ≤ N → q_pos W H f s i = some c → bt (q_msk W H f s N) c = true := by
  intro N
  induction N with
  | zero =>
    intro i c hb hi h
    obtain rfl : i = 0 := by omega
    cases h
    show bt (zI 1 <<< (zI (f : Int) &&& 31)) f = true
    rw [b_pow hf hf]
    exact decide_eq_true rfl
  | succ N ih =>
    intro i c hb hi h
    show bt (q_msk W H f s N ||| (zI 1 <<< (zI (oI (q_pos W H f s (N + 1)) 0) &&& 31))) c = true
    rw [b_or]
    by_cases e : i = N + 1
    · subst e
      rw [h]
      have := hb _ _ h
      rw [show oI (some c) 0 = (c : Int) from rfl, b_pow this this, decide_eq_true rfl, Bool.or_true]
    · rw [ih i c hb (by omega) h, Bool.true_or]
theorem p_trod_bit {f : Nat → Int32} {c : Nat} : ∀ (n k : Nat), k < n → bt (f k) c = true → bt (p_trod f n) c = true := by
  intro n
  induction n with
  | zero => intro k hk; omega
  | succ n ih =>
    intro k hk h
    show bt (p_trod f n ||| f n) c = true
    rw [b_or]
    by_cases e : k = n
    · subst e
      rw [h, Bool.or_true]
    · rw [ih k (by omega) h, Bool.true_or]
/-- fewer houses, or houses off the chain's cells: the chain stays right -/
theorem p_ok.houses {W H : Nat} {hs hs' : Int32} {k : ZK} (h : p_ok W H hs k) (g : ∀ i c, i ≤ k.2.1 → q_pos W H k.1 k.2.2 i = some c → ¬ bt hs c = true → ¬ bt hs' c = true) : p_ok W H hs' k :=
  ⟨h.1, h.2.1, h.2.2.1, fun i hi => by
    obtain ⟨c, h1, h2⟩ := h.2.2.2 i hi
    exact ⟨c, h1, g i c hi h1 h2⟩⟩
def h_add (hs : Int32) (c : Nat) : Int32 := hs ||| (zI 1 <<< (zI (c : Int) &&& 31))
def h_del (hs : Int32) (c : Nat) : Int32 := hs &&& ((zI 1 <<< (zI (c : Int) &&& 31)) ^^^ zI (-1))
theorem h_add_bt {hs : Int32} {c i : Nat} (hc : c < 32) (hi : i < 32) : bt (h_add hs c) i = (bt hs i || decide (i = c)) := by
  unfold h_add
  rw [b_or, b_pow hc hi]
theorem h_del_bt {hs : Int32} {c i : Nat} (hc : c < 32) (hi : i < 32) : bt (h_del hs c) i = (bt hs i && !decide (i = c)) := by
  unfold h_del
  rw [b_and, b_neg _ hi, b_pow hc hi]
theorem h_add_ok {W H n : Nat} {hs : Int32} {kc : Nat → ZK} {c : Nat} (hC : W * H ≤ 25) (hc : c < W * H) (ht : ¬ bt (v_trod W H n kc) c = true) (hok : ∀ k, k < n → p_ok W H hs (kc k)) : ∀ k, k < n → p_ok W H (h_add hs c) (kc k) := by
  intro k hk
  have h0 := hok k hk
  refine h0.houses (fun i x hi hx hb => ?_)
  have hx9 := q_lt h0.1 i x hx
  rw [h_add_bt (by omega) (by omega)]
  intro g
  have hb : bt hs x = false := by
    cases e : bt hs x with
    | true => exact absurd e hb
    | false => rfl
  rw [hb, Bool.false_or] at g
  have g := of_decide_eq_true g
  subst g
  refine ht (p_trod_bit n k hk (q_msk_bit (by have := h0.1; omega) _ i x (fun j y hy => by have := q_lt h0.1 j y hy; omega) hi hx))
theorem h_del_ok {W H n : Nat} {hs : Int32} {kc : Nat → ZK} {c : Nat} (hC : W * H ≤ 25) (hc : c < W * H) (hok : ∀ k, k < n → p_ok W H hs (kc k)) : ∀ k, k < n → p_ok W H (h_del hs c) (kc k) := by
  intro k hk
  have h0 := hok k hk
  refine h0.houses (fun i x hi hx hb => ?_)
  have hx9 := q_lt h0.1 i x hx
  rw [h_del_bt (by omega) (by omega)]
  intro g
  rw [Bool.and_eq_true] at g
  exact hb g.1
theorem h_add_in {W H : Nat} {hs : Int32} {c : Nat} (hC : W * H ≤ 25) (hc : c < W * H) (h : p_in W H hs) : p_in W H (h_add hs c) := by
  intro i hi
  by_cases h32 : i < 32
  · rw [h_add_bt (by omega) h32, h i hi, decide_eq_false (by omega)]
    rfl
  · exact b_big (by omega)
theorem h_del_in {W H : Nat} {hs : Int32} {c : Nat} (hC : W * H ≤ 25) (hc : c < W * H) (h : p_in W H hs) : p_in W H (h_del hs c) := by
  intro i hi
  by_cases h32 : i < 32
  · rw [h_del_bt (by omega) h32, h i hi]
    rfl
  · exact b_big (by omega)
theorem k_A.house {M : ZM} {a W H L n : Nat} {hs hs' lot : Int32} {kc : Nat → ZK} (h : k_A M a W H L hs lot n kc) (hok : ∀ k, k < n → p_ok W H hs' (kc k)) : k_A (M.set a (.inl (2, [.int (zI (W : Int)), .int (zI (H : Int)), .int (zI (L : Int)), .int hs', .int (zI (n : Int)), .int lot, .ref (a + 1)]))) a W H L hs' lot n kc := by
  obtain ⟨h1, hO, ch, hR, hk⟩ := h
  obtain ⟨o1, o2, o3, o4, o5⟩ := hO
  exact ⟨h1, ⟨z_gs o1, o2, o3, o4, o5⟩, ch, hR.upd (fun g => by omega) (fun k g1 g2 g3 => by omega), fun k hk' => ⟨hok k hk', (hk k hk').2⟩⟩
def v_count (W H L T n : Nat) (hs : Int32) (w : Int) : Int := if w = 0 then (W : Int) else if w = 1 then (H : Int) else if w = 2 then (L : Int) else if w = 3 then (v_hc hs : Int) else if w = 4 then (n : Int) else if w = 5 then (T : Int) else -1
def h_build (W H n : Nat) (hs : Int32) (kc : Nat → ZK) (c : Int) : Int32 := if (0 ≤ c ∧ c < ((W * H : Nat) : Int)) ∧ ¬ bt hs c.toNat = true ∧ ¬ bt (v_trod W H n kc) c.toNat = true then h_add hs c.toNat else hs
def v_build (W H n : Nat) (hs : Int32) (kc : Nat → ZK) (c : Int) : Int := if (0 ≤ c ∧ c < ((W * H : Nat) : Int)) then (if ¬ bt hs c.toNat = true ∧ ¬ bt (v_trod W H n kc) c.toNat = true then (v_hc (h_add hs c.toNat) : Int) else -2) else -1
def h_raze (W H : Nat) (hs : Int32) (c : Int) : Int32 := if (0 ≤ c ∧ c < ((W * H : Nat) : Int)) ∧ bt hs c.toNat = true then h_del hs c.toNat else hs
def v_raze (W H : Nat) (hs : Int32) (c : Int) : Int := if (0 ≤ c ∧ c < ((W * H : Nat) : Int)) then (if bt hs c.toNat = true then (v_hc (h_del hs c.toNat) : Int) else -2) else -1
section PB
variable {S : ZS} {T : Nat} {tx : Nat → Int32} {W H L n : Nat} {hs lot : Int32} {kc : Nat → ZK} {im : Nat → Option ZB} {tr : Int64}
theorem m_cell {d : Nat} {M : ZM} {v wd hd ld nw : Nat → Int32} (h : m_Y M tr v wd hd ld nw W H L hs lot n kc) {c : Int} (hc : z_sm c) : z_C S (d + 3) 125 [.ref 62, .int (zI c)] M (some (.int (zI (v_cell W H hs n kc c)))) M := by
  obtain ⟨⟨h1, h2, h3, h4, h5⟩, ⟨w1, w2, w3⟩, ⟨⟨hW1, hW2⟩, ⟨hH1, hH2⟩, ⟨hL1, hL2⟩, hn⟩, ⟨a1, a2, a3, a4⟩, hok⟩ := id h
  have hC := p_WH hW2 hH2
  refine c_of rfl rfl (Nat.le_of_ble_eq_true rfl) ?_
  refine g_al rfl rfl ?_
  refine g_il rfl rfl ?_
  refine g_cv1 rfl rfl h1 rfl (by decide) rfl (m_isCell h hc) ?_
  unfold v_cell
  by_cases h0 : 0 ≤ c ∧ c < ((W * H : Nat) : Int)
  · rw [if_pos h0, if_pos h0]
    refine g_ifT rfl (zcT1 ⟨by omega, by omega⟩ ⟨by omega, by omega⟩ (by decide)) ?_
    refine g_al rfl rfl ?_
    refine g_il rfl rfl ?_
    obtain ⟨q, rfl⟩ : ∃ q : Nat, c = (q : Int) := ⟨c.toNat, by omega⟩
    rw [Int.toNat_natCast]
    refine g_cv1 rfl rfl h1 rfl (by decide) rfl (m_isHouse h (c := q) (by omega)) ?_
    by_cases hb : bt hs q = true
    · rw [if_pos hb, if_pos hb]
      refine g_ifF rfl (zcF0 ⟨by omega, by omega⟩ ⟨by omega, by omega⟩ (by decide)) ?_
      refine g_ic rfl ?_
      refine g_goto rfl ?_
      exact g_reti rfl (rfl) rfl
    · rw [if_neg hb, if_neg hb]
      refine g_ifT rfl (zcT0 (rfl)) ?_
      refine g_al rfl rfl ?_
      refine g_cv0 rfl rfl h1 rfl (by decide) rfl (m_onChains h) ?_
      refine g_il rfl rfl ?_
      refine g_ishr rfl ?_
      refine g_ic rfl ?_
      refine g_iand rfl ?_
      refine g_ic rfl ?_
      rw [show p_trod (fun k => q_msk W H (kc k).1 (kc k).2.2 (kc k).2.1) n = v_trod W H n kc from rfl, z_bit _ (c := q) (by omega)]
      by_cases ht : bt (v_trod W H n kc) q = true
      · rw [if_pos ht, if_pos ht]
        refine g_icF rfl (zcF1 (rfl)) ?_
        refine g_ic rfl ?_
        refine g_goto rfl ?_
        exact g_reti rfl (rfl) rfl
      · rw [if_neg ht, if_neg ht]
        refine g_icT rfl (zcT1 ⟨by omega, by omega⟩ ⟨by omega, by omega⟩ (by decide)) ?_
        refine g_ic rfl ?_
        exact g_reti rfl (rfl) rfl
  · rw [if_neg h0, if_neg h0]
    refine g_ifF rfl (zcF1 (rfl)) ?_
    refine g_ic rfl ?_
    refine g_goto rfl ?_
    exact g_reti rfl (rfl) rfl
theorem x_count (hp : p_in W H hs) {w : Int} (hw9 : z_sm w) : z_Xc S 92 [.int (zI w)] ((T, tx), (W, H, L), (hs, lot, n, kc), im, tr) (.int (zI (v_count W H L T n hs w))) ((T, tx), (W, H, L), (hs, lot, n, kc), im, tr) := by
  intro d M hX
  obtain ⟨x1, x2, x3, x4, x5, x6, x7, x8⟩ := id hX
  have hA : k_A M 1 W H L hs lot n kc := x3
  obtain ⟨ha, hO, ch, hR, hk9⟩ := id hA
  obtain ⟨o1, ⟨hW1, hW2⟩, ⟨hH1, hH2⟩, ⟨hL1, hL2⟩, hn⟩ := id hO
  have hC := p_WH hW2 hH2
  obtain ⟨t1, ⟨i1, i2, i6, i7, i8, t2⟩, ⟨g, t3, t4⟩, ⟨vd, t5⟩, ⟨cd, t6⟩, rt, t7⟩ := id x4
  refine ⟨M, ?_, hX, .rf⟩
  refine c_of rfl rfl (Nat.le_of_ble_eq_true rfl) ?_
  refine g_il rfl rfl ?_
  unfold v_count
  rcases (show w = 0 ∨ w = 1 ∨ w = 2 ∨ w = 3 ∨ w = 4 ∨ w = 5 ∨ (w < 0 ∨ 5 < w) by omega) with hw | hw | hw | hw | hw | hw | hw
  · subst hw
    refine g_tsI rfl (by rw [zI_toInt ⟨by omega, by omega⟩]; omega) (v := 40) (by rw [zI_toInt ⟨by omega, by omega⟩]; rfl) ?_
    refine g_al rfl rfl ?_
    refine g_gf rfl x2 rfl rfl ?_
    refine g_gf rfl o1 rfl rfl ?_
    exact g_reti rfl (rfl) rfl
  · subst hw
    refine g_tsI rfl (by rw [zI_toInt ⟨by omega, by omega⟩]; omega) (v := 48) (by rw [zI_toInt ⟨by omega, by omega⟩]; rfl) ?_
    refine g_al rfl rfl ?_
    refine g_gf rfl x2 rfl rfl ?_
    refine g_gf rfl o1 rfl rfl ?_
    exact g_reti rfl (rfl) rfl
  · subst hw
    refine g_tsI rfl (by rw [zI_toInt ⟨by omega, by omega⟩]; omega) (v := 56) (by rw [zI_toInt ⟨by omega, by omega⟩]; rfl) ?_
    refine g_al rfl rfl ?_
    refine g_gf rfl x2 rfl rfl ?_
    refine g_gf rfl o1 rfl rfl ?_
    exact g_reti rfl (rfl) rfl
  · subst hw
    refine g_tsI rfl (by rw [zI_toInt ⟨by omega, by omega⟩]; omega) (v := 64) (by rw [zI_toInt ⟨by omega, by omega⟩]; rfl) ?_
    refine g_al rfl rfl ?_
    refine g_gf rfl x2 rfl rfl ?_
    refine g_cv0 rfl rfl o1 rfl (by decide) rfl (c_houseCount hO) ?_
    rw [v_hc32 hp hC]
    exact g_reti rfl (rfl) rfl
  · subst hw
    refine g_tsI rfl (by rw [zI_toInt ⟨by omega, by omega⟩]; omega) (v := 72) (by rw [zI_toInt ⟨by omega, by omega⟩]; rfl) ?_
    refine g_al rfl rfl ?_
    refine g_gf rfl x2 rfl rfl ?_
    refine g_gf rfl o1 rfl rfl ?_
    exact g_reti rfl (rfl) rfl
  · subst hw
    refine g_tsI rfl (by rw [zI_toInt ⟨by omega, by omega⟩]; omega) (v := 80) (by rw [zI_toInt ⟨by omega, by omega⟩]; rfl) ?_
    refine g_al rfl rfl ?_
    refine g_gf rfl x2 rfl rfl ?_
    refine g_gf rfl t2 rfl rfl ?_
    exact g_reti rfl (rfl) rfl
  · refine g_tsO rfl (by rw [zI_toInt hw9]; exact hw) ?_
    refine g_ic rfl ?_
    exact g_reti rfl (by rw [if_neg (by omega), if_neg (by omega), if_neg (by omega), if_neg (by omega), if_neg (by omega), if_neg (by omega)]) rfl
theorem y_count {w : Int} (hw9 : z_sm w) : z_Yc S 163 [.int (zI w)] ((T, tx), (W, H, L), (hs, lot, n, kc), im, tr) (.int (zI (v_count W H L T n hs w))) ((T, tx), (W, H, L), (hs, lot, n, kc), im, tr) := by
  intro d M hY
  obtain ⟨y1, v, wd, hd, ld, nw, h, y3, y4, y5, y6, y7, y8⟩ := id hY
  have h : m_Y M tr v wd hd ld nw W H L hs lot n kc := h
  obtain ⟨⟨h1, h2, h3, h4, h5⟩, ⟨w1, w2, w3⟩, ⟨⟨hW1, hW2⟩, ⟨hH1, hH2⟩, ⟨hL1, hL2⟩, hn⟩, ⟨a1, a2, a3, a4⟩, hok⟩ := id h
  have hC := p_WH hW2 hH2
  refine ⟨M, ?_, hY, .rf⟩
  refine c_of rfl rfl (Nat.le_of_ble_eq_true rfl) ?_
  refine g_il rfl rfl ?_
  unfold v_count
  rcases (show w = 0 ∨ w = 1 ∨ w = 2 ∨ w = 3 ∨ w = 4 ∨ w = 5 ∨ (w < 0 ∨ 5 < w) by omega) with hw | hw | hw | hw | hw | hw | hw
  · subst hw
    refine g_tsI rfl (by rw [zI_toInt ⟨by omega, by omega⟩]; omega) (v := 40) (by rw [zI_toInt ⟨by omega, by omega⟩]; rfl) ?_
    refine g_al rfl rfl ?_
    refine g_gf rfl h1 rfl rfl ?_
    refine g_ic rfl ?_
    refine g_iaI rfl (by decide) h2 (by omega) (by omega) (by omega) ?_
    rw [show wd (Int.toNat 0) = zI (W : Int) from w1]
    exact g_reti rfl (rfl) rfl
  · subst hw
    refine g_tsI rfl (by rw [zI_toInt ⟨by omega, by omega⟩]; omega) (v := 47) (by rw [zI_toInt ⟨by omega, by omega⟩]; rfl) ?_
    refine g_al rfl rfl ?_
    refine g_gf rfl h1 rfl rfl ?_
    refine g_ic rfl ?_
    refine g_iaI rfl (by decide) h3 (by omega) (by omega) (by omega) ?_
    rw [show hd (Int.toNat 0) = zI (H : Int) from w2]
    exact g_reti rfl (rfl) rfl
  · subst hw
    refine g_tsI rfl (by rw [zI_toInt ⟨by omega, by omega⟩]; omega) (v := 54) (by rw [zI_toInt ⟨by omega, by omega⟩]; rfl) ?_
    refine g_al rfl rfl ?_
    refine g_gf rfl h1 rfl rfl ?_
    refine g_ic rfl ?_
    refine g_iaI rfl (by decide) h4 (by omega) (by omega) (by omega) ?_
    rw [show ld (Int.toNat 0) = zI (L : Int) from w3]
    exact g_reti rfl (rfl) rfl
  · subst hw
    refine g_tsI rfl (by rw [zI_toInt ⟨by omega, by omega⟩]; omega) (v := 61) (by rw [zI_toInt ⟨by omega, by omega⟩]; rfl) ?_
    refine g_al rfl rfl ?_
    refine g_cv0 rfl rfl h1 rfl (by decide) rfl (m_houses h1 h5 a1) ?_
    exact g_reti rfl (rfl) rfl
  · subst hw
    refine g_tsI rfl (by rw [zI_toInt ⟨by omega, by omega⟩]; omega) (v := 66) (by rw [zI_toInt ⟨by omega, by omega⟩]; rfl) ?_
    refine g_al rfl rfl ?_
    refine g_gf rfl h1 rfl rfl ?_
    refine g_ic rfl ?_
    refine g_iaI rfl (by decide) h5 (by omega) (by omega) (by omega) ?_
    rw [show nw (Int.toNat 1) = zI (n : Int) from a2]
    exact g_reti rfl (rfl) rfl
  · subst hw
    refine g_tsI rfl (by rw [zI_toInt ⟨by omega, by omega⟩]; omega) (v := 73) (by rw [zI_toInt ⟨by omega, by omega⟩]; rfl) ?_
    refine g_al rfl rfl ?_
    refine g_gf rfl h1 rfl rfl ?_
    exact g_reti rfl (by rw [y3]; rfl) rfl
  · refine g_tsO rfl (by rw [zI_toInt hw9]; exact hw) ?_
    refine g_ic rfl ?_
    exact g_reti rfl (by rw [if_neg (by omega), if_neg (by omega), if_neg (by omega), if_neg (by omega), if_neg (by omega), if_neg (by omega)]) rfl
theorem x_build (hp : p_in W H hs) {c : Int} (hc : z_sm c) : z_Xc S 85 [.int (zI c)] ((T, tx), (W, H, L), (hs, lot, n, kc), im, tr) (.int (zI (v_build W H n hs kc c))) ((T, tx), (W, H, L), (h_build W H n hs kc c, lot, n, kc), im, tr) := by
  intro d M hX
  obtain ⟨x1, x2, x3, x4, x5, x6, x7, x8⟩ := id hX
  have hA : k_A M 1 W H L hs lot n kc := x3
  obtain ⟨ha, hO, ch, hR, hk9⟩ := id hA
  obtain ⟨o1, ⟨hW1, hW2⟩, ⟨hH1, hH2⟩, ⟨hL1, hL2⟩, hn⟩ := id hO
  have hC := p_WH hW2 hH2
  have hTR : p_trod (fun k => (ch k).2.2.2.1) n = v_trod W H n kc := p_trod_c (fun k hk => (hk9 k hk).2.2.2.2.1)
  unfold v_build h_build
  by_cases h0 : 0 ≤ c ∧ c < ((W * H : Nat) : Int)
  · obtain ⟨q, rfl⟩ : ∃ q : Nat, c = (q : Int) := ⟨c.toNat, by omega⟩
    rw [Int.toNat_natCast]
    by_cases h2 : ¬ bt hs q = true ∧ ¬ bt (v_trod W H n kc) q = true
    · rw [if_pos h0, if_pos h2, if_pos ⟨h0, h2⟩]
      refine ⟨_, ?_, hX.site (b' := (h_add hs q, lot, n, kc)) (.set (by omega)) (hA.house (hs' := h_add hs q) (h_add_ok hC (show q < W * H by omega) h2.2 (fun k hk => (hk9 k hk).1))), .set (by omega)⟩
      refine c_of rfl rfl (Nat.le_of_ble_eq_true rfl) ?_
      refine g_al rfl rfl ?_
      refine g_gf rfl x2 rfl rfl ?_
      refine g_il rfl rfl ?_
      refine g_cv1 rfl rfl o1 rfl (by decide) rfl (c_has hO hc) ?_
      rw [if_pos h0]
      refine g_ifT rfl (zcT1 ⟨by omega, by omega⟩ ⟨by omega, by omega⟩ (by decide)) ?_
      refine g_al rfl rfl ?_
      refine g_gf rfl x2 rfl rfl ?_
      refine g_il rfl rfl ?_
      refine g_cv1 rfl rfl o1 rfl (by decide) rfl (c_isOpen hO hR hc) ?_
      rw [hTR, if_pos ⟨h0.1, h0.2, h2.1, h2.2⟩]
      refine g_ifT rfl (zcT1 ⟨by omega, by omega⟩ ⟨by omega, by omega⟩ (by decide)) ?_
      refine g_al rfl rfl ?_
      refine g_gf rfl x2 rfl rfl ?_
      refine g_dupA rfl ?_
      refine g_gf rfl o1 rfl rfl ?_
      refine g_ic rfl ?_
      refine g_il rfl rfl ?_
      refine g_ishl rfl ?_
      refine g_ior rfl ?_
      refine g_pf3 rfl o1 rfl rfl rfl (Or.inl rfl) ?_
      refine g_al rfl rfl ?_
      refine g_gf rfl (z_gn (by decide) x2) rfl rfl ?_
      refine g_cv0 rfl rfl (z_gs o1) rfl (by decide) rfl (c_houseCount (W := W) (H := H) (L := L) (hs := h_add hs q) (n := n) (lot := lot) ⟨z_gs o1, ⟨hW1, hW2⟩, ⟨hH1, hH2⟩, ⟨hL1, hL2⟩, hn⟩) ?_
      rw [v_hc32 (h_add_in hC (show q < W * H by omega) hp) hC]
      exact g_reti rfl (rfl) rfl
    · rw [if_pos h0, if_neg h2, if_neg (fun g => h2 g.2)]
      refine ⟨M, ?_, hX, .rf⟩
      refine c_of rfl rfl (Nat.le_of_ble_eq_true rfl) ?_
      refine g_al rfl rfl ?_
      refine g_gf rfl x2 rfl rfl ?_
      refine g_il rfl rfl ?_
      refine g_cv1 rfl rfl o1 rfl (by decide) rfl (c_has hO hc) ?_
      rw [if_pos h0]
      refine g_ifT rfl (zcT1 ⟨by omega, by omega⟩ ⟨by omega, by omega⟩ (by decide)) ?_
      refine g_al rfl rfl ?_
      refine g_gf rfl x2 rfl rfl ?_
      refine g_il rfl rfl ?_
      refine g_cv1 rfl rfl o1 rfl (by decide) rfl (c_isOpen hO hR hc) ?_
      rw [hTR, if_neg (fun g => h2 ⟨g.2.2.1, g.2.2.2⟩)]
      refine g_ifF rfl (zcF1 (rfl)) ?_
      refine g_ic rfl ?_
      exact g_reti rfl (rfl) rfl
  · rw [if_neg h0, if_neg (fun g => h0 g.1)]
    refine ⟨M, ?_, hX, .rf⟩
    refine c_of rfl rfl (Nat.le_of_ble_eq_true rfl) ?_
    refine g_al rfl rfl ?_
    refine g_gf rfl x2 rfl rfl ?_
    refine g_il rfl rfl ?_
    refine g_cv1 rfl rfl o1 rfl (by decide) rfl (c_has hO hc) ?_
    rw [if_neg h0]
    refine g_ifF rfl (zcF1 (rfl)) ?_
    refine g_ic rfl ?_
    exact g_reti rfl (rfl) rfl
theorem y_build {c : Int} (hc : z_sm c) : z_Yc S 153 [.int (zI c)] ((T, tx), (W, H, L), (hs, lot, n, kc), im, tr) (.int (zI (v_build W H n hs kc c))) ((T, tx), (W, H, L), (h_build W H n hs kc c, lot, n, kc), im, tr) := by
  intro d M hY
  obtain ⟨y1, v, wd, hd, ld, nw, h, y3, y4, y5, y6, y7, y8⟩ := id hY
  have h : m_Y M tr v wd hd ld nw W H L hs lot n kc := h
  obtain ⟨⟨h1, h2', h3, h4, h5⟩, ⟨w1, w2, w3⟩, ⟨⟨hW1, hW2⟩, ⟨hH1, hH2⟩, ⟨hL1, hL2⟩, hn⟩, ⟨a1, a2, a3, a4⟩, hok⟩ := id h
  have hC := p_WH hW2 hH2
  unfold v_build h_build
  by_cases h0 : 0 ≤ c ∧ c < ((W * H : Nat) : Int)
  · obtain ⟨q, rfl⟩ : ∃ q : Nat, c = (q : Int) := ⟨c.toNat, by omega⟩
    rw [Int.toNat_natCast]
    by_cases h2 : ¬ bt hs q = true ∧ ¬ bt (v_trod W H n kc) q = true
    · rw [if_pos h0, if_pos h2, if_pos ⟨h0, h2⟩]
      refine ⟨_, ?_, hY.now (b' := (h_add hs q, lot, n, kc)) (nw' := upd nw (Int.toNat 0) (h_add hs q)) ⟨h1, h2', h3, h4, h5⟩ (fun j hj => pk_un (by show j ≠ 0; omega)) ⟨pk_us, (pk_un (by decide)).trans a2, (pk_un (by decide)).trans a3, fun k hk => ⟨(pk_un (by show _ ≠ 0; omega)).trans (a4 k hk).1, (pk_un (by show _ ≠ 0; omega)).trans (a4 k hk).2.1, fun j hj => (pk_un (by show _ ≠ 0; omega)).trans ((a4 k hk).2.2 j hj)⟩⟩ hn (h_add_ok hC (show q < W * H by omega) h2.2 hok), .set (by omega)⟩
      refine c_of rfl rfl (Nat.le_of_ble_eq_true rfl) ?_
      refine g_al rfl rfl ?_
      refine g_il rfl rfl ?_
      refine g_cv1 rfl rfl h1 rfl (by decide) rfl (m_isCell h hc) ?_
      rw [if_pos h0]
      refine g_ifT rfl (zcT1 ⟨by omega, by omega⟩ ⟨by omega, by omega⟩ (by decide)) ?_
      refine g_al rfl rfl ?_
      refine g_il rfl rfl ?_
      refine g_cv1 rfl rfl h1 rfl (by decide) rfl (m_cell h hc) ?_
      rw [show v_cell W H hs n kc (q : Int) = 0 by unfold v_cell; rw [if_pos h0, Int.toNat_natCast, if_neg h2.1, if_neg h2.2]]
      refine g_ifT rfl (zcT0 (rfl)) ?_
      refine g_al rfl rfl ?_
      refine g_gf rfl h1 rfl rfl ?_
      refine g_ic rfl ?_
      refine g_dup2 rfl ?_
      refine g_iaI rfl (by decide) h5 (by omega) (by omega) (by omega) ?_
      rw [show nw (Int.toNat 0) = hs from a1]
      refine g_ic rfl ?_
      refine g_il rfl rfl ?_
      refine g_ishl rfl ?_
      refine g_ior rfl ?_
      refine g_iSI rfl h5 (by omega) (by omega) (by omega) ?_
      refine g_al rfl rfl ?_
      refine g_cv0 rfl rfl (z_gn (by decide) h1) rfl (by decide) rfl (m_houses (hs := h_add hs q) (z_gn (by decide) h1) (z_gs h5) pk_us) ?_
      exact g_reti rfl (rfl) rfl
    · rw [if_pos h0, if_neg h2, if_neg (fun g => h2 g.2)]
      refine ⟨M, ?_, hY, .rf⟩
      refine c_of rfl rfl (Nat.le_of_ble_eq_true rfl) ?_
      refine g_al rfl rfl ?_
      refine g_il rfl rfl ?_
      refine g_cv1 rfl rfl h1 rfl (by decide) rfl (m_isCell h hc) ?_
      rw [if_pos h0]
      refine g_ifT rfl (zcT1 ⟨by omega, by omega⟩ ⟨by omega, by omega⟩ (by decide)) ?_
      refine g_al rfl rfl ?_
      refine g_il rfl rfl ?_
      refine g_cv1 rfl rfl h1 rfl (by decide) rfl (m_cell h hc) ?_
      have e9 : v_cell W H hs n kc (q : Int) = 1 ∨ v_cell W H hs n kc (q : Int) = 2 := by
        unfold v_cell
        rw [if_pos h0, Int.toNat_natCast]
        by_cases g1 : bt hs q = true
        · exact Or.inl (if_pos g1)
        · rw [if_neg g1]
          by_cases g2 : bt (v_trod W H n kc) q = true
          · exact Or.inr (if_pos g2)
          · exact absurd ⟨g1, g2⟩ h2
      refine g_ifF rfl (zcF0 ⟨by omega, by omega⟩ ⟨by omega, by omega⟩ (by omega)) ?_
      refine g_ic rfl ?_
      exact g_reti rfl (rfl) rfl
  · rw [if_neg h0, if_neg (fun g => h0 g.1)]
    refine ⟨M, ?_, hY, .rf⟩
    refine c_of rfl rfl (Nat.le_of_ble_eq_true rfl) ?_
    refine g_al rfl rfl ?_
    refine g_il rfl rfl ?_
    refine g_cv1 rfl rfl h1 rfl (by decide) rfl (m_isCell h hc) ?_
    rw [if_neg h0]
    refine g_ifF rfl (zcF1 (rfl)) ?_
    refine g_ic rfl ?_
    exact g_reti rfl (rfl) rfl
theorem x_raze (hp : p_in W H hs) {c : Int} (hc : z_sm c) : z_Xc S 86 [.int (zI c)] ((T, tx), (W, H, L), (hs, lot, n, kc), im, tr) (.int (zI (v_raze W H hs c))) ((T, tx), (W, H, L), (h_raze W H hs c, lot, n, kc), im, tr) := by
  intro d M hX
  obtain ⟨x1, x2, x3, x4, x5, x6, x7, x8⟩ := id hX
  have hA : k_A M 1 W H L hs lot n kc := x3
  obtain ⟨ha, hO, ch, hR, hk9⟩ := id hA
  obtain ⟨o1, ⟨hW1, hW2⟩, ⟨hH1, hH2⟩, ⟨hL1, hL2⟩, hn⟩ := id hO
  have hC := p_WH hW2 hH2
  have hTR : p_trod (fun k => (ch k).2.2.2.1) n = v_trod W H n kc := p_trod_c (fun k hk => (hk9 k hk).2.2.2.2.1)
  unfold v_raze h_raze
  by_cases h0 : 0 ≤ c ∧ c < ((W * H : Nat) : Int)
  · obtain ⟨q, rfl⟩ : ∃ q : Nat, c = (q : Int) := ⟨c.toNat, by omega⟩
    rw [Int.toNat_natCast]
    by_cases h2 : bt hs q = true
    · rw [if_pos h0, if_pos h2, if_pos ⟨h0, h2⟩]
      refine ⟨_, ?_, hX.site (b' := (h_del hs q, lot, n, kc)) (.set (by omega)) (hA.house (hs' := h_del hs q) (h_del_ok hC (show q < W * H by omega) (fun k hk => (hk9 k hk).1))), .set (by omega)⟩
      refine c_of rfl rfl (Nat.le_of_ble_eq_true rfl) ?_
      refine g_al rfl rfl ?_
      refine g_gf rfl x2 rfl rfl ?_
      refine g_il rfl rfl ?_
      refine g_cv1 rfl rfl o1 rfl (by decide) rfl (c_has hO hc) ?_
      rw [if_pos h0]
      refine g_ifT rfl (zcT1 ⟨by omega, by omega⟩ ⟨by omega, by omega⟩ (by decide)) ?_
      refine g_al rfl rfl ?_
      refine g_gf rfl x2 rfl rfl ?_
      refine g_il rfl rfl ?_
      refine g_cv1 rfl rfl o1 rfl (by decide) rfl (c_isHouse hO hc) ?_
      rw [if_pos ⟨h0.1, h0.2, h2⟩]
      refine g_ifT rfl (zcT1 ⟨by omega, by omega⟩ ⟨by omega, by omega⟩ (by decide)) ?_
      refine g_al rfl rfl ?_
      refine g_gf rfl x2 rfl rfl ?_
      refine g_dupA rfl ?_
      refine g_gf rfl o1 rfl rfl ?_
      refine g_ic rfl ?_
      refine g_il rfl rfl ?_
      refine g_ishl rfl ?_
      refine g_ic rfl ?_
      refine g_ixor rfl ?_
      refine g_iand rfl ?_
      refine g_pf3 rfl o1 rfl rfl rfl (Or.inl rfl) ?_
      refine g_al rfl rfl ?_
      refine g_gf rfl (z_gn (by decide) x2) rfl rfl ?_
      refine g_cv0 rfl rfl (z_gs o1) rfl (by decide) rfl (c_houseCount (W := W) (H := H) (L := L) (hs := h_del hs q) (n := n) (lot := lot) ⟨z_gs o1, ⟨hW1, hW2⟩, ⟨hH1, hH2⟩, ⟨hL1, hL2⟩, hn⟩) ?_
      rw [v_hc32 (h_del_in hC (show q < W * H by omega) hp) hC]
      exact g_reti rfl (rfl) rfl
    · rw [if_pos h0, if_neg h2, if_neg (fun g => h2 g.2)]
      refine ⟨M, ?_, hX, .rf⟩
      refine c_of rfl rfl (Nat.le_of_ble_eq_true rfl) ?_
      refine g_al rfl rfl ?_
      refine g_gf rfl x2 rfl rfl ?_
      refine g_il rfl rfl ?_
      refine g_cv1 rfl rfl o1 rfl (by decide) rfl (c_has hO hc) ?_
      rw [if_pos h0]
      refine g_ifT rfl (zcT1 ⟨by omega, by omega⟩ ⟨by omega, by omega⟩ (by decide)) ?_
      refine g_al rfl rfl ?_
      refine g_gf rfl x2 rfl rfl ?_
      refine g_il rfl rfl ?_
      refine g_cv1 rfl rfl o1 rfl (by decide) rfl (c_isHouse hO hc) ?_
      rw [if_neg (fun g => h2 g.2.2)]
      refine g_ifF rfl (zcF1 (rfl)) ?_
      refine g_ic rfl ?_
      exact g_reti rfl (rfl) rfl
  · rw [if_neg h0, if_neg (fun g => h0 g.1)]
    refine ⟨M, ?_, hX, .rf⟩
    refine c_of rfl rfl (Nat.le_of_ble_eq_true rfl) ?_
    refine g_al rfl rfl ?_
    refine g_gf rfl x2 rfl rfl ?_
    refine g_il rfl rfl ?_
    refine g_cv1 rfl rfl o1 rfl (by decide) rfl (c_has hO hc) ?_
    rw [if_neg h0]
    refine g_ifF rfl (zcF1 (rfl)) ?_
    refine g_ic rfl ?_
    exact g_reti rfl (rfl) rfl
theorem y_raze {c : Int} (hc : z_sm c) : z_Yc S 154 [.int (zI c)] ((T, tx), (W, H, L), (hs, lot, n, kc), im, tr) (.int (zI (v_raze W H hs c))) ((T, tx), (W, H, L), (h_raze W H hs c, lot, n, kc), im, tr) := by
  intro d M hY
  obtain ⟨y1, v, wd, hd, ld, nw, h, y3, y4, y5, y6, y7, y8⟩ := id hY
  have h : m_Y M tr v wd hd ld nw W H L hs lot n kc := h
  obtain ⟨⟨h1, h2', h3, h4, h5⟩, ⟨w1, w2, w3⟩, ⟨⟨hW1, hW2⟩, ⟨hH1, hH2⟩, ⟨hL1, hL2⟩, hn⟩, ⟨a1, a2, a3, a4⟩, hok⟩ := id h
  have hC := p_WH hW2 hH2
  unfold v_raze h_raze
  by_cases h0 : 0 ≤ c ∧ c < ((W * H : Nat) : Int)
  · obtain ⟨q, rfl⟩ : ∃ q : Nat, c = (q : Int) := ⟨c.toNat, by omega⟩
    rw [Int.toNat_natCast]
    by_cases h2 : bt hs q = true
    · rw [if_pos h0, if_pos h2, if_pos ⟨h0, h2⟩]
      refine ⟨_, ?_, hY.now (b' := (h_del hs q, lot, n, kc)) (nw' := upd nw (Int.toNat 0) (h_del hs q)) ⟨h1, h2', h3, h4, h5⟩ (fun j hj => pk_un (by show j ≠ 0; omega)) ⟨pk_us, (pk_un (by decide)).trans a2, (pk_un (by decide)).trans a3, fun k hk => ⟨(pk_un (by show _ ≠ 0; omega)).trans (a4 k hk).1, (pk_un (by show _ ≠ 0; omega)).trans (a4 k hk).2.1, fun j hj => (pk_un (by show _ ≠ 0; omega)).trans ((a4 k hk).2.2 j hj)⟩⟩ hn (h_del_ok hC (show q < W * H by omega) hok), .set (by omega)⟩
      refine c_of rfl rfl (Nat.le_of_ble_eq_true rfl) ?_
      refine g_al rfl rfl ?_
      refine g_il rfl rfl ?_
      refine g_cv1 rfl rfl h1 rfl (by decide) rfl (m_isCell h hc) ?_
      rw [if_pos h0]
      refine g_ifT rfl (zcT1 ⟨by omega, by omega⟩ ⟨by omega, by omega⟩ (by decide)) ?_
      refine g_al rfl rfl ?_
      refine g_il rfl rfl ?_
      refine g_cv1 rfl rfl h1 rfl (by decide) rfl (m_isHouse h (c := q) (by omega)) ?_
      rw [if_pos h2]
      refine g_ifT rfl (zcT1 ⟨by omega, by omega⟩ ⟨by omega, by omega⟩ (by decide)) ?_
      refine g_al rfl rfl ?_
      refine g_gf rfl h1 rfl rfl ?_
      refine g_ic rfl ?_
      refine g_dup2 rfl ?_
      refine g_iaI rfl (by decide) h5 (by omega) (by omega) (by omega) ?_
      rw [show nw (Int.toNat 0) = hs from a1]
      refine g_ic rfl ?_
      refine g_il rfl rfl ?_
      refine g_ishl rfl ?_
      refine g_ic rfl ?_
      refine g_ixor rfl ?_
      refine g_iand rfl ?_
      refine g_iSI rfl h5 (by omega) (by omega) (by omega) ?_
      refine g_al rfl rfl ?_
      refine g_cv0 rfl rfl (z_gn (by decide) h1) rfl (by decide) rfl (m_houses (hs := h_del hs q) (z_gn (by decide) h1) (z_gs h5) pk_us) ?_
      exact g_reti rfl (rfl) rfl
    · rw [if_pos h0, if_neg h2, if_neg (fun g => h2 g.2)]
      refine ⟨M, ?_, hY, .rf⟩
      refine c_of rfl rfl (Nat.le_of_ble_eq_true rfl) ?_
      refine g_al rfl rfl ?_
      refine g_il rfl rfl ?_
      refine g_cv1 rfl rfl h1 rfl (by decide) rfl (m_isCell h hc) ?_
      rw [if_pos h0]
      refine g_ifT rfl (zcT1 ⟨by omega, by omega⟩ ⟨by omega, by omega⟩ (by decide)) ?_
      refine g_al rfl rfl ?_
      refine g_il rfl rfl ?_
      refine g_cv1 rfl rfl h1 rfl (by decide) rfl (m_isHouse h (c := q) (by omega)) ?_
      rw [if_neg h2]
      refine g_ifF rfl (zcF1 (rfl)) ?_
      refine g_ic rfl ?_
      exact g_reti rfl (rfl) rfl
  · rw [if_neg h0, if_neg (fun g => h0 g.1)]
    refine ⟨M, ?_, hY, .rf⟩
    refine c_of rfl rfl (Nat.le_of_ble_eq_true rfl) ?_
    refine g_al rfl rfl ?_
    refine g_il rfl rfl ?_
    refine g_cv1 rfl rfl h1 rfl (by decide) rfl (m_isCell h hc) ?_
    rw [if_neg h0]
    refine g_ifF rfl (zcF1 (rfl)) ?_
    refine g_ic rfl ?_
    exact g_reti rfl (rfl) rfl
end PB
end
section
/-! STATES: 13 for a cell: 0 at the beginning, then a direction and how long its run is. What is behind a step -/
def p_run3 (p s : Nat) : Nat := if 1 + 3 * s ≤ p % 13 ∧ p % 13 < 4 + 3 * s then p % 13 - 3 * s else 0
/-- as the class has it: no run longer than L -/
def p_aC (W H L : Nat) (hs : Int32) (p s : Nat) : Option Nat := match p_to W H hs (p / 13) (s : Int) with
  | some c => if L ≤ p_run3 p s then none else some (13 * c + 1 + 3 * s + p_run3 p s)
  | none => none
/-- as the reference has it -/
def p_aR (W H L : Nat) (hs : Int32) (p s : Nat) : Option Nat := match p_to W H hs (p / 13) (s : Int) with
  | some c => if p_run3 p s = L then none else some (13 * c + 1 + 3 * s + p_run3 p s)
  | none => none
/-- no run is longer than L -/
def p_val (L p : Nat) : Prop := p % 13 = 0 ∨ (p % 13 - 1) % 3 + 1 ≤ L
theorem p_run3_le {p s : Nat} : p_run3 p s ≤ 3 := by
  unfold p_run3
  split <;> omega
theorem p_run3_val {L p s : Nat} (h : p_val L p) : p_run3 p s ≤ L := by
  unfold p_val at h
  unfold p_run3
  split <;> omega
theorem p_a_eq {W H L : Nat} {hs : Int32} {p s : Nat} (h : p_val L p) : p_aR W H L hs p s = p_aC W H L hs p s := by
  have := p_run3_val (s := s) h
  unfold p_aR p_aC
  split
  · by_cases e : p_run3 p s = L
    · rw [if_pos e, if_pos (by omega)]
    · rw [if_neg e, if_neg (by omega)]
  · rfl
theorem p_aC_some {W H L : Nat} {hs : Int32} {p s q : Nat} (h : p_aC W H L hs p s = some q) : ∃ c, p_to W H hs (p / 13) (s : Int) = some c ∧ p_run3 p s < L ∧ q = 13 * c + 1 + 3 * s + p_run3 p s := by
  unfold p_aC at h
  split at h
  · rename_i c hc
    split at h
    · cases h
    · cases h
      exact ⟨c, hc, by omega, rfl⟩
  · cases h
theorem p_aC_val {W H L : Nat} {hs : Int32} {p s q : Nat} (hs4 : s < 4) (hL : L ≤ 3) (h : p_aC W H L hs p s = some q) : p_val L q := by
  obtain ⟨c, h1, h2, rfl⟩ := p_aC_some h
  unfold p_val
  generalize p_run3 p s = r at h2
  have e : (13 * c + 1 + 3 * s + r) % 13 = 1 + 3 * s + r := by omega
  rw [e]
  right
  omega
theorem p_aC_lt {W H L : Nat} {hs : Int32} {p s q : Nat} (hs4 : s < 4) (hL : L ≤ 3) (hp : p < 13 * (W * H)) (h : p_aC W H L hs p s = some q) : q < 13 * (W * H) := by
  obtain ⟨c, h1, h2, rfl⟩ := p_aC_some h
  have := p_to_lt (show p / 13 < W * H by omega) h1
  omega
theorem p_to_3 {W H c t : Nat} {hs : Int32} (h : p_to W H hs c 3 = some t) : t + 1 = c := by
  unfold p_to at h
  split at h
  · rename_i x hx
    split at h
    · cases h
    · cases h
      unfold p_off at hx
      rw [if_neg (by decide), if_neg (by decide), if_neg (by decide), if_pos rfl] at hx
      split at hx
      · rename_i g
        cases hx
        have : c % W ≤ c := Nat.mod_le c W
        omega
      · cases hx
  · cases h
theorem p_aR_lt {W H L : Nat} {hs : Int32} {p s q : Nat} (hs4 : s < 4) (hp : p < 13 * (W * H)) (h : p_aR W H L hs p s = some q) : q < 13 * (W * H) := by
  unfold p_aR at h
  split at h
  · rename_i c hc
    split at h
    · cases h
    · cases h
      have h1 := p_to_lt (show p / 13 < W * H by omega) hc
      have h2 := p_run3_le (p := p) (s := s)
      by_cases e : s = 3
      · subst e
        have := p_to_3 hc
        omega
      · omega
  · cases h
/-- the class's Walks has looked at the yard -/
def x_L (M : ZM) (W H L : Nat) (hs : Int32) : Prop := M[25]? = some (.inl (3, [.ref 26, .int (zI (L : Int)), .int (zI ((13 * (W * H) : Nat) : Int)), .ref 27, .ref 28, .ref 29, .ref 30, .ref 31, .ref 32])) ∧ ((1 ≤ W ∧ W ≤ 5) ∧ (1 ≤ H ∧ H ≤ 5) ∧ (1 ≤ L ∧ L ≤ 3)) ∧ ∃ nb : Nat → Int32, M[27]? = some (.inr (0, 100, .inl nb)) ∧ ∀ c s, c < W * H → s < 4 → nb (4 * c + s) = zI (oI (p_to W H hs c (s : Int)) (-1))
theorem x_L.ev {M M' : ZM} {P : Nat → Prop} {W H L : Nat} {hs : Int32} (e : z_ev M M' P) (h1 : ¬ P 25) (h2 : ¬ P 27) (h : x_L M W H L hs) : x_L M' W H L hs := by
  obtain ⟨g1, g2, nb, g3, g4⟩ := h
  exact ⟨(e.2 _ h1).trans g1, g2, nb, (e.2 _ h2).trans g3, g4⟩
theorem oI_neg {o : Option Nat} : oI o (-1) = -1 ↔ o = none := by
  cases o with
  | none => exact ⟨fun _ => rfl, fun _ => rfl⟩
  | some t => exact ⟨fun h => by have h : (t : Int) = -1 := h; omega, fun h => by cases h⟩
section AF
variable {S : ZS} {d : Nat} {M : ZM}
theorem c_startOn {c : Nat} (hc : c < 25) : z_C S d 56 [.int (zI (c : Int))] M (some (.int (zI ((13 * c : Nat) : Int)))) M := by
  refine c_of rfl rfl (Nat.le_of_ble_eq_true rfl) ?_
  refine g_il rfl rfl ?_
  refine g_ifF rfl (zcF2 ⟨by omega, by omega⟩ ⟨by omega, by omega⟩ (by omega)) ?_
  refine g_il rfl rfl ?_
  refine g_ic rfl ?_
  refine g_icF rfl (zcF3 ⟨by omega, by omega⟩ ⟨by omega, by omega⟩ (by omega)) ?_
  refine g_il rfl rfl ?_
  refine g_ic rfl ?_
  refine g_mulI rfl ?_
  refine g_goto rfl ?_
  exact g_reti rfl (by rw [show (c : Int) * 13 = ((13 * c : Nat) : Int) by omega]) rfl
theorem c_after {W H L : Nat} {hs : Int32} (h : x_L M W H L hs) {p s : Nat} (hp : p < 13 * (W * H)) (hs4 : s < 4) : z_C S (d + 1) 57 [.ref 25, .int (zI (p : Int)), .int (zI (s : Int))] M (some (.int (zI (oI (p_aC W H L hs p s) (-1))))) M := by
  obtain ⟨h1, ⟨⟨hW1, hW2⟩, ⟨hH1, hH2⟩, hL1, hL2⟩, nb, h3, h4⟩ := id h
  have hC := p_WH hW2 hH2
  refine c_of rfl rfl (Nat.le_of_ble_eq_true rfl) ?_
  refine g_il rfl rfl ?_
  refine g_ifF rfl (zcF2 ⟨by omega, by omega⟩ ⟨by omega, by omega⟩ (by omega)) ?_
  refine g_il rfl rfl ?_
  refine g_al rfl rfl ?_
  refine g_gf rfl h1 rfl rfl ?_
  refine g_icF rfl (zcF3 ⟨by omega, by omega⟩ ⟨by omega, by omega⟩ (by omega)) ?_
  refine g_il rfl rfl ?_
  refine g_ifF rfl (zcF2 ⟨by omega, by omega⟩ ⟨by omega, by omega⟩ (by omega)) ?_
  refine g_il rfl rfl ?_
  refine g_ic rfl ?_
  refine g_icT rfl (zcT2 ⟨by omega, by omega⟩ ⟨by omega, by omega⟩ (by omega)) ?_
  refine g_al rfl rfl ?_
  refine g_gf rfl h1 rfl rfl ?_
  refine g_il rfl rfl ?_
  refine g_ic rfl ?_
  refine g_divI rfl (⟨by omega, by omega⟩) (⟨by omega, by omega⟩) ?_
  refine g_ic rfl ?_
  refine g_mulI rfl ?_
  refine g_il rfl rfl ?_
  refine g_addI rfl ?_
  refine g_iaI rfl (by decide) h3 (by omega) (by omega) (by omega) ?_
  rw [show ((p : Int) / 13 * 4 + (s : Int)).toNat = 4 * (p / 13) + s by omega, h4 (p / 13) s (by omega) hs4]
  refine g_is3 rfl rfl ?_
  refine g_il rfl rfl ?_
  refine g_ic rfl ?_
  rcases ht : p_to W H hs (p / 13) (s : Int) with - | t
  · have e : p_aC W H L hs p s = none := by unfold p_aC; rw [ht]
    rw [e]
    refine g_icF rfl (zcF1 (rfl)) ?_
    refine g_ic rfl ?_
    exact g_reti rfl (rfl) rfl
  · have ht2 := p_to_lt (show p / 13 < W * H by omega) ht
    have er : p_run3 p s = if 1 + 3 * s ≤ p % 13 ∧ p % 13 < 4 + 3 * s then p % 13 - 3 * s else 0 := rfl
    rw [show oI (Option.some t) (-1) = (t : Int) from rfl]
    refine g_icT rfl (zcT1 ⟨by omega, by omega⟩ ⟨by omega, by omega⟩ (by omega)) ?_
    refine g_il rfl rfl ?_
    refine g_ic rfl ?_
    refine g_remI rfl (⟨by omega, by omega⟩) (⟨by omega, by omega⟩) ?_
    refine g_is4 rfl rfl ?_
    refine g_ic rfl ?_
    refine g_il rfl rfl ?_
    refine g_ic rfl ?_
    refine g_mulI rfl ?_
    refine g_addI rfl ?_
    refine g_is5 rfl rfl ?_
    refine g_il rfl rfl ?_
    refine g_il rfl rfl ?_
    by_cases ha : (p : Int) % 13 < 1 + (s : Int) * 3
    · have er2 : p_run3 p s = 0 := by rw [er, if_neg (by omega)]
      have e : p_aC W H L hs p s = Option.some (13 * t + 1 + 3 * s) := by
        unfold p_aC
        rw [ht]
        dsimp only
        rw [er2, if_neg (by omega)]
        rfl
      rw [e]
      refine g_icT rfl (zcT2 ⟨by omega, by omega⟩ ⟨by omega, by omega⟩ (ha)) ?_
      refine g_il rfl rfl ?_
      refine g_cs1 rfl rfl rfl rfl (c_startOn (c := t) (by omega)) ?_
      refine g_il rfl rfl ?_
      refine g_addI rfl ?_
      exact g_reti rfl (by rw [show ((13 * t : Nat) : Int) + (1 + (s : Int) * 3) = ((13 * t + 1 + 3 * s : Nat) : Int) by omega]; rfl) rfl
    · refine g_icF rfl (zcF2 ⟨by omega, by omega⟩ ⟨by omega, by omega⟩ (ha)) ?_
      refine g_il rfl rfl ?_
      refine g_il rfl rfl ?_
      refine g_ic rfl ?_
      refine g_addI rfl ?_
      by_cases hb : (p : Int) % 13 < 1 + (s : Int) * 3 + 3
      · have er2 : p_run3 p s = p % 13 - 3 * s := by rw [er, if_pos (by omega)]
        refine g_icT rfl (zcT2 ⟨by omega, by omega⟩ ⟨by omega, by omega⟩ (by omega)) ?_
        refine g_il rfl rfl ?_
        refine g_il rfl rfl ?_
        refine g_subI rfl ?_
        refine g_ic rfl ?_
        refine g_addI rfl ?_
        refine g_is6 rfl rfl ?_
        refine g_il rfl rfl ?_
        refine g_al rfl rfl ?_
        refine g_gf rfl h1 rfl rfl ?_
        by_cases hl : p % 13 - 3 * s < L
        · have e : p_aC W H L hs p s = Option.some (13 * t + 1 + p % 13) := by
            unfold p_aC
            rw [ht]
            dsimp only
            rw [er2, if_neg (by omega)]
            exact congrArg Option.some (by omega)
          rw [e]
          refine g_icF rfl (zcF3 ⟨by omega, by omega⟩ ⟨by omega, by omega⟩ (by omega)) ?_
          refine g_il rfl rfl ?_
          refine g_cs1 rfl rfl rfl rfl (c_startOn (c := t) (by omega)) ?_
          refine g_il rfl rfl ?_
          refine g_addI rfl ?_
          refine g_ic rfl ?_
          refine g_addI rfl ?_
          refine g_goto rfl ?_
          exact g_reti rfl (by rw [show ((13 * t : Nat) : Int) + (p : Int) % 13 + 1 = ((13 * t + 1 + p % 13 : Nat) : Int) by omega]; rfl) rfl
        · have e : p_aC W H L hs p s = Option.none := by
            unfold p_aC
            rw [ht]
            dsimp only
            rw [er2, if_pos (by omega)]
          rw [e]
          refine g_icT rfl (zcT3 ⟨by omega, by omega⟩ ⟨by omega, by omega⟩ (by omega)) ?_
          refine g_ic rfl ?_
          exact g_reti rfl (rfl) rfl
      · have er2 : p_run3 p s = 0 := by rw [er, if_neg (by omega)]
        have e : p_aC W H L hs p s = Option.some (13 * t + 1 + 3 * s) := by
          unfold p_aC
          rw [ht]
          dsimp only
          rw [er2, if_neg (by omega)]
          rfl
        rw [e]
        refine g_icF rfl (zcF2 ⟨by omega, by omega⟩ ⟨by omega, by omega⟩ (by omega)) ?_
        refine g_il rfl rfl ?_
        refine g_cs1 rfl rfl rfl rfl (c_startOn (c := t) (by omega)) ?_
        refine g_il rfl rfl ?_
        refine g_addI rfl ?_
        exact g_reti rfl (by rw [show ((13 * t : Nat) : Int) + (1 + (s : Int) * 3) = ((13 * t + 1 + 3 * s : Nat) : Int) by omega]; rfl) rfl
theorem m_after_t {tr : Int64} {v wd hd ld nw : Nat → Int32} {W H L n : Nat} {hs lot : Int32} {kc : Nat → ZK} (h : m_Y M tr v wd hd ld nw W H L hs lot n kc) {p s : Nat} (hp : p < 13 * (W * H)) (hs4 : s < 4) {x : Option Value} {b : Int} : z_G S (d + 2) 135 42 [some (.ref 62), some (.int (zI (p : Int))), some (.int (zI (s : Int))), some (.int (zI (oI (p_off W H (p / 13) (s : Int)) (-9)))), some (.int (zI b)), x] [.int (zI (p_run3 p s : Int))] M (some (.int (zI (oI (p_aR W H L hs p s) (-9))))) M := by
  obtain ⟨⟨h1, h2, h3, h4, h5⟩, ⟨w1, w2, w3⟩, ⟨⟨hW1, hW2⟩, ⟨hH1, hH2⟩, ⟨hL1, hL2⟩, hn⟩, ⟨a1, a2, a3, a4⟩, hok⟩ := id h
  have hC := p_WH hW2 hH2
  have hr3 := p_run3_le (p := p) (s := s)
  refine g_is5 rfl rfl ?_
  refine g_il rfl rfl ?_
  refine g_ic rfl ?_
  rcases ho : p_off W H (p / 13) (s : Int) with - | t
  · have e2 : p_to W H hs (p / 13) (s : Int) = Option.none := by unfold p_to; rw [ho]
    have e : p_aR W H L hs p s = Option.none := by unfold p_aR; rw [e2]
    rw [e]
    refine g_icT rfl (zcT0 (rfl)) ?_
    refine g_ic rfl ?_
    refine g_goto rfl ?_
    exact g_reti rfl (rfl) rfl
  · have ht2 := p_off_lt (show p / 13 < W * H by omega) ho
    rw [show oI (Option.some t) (-9) = (t : Int) from rfl]
    refine g_icF rfl (zcF0 ⟨by omega, by omega⟩ ⟨by omega, by omega⟩ (by omega)) ?_
    refine g_al rfl rfl ?_
    refine g_il rfl rfl ?_
    refine g_cv1 rfl rfl h1 rfl (by decide) rfl (m_isHouse h (c := t) (by omega)) ?_
    by_cases hb : bt hs t = true
    · have e2 : p_to W H hs (p / 13) (s : Int) = Option.none := by unfold p_to; rw [ho]; exact if_pos hb
      have e : p_aR W H L hs p s = Option.none := by unfold p_aR; rw [e2]
      rw [e, if_pos hb]
      refine g_ifT rfl (zcT1 ⟨by omega, by omega⟩ ⟨by omega, by omega⟩ (by decide)) ?_
      refine g_ic rfl ?_
      refine g_goto rfl ?_
      exact g_reti rfl (rfl) rfl
    · have e2 : p_to W H hs (p / 13) (s : Int) = Option.some t := by unfold p_to; rw [ho]; exact if_neg hb
      rw [if_neg hb]
      refine g_ifF rfl (zcF1 (rfl)) ?_
      refine g_il rfl rfl ?_
      refine g_al rfl rfl ?_
      refine g_gf rfl h1 rfl rfl ?_
      refine g_ic rfl ?_
      refine g_iaI rfl (by decide) h4 (by omega) (by omega) (by omega) ?_
      rw [show ld (Int.toNat 0) = zI (L : Int) from w3]
      by_cases hl : p_run3 p s = L
      · have e : p_aR W H L hs p s = Option.none := by unfold p_aR; rw [e2]; exact if_pos hl
        rw [e]
        refine g_icF rfl (zcF1 (by omega)) ?_
        refine g_ic rfl ?_
        refine g_goto rfl ?_
        exact g_reti rfl (rfl) rfl
      · have e : p_aR W H L hs p s = Option.some (13 * t + 1 + 3 * s + p_run3 p s) := by unfold p_aR; rw [e2]; exact if_neg hl
        rw [e]
        refine g_icT rfl (zcT1 ⟨by omega, by omega⟩ ⟨by omega, by omega⟩ (by omega)) ?_
        refine g_ic rfl ?_
        refine g_il rfl rfl ?_
        refine g_mulI rfl ?_
        refine g_ic rfl ?_
        refine g_addI rfl ?_
        refine g_ic rfl ?_
        refine g_il rfl rfl ?_
        refine g_mulI rfl ?_
        refine g_addI rfl ?_
        refine g_il rfl rfl ?_
        refine g_addI rfl ?_
        exact g_reti rfl (by rw [show 13 * (t : Int) + 1 + 3 * (s : Int) + (p_run3 p s : Int) = ((13 * t + 1 + 3 * s + p_run3 p s : Nat) : Int) by omega]; rfl) rfl
theorem m_after {tr : Int64} {v wd hd ld nw : Nat → Int32} {W H L n : Nat} {hs lot : Int32} {kc : Nat → ZK} (h : m_Y M tr v wd hd ld nw W H L hs lot n kc) {p s : Nat} (hp : p < 13 * (W * H)) (hs4 : s < 4) : z_C S (d + 2) 135 [.ref 62, .int (zI (p : Int)), .int (zI (s : Int))] M (some (.int (zI (oI (p_aR W H L hs p s) (-9))))) M := by
  obtain ⟨⟨h1, h2, h3, h4, h5⟩, ⟨w1, w2, w3⟩, ⟨⟨hW1, hW2⟩, ⟨hH1, hH2⟩, ⟨hL1, hL2⟩, hn⟩, ⟨a1, a2, a3, a4⟩, hok⟩ := id h
  have hC := p_WH hW2 hH2
  refine c_of rfl rfl (Nat.le_of_ble_eq_true rfl) ?_
  refine g_al rfl rfl ?_
  refine g_ic rfl ?_
  refine g_il rfl rfl ?_
  refine g_ic rfl ?_
  refine g_divI rfl (⟨by omega, by omega⟩) (⟨by omega, by omega⟩) ?_
  rw [show (p : Int) / 13 = ((p / 13 : Nat) : Int) by omega]
  refine g_il rfl rfl ?_
  refine g_cv3 rfl rfl h1 rfl (by decide) rfl (m_off ⟨h1, h2, h3, h4, h5⟩ hW1 hW2 hH1 hH2 (e := 0) (by decide) w1 w2 (c := p / 13) (by omega) (st := (s : Int)) ⟨by omega, by omega⟩) ?_
  refine g_is3 rfl rfl ?_
  refine g_il rfl rfl ?_
  refine g_ic rfl ?_
  refine g_remI rfl (⟨by omega, by omega⟩) (⟨by omega, by omega⟩) ?_
  refine g_ic rfl ?_
  refine g_subI rfl ?_
  refine g_is4 rfl rfl ?_
  refine g_il rfl rfl ?_
  by_cases ha : (p : Int) % 13 - 1 < 0
  · have er : p_run3 p s = 0 := by unfold p_run3; rw [if_neg (by omega)]
    refine g_ifT rfl (zcT2 ⟨by omega, by omega⟩ ⟨by omega, by omega⟩ (by omega)) ?_
    refine g_ic rfl ?_
    rw [show (0 : Int) = ((0 : Nat) : Int) from rfl, ← er]
    exact m_after_t h hp hs4
  · refine g_ifF rfl (zcF2 ⟨by omega, by omega⟩ ⟨by omega, by omega⟩ (by omega)) ?_
    refine g_il rfl rfl ?_
    refine g_ic rfl ?_
    refine g_divI rfl (⟨by omega, by omega⟩) (⟨by omega, by omega⟩) ?_
    refine g_il rfl rfl ?_
    by_cases hb : ((p : Int) % 13 - 1) / 3 = (s : Int)
    · have er : p_run3 p s = p % 13 - 3 * s := by unfold p_run3; rw [if_pos (by omega)]
      refine g_icF rfl (zcF1 (hb)) ?_
      refine g_il rfl rfl ?_
      refine g_ic rfl ?_
      refine g_remI rfl (⟨by omega, by omega⟩) (⟨by omega, by omega⟩) ?_
      refine g_ic rfl ?_
      refine g_addI rfl ?_
      refine g_goto rfl ?_
      rw [show ((p : Int) % 13 - 1) % 3 + 1 = ((p % 13 - 3 * s : Nat) : Int) by omega, ← er]
      exact m_after_t h hp hs4
    · have er : p_run3 p s = 0 := by unfold p_run3; rw [if_neg (by omega)]
      refine g_icT rfl (zcT1 ⟨by omega, by omega⟩ ⟨by omega, by omega⟩ (hb)) ?_
      refine g_ic rfl ?_
      rw [show (0 : Int) = ((0 : Nat) : Int) from rfl, ← er]
      exact m_after_t h hp hs4
theorem c_lookAt_i {W H L n : Nat} {hs lot : Int32} {Q : Option Value → ZM → Prop} {c : Nat} (hc : c < W * H) (hx : ∀ M1, (M1[25]? = some (.inl (3, [.ref 26, .int (zI (L : Int)), .int (zI ((13 * (W * H) : Nat) : Int)), .ref 27, .ref 28, .ref 29, .ref 30, .ref 31, .ref 32])) ∧ k_O M1 1 W H L hs n lot ∧ z_ev M M1 (fun k => k = 25 ∨ k = 27) ∧ ∃ nb : Nat → Int32, M1[27]? = some (.inr (0, 100, .inl nb)) ∧ ∀ c2 s2, c2 < W * H → s2 < 4 → 4 * c2 + s2 < (4 * (c + 1)) → nb (4 * c2 + s2) = zI (oI (p_to W H hs c2 (s2 : Int)) (-1))) → z_R S (d + 3) 55 33 [some (.ref 25), some (.ref 1), some (.int (zI ((W * H : Nat) : Int))), some (.int (zI ((c + 1 : Nat) : Int))), some (.int (zI 4))] [] M1 Q) : ∀ (m s : Nat) (M1 : ZM), s + m = 4 → (M1[25]? = some (.inl (3, [.ref 26, .int (zI (L : Int)), .int (zI ((13 * (W * H) : Nat) : Int)), .ref 27, .ref 28, .ref 29, .ref 30, .ref 31, .ref 32])) ∧ k_O M1 1 W H L hs n lot ∧ z_ev M M1 (fun k => k = 25 ∨ k = 27) ∧ ∃ nb : Nat → Int32, M1[27]? = some (.inr (0, 100, .inl nb)) ∧ ∀ c2 s2, c2 < W * H → s2 < 4 → 4 * c2 + s2 < (4 * c + s) → nb (4 * c2 + s2) = zI (oI (p_to W H hs c2 (s2 : Int)) (-1))) → z_R S (d + 3) 55 41 [some (.ref 25), some (.ref 1), some (.int (zI ((W * H : Nat) : Int))), some (.int (zI (c : Int))), some (.int (zI (s : Int)))] [] M1 Q := by
  intro m
  induction m with
  | zero =>
    intro s M1 hs9 hI
    obtain ⟨h1, hO, he, nb, h3, h4⟩ := hI
    obtain ⟨o1, ho⟩ := id hO
    obtain ⟨⟨hW1, hW2⟩, ⟨hH1, hH2⟩, ⟨hL1, hL2⟩, hn⟩ := id ho
    have hC := p_WH hW2 hH2
    refine r_il rfl rfl ?_
    refine r_ic rfl ?_
    refine r_icT rfl (zcT3 ⟨by omega, by omega⟩ ⟨by omega, by omega⟩ (by omega)) ?_
    refine r_jj3 rfl rfl ?_
    refine r_goto rfl ?_
    rw [show (s : Int) = 4 by omega]
    exact hx M1 ⟨h1, hO, he, nb, h3, fun c2 s2 g1 g2 g3 => h4 c2 s2 g1 g2 (by omega)⟩
  | succ m ih =>
    intro s M1 hs9 hI
    obtain ⟨h1, hO, he, nb, h3, h4⟩ := hI
    obtain ⟨o1, ho⟩ := id hO
    obtain ⟨⟨hW1, hW2⟩, ⟨hH1, hH2⟩, ⟨hL1, hL2⟩, hn⟩ := id ho
    have hC := p_WH hW2 hH2
    refine r_il rfl rfl ?_
    refine r_ic rfl ?_
    refine r_icF rfl (zcF3 ⟨by omega, by omega⟩ ⟨by omega, by omega⟩ (by omega)) ?_
    refine r_al rfl rfl ?_
    refine r_gf rfl h1 rfl rfl ?_
    refine r_il rfl rfl ?_
    refine r_ic rfl ?_
    refine r_mulI rfl ?_
    refine r_il rfl rfl ?_
    refine r_addI rfl ?_
    refine r_al rfl rfl ?_
    refine r_il rfl rfl ?_
    refine r_il rfl rfl ?_
    refine r_cv2 rfl rfl o1 rfl (by decide) rfl (c_beside hO hc (st := (s : Int)) ⟨by omega, by omega⟩) ?_
    refine r_iSI rfl h3 (by omega) (by omega) (by omega) ?_
    refine r_jj4 rfl rfl ?_
    refine r_goto rfl ?_
    refine ih (s + 1) _ (by omega) ⟨z_gn (by decide) h1, ⟨z_gn (by decide) o1, ho⟩, he.tr (.set (Or.inr rfl)), _, z_gs h3, fun c2 s2 g1 g2 g3 => ?_⟩
    rw [show ((c : Int) * 4 + (s : Int)).toNat = 4 * c + s by omega]
    by_cases e : 4 * c2 + s2 = 4 * c + s
    · obtain ⟨rfl, rfl⟩ : c2 = c ∧ s2 = s := by omega
      exact pk_us
    · rw [pk_un e]
      exact h4 c2 s2 g1 g2 (by omega)
theorem c_lookAt_l {W H L n : Nat} {hs lot : Int32} : ∀ (m c : Nat) (M1 : ZM) (x : Option Value), c + m = W * H → (M1[25]? = some (.inl (3, [.ref 26, .int (zI (L : Int)), .int (zI ((13 * (W * H) : Nat) : Int)), .ref 27, .ref 28, .ref 29, .ref 30, .ref 31, .ref 32])) ∧ k_O M1 1 W H L hs n lot ∧ z_ev M M1 (fun k => k = 25 ∨ k = 27) ∧ ∃ nb : Nat → Int32, M1[27]? = some (.inr (0, 100, .inl nb)) ∧ ∀ c2 s2, c2 < W * H → s2 < 4 → 4 * c2 + s2 < (4 * c) → nb (4 * c2 + s2) = zI (oI (p_to W H hs c2 (s2 : Int)) (-1))) → z_R S (d + 3) 55 33 [some (.ref 25), some (.ref 1), some (.int (zI ((W * H : Nat) : Int))), some (.int (zI (c : Int))), x] [] M1 (fun r M2 => r = none ∧ z_ev M M2 (fun k => k = 25 ∨ k = 27) ∧ x_L M2 W H L hs) := by
  intro m
  induction m with
  | zero =>
    intro c M1 x hc hI
    obtain ⟨h1, hO, he, nb, h3, h4⟩ := hI
    obtain ⟨o1, ho⟩ := id hO
    obtain ⟨⟨hW1, hW2⟩, ⟨hH1, hH2⟩, ⟨hL1, hL2⟩, hn⟩ := id ho
    have hC := p_WH hW2 hH2
    refine r_il rfl rfl ?_
    refine r_il rfl rfl ?_
    refine r_icT rfl (zcT3 ⟨by omega, by omega⟩ ⟨by omega, by omega⟩ (by omega)) ?_
    refine r_retv rfl rfl ?_
    exact ⟨rfl, he, h1, ⟨⟨hW1, hW2⟩, ⟨hH1, hH2⟩, hL1, hL2⟩, nb, h3, fun c2 s2 g1 g2 => h4 c2 s2 g1 g2 (by omega)⟩
  | succ m ih =>
    intro c M1 x hc hI
    obtain ⟨h1, hO, he, nb, h3, h4⟩ := hI
    obtain ⟨o1, ho⟩ := id hO
    obtain ⟨⟨hW1, hW2⟩, ⟨hH1, hH2⟩, ⟨hL1, hL2⟩, hn⟩ := id ho
    have hC := p_WH hW2 hH2
    refine r_il rfl rfl ?_
    refine r_il rfl rfl ?_
    refine r_icF rfl (zcF3 ⟨by omega, by omega⟩ ⟨by omega, by omega⟩ (by omega)) ?_
    refine r_ic rfl ?_
    refine r_is4 rfl rfl ?_
    exact c_lookAt_i (by omega) (fun M2 hI2 => ih (c + 1) M2 _ (by omega) hI2) 4 0 M1 (by omega) ⟨h1, hO, he, nb, h3, fun c2 s2 g1 g2 g3 => h4 c2 s2 g1 g2 (by omega)⟩
theorem c_lookAt {W H L n : Nat} {hs lot : Int32} (hO : k_O M 1 W H L hs n lot) (hW : x_W M) : ∃ M', z_C S (d + 3) 55 [.ref 25, .ref 1] M none M' ∧ z_ev M M' (fun k => k = 25 ∨ k = 27) ∧ x_L M' W H L hs := by
  obtain ⟨o1, ⟨hW1, hW2⟩, ⟨hH1, hH2⟩, ⟨hL1, hL2⟩, hn⟩ := id hO
  have hC := p_WH hW2 hH2
  obtain ⟨⟨i1, i2, w1⟩, -, ⟨f3, w3⟩, -⟩ := hW
  refine k_an ?_
  refine k_of rfl rfl (Nat.le_of_ble_eq_true rfl) ?_
  refine r_al rfl rfl ?_
  refine r_al rfl rfl ?_
  refine r_gf rfl o1 rfl rfl ?_
  refine r_pf1 rfl w1 rfl rfl rfl (Or.inl rfl) ?_
  refine r_al rfl rfl ?_
  refine r_gf rfl (z_gn (by decide) o1) rfl rfl ?_
  refine r_al rfl rfl ?_
  refine r_gf rfl (z_gn (by decide) o1) rfl rfl ?_
  refine r_mulI rfl ?_
  refine r_ic rfl ?_
  refine r_min rfl rfl ?_
  rw [(Int.natCast_mul W H).symm, if_neg (by rw [zI_lt ⟨by omega, by omega⟩ ⟨by omega, by omega⟩]; omega)]
  refine r_is2 rfl rfl ?_
  refine r_al rfl rfl ?_
  refine r_il rfl rfl ?_
  refine r_ic rfl ?_
  refine r_mulI rfl ?_
  rw [show ((W * H : Nat) : Int) * 13 = ((13 * (W * H) : Nat) : Int) by omega]
  refine r_pf2 rfl (z_gs w1) rfl rfl rfl (Or.inl rfl) ?_
  rw [List.set_set]
  refine r_ic rfl ?_
  refine r_is3 rfl rfl ?_
  exact c_lookAt_l (W * H) 0 _ none (by omega) ⟨z_gs w1, hO.ev (.set (P := fun k => k = 25) rfl) (by decide), .set (Or.inl rfl), _, z_gn (by decide) w3, fun c2 s2 g1 g2 g3 => by omega⟩
end AF
end
section
/-! WAYS: how many -/
def p_hv (h : Nat → Int64) (o : Option Nat) : Int64 := match o with
  | some q => h q
  | none => 0
def p_sum4 (a : Nat → Nat → Option Nat) (h : Nat → Int64) (p : Nat) : Nat → Int64
  | 0 => 0
  | s + 1 => p_sum4 a h p s + p_hv h (a p s)
/-- how many rows of n steps lead from p to the cell b -/
def p_cnt (a : Nat → Nat → Option Nat) (b : Nat) : Nat → Nat → Int64
  | 0, p => if p / 13 = b then 1 else 0
  | n + 1, p => p_sum4 a (p_cnt a b n) p 4
def p_dot (f g : Nat → Int64) : Nat → Int64
  | 0 => 0
  | n + 1 => p_dot f g n + f n * g n
theorem p_sum4_c {a a2 : Nat → Nat → Option Nat} {h h2 : Nat → Int64} {p : Nat} : ∀ n, (∀ s, s < n → p_hv h (a p s) = p_hv h2 (a2 p s)) → p_sum4 a h p n = p_sum4 a2 h2 p n := by
  intro n
  induction n with
  | zero => intro _; rfl
  | succ n ih =>
    intro g
    show p_sum4 a h p n + p_hv h (a p n) = p_sum4 a2 h2 p n + p_hv h2 (a2 p n)
    rw [ih (fun s hs => g s (by omega)), g n (by omega)]
theorem p_cnt_eq {W H L : Nat} {hs : Int32} {b : Nat} (hL : L ≤ 3) : ∀ n p, p_val L p → p_cnt (p_aR W H L hs) b n p = p_cnt (p_aC W H L hs) b n p := by
  intro n
  induction n with
  | zero => intro p _; rfl
  | succ n ih =>
    intro p hp
    refine p_sum4_c 4 (fun s hs4 => ?_)
    rw [p_a_eq hp]
    cases e : p_aC W H L hs p s with
    | none => rfl
    | some q => exact ih q (p_aC_val hs4 hL e)
theorem p_dot_upd {f g : Nat → Int64} {q : Nat} {x : Int64} : ∀ n, p_dot (vp_updL f q (f q + x)) g n = p_dot f g n + (if q < n then x * g q else 0) := by
  intro n
  induction n with
  | zero => show (0 : Int64) = 0 + _; rw [if_neg (by omega)]; rfl
  | succ n ih =>
    show p_dot (vp_updL f q (f q + x)) g n + vp_updL f q (f q + x) n * g n = p_dot f g n + f n * g n + _
    rw [ih]
    by_cases e : n = q
    · subst e
      rw [if_neg (by omega), if_pos (by omega), show vp_updL f n (f n + x) n = f n + x from if_pos rfl, Int64.add_mul, Int64.add_zero, Int64.add_assoc]
    · rw [show vp_updL f q (f q + x) n = f n from if_neg e]
      by_cases e2 : q < n
      · rw [if_pos e2, if_pos (by omega), Int64.add_assoc, Int64.add_assoc, Int64.add_comm (x * g q)]
      · rw [if_neg e2, if_neg (by omega), Int64.add_zero, Int64.add_zero]
theorem p_dot_0 {f g : Nat → Int64} : ∀ n, (∀ j, j < n → f j = 0) → p_dot f g n = 0 := by
  intro n
  induction n with
  | zero => intro _; rfl
  | succ n ih =>
    intro h
    show p_dot f g n + f n * g n = 0
    rw [ih (fun j hj => h j (by omega)), h n (by omega), Int64.zero_mul]
    rfl
def p_sumL (f : Nat → Int64) (b : Nat) : Nat → Int64
  | 0 => 0
  | k + 1 => p_sumL f b k + f (13 * b + k)
theorem p_dot_z {f g : Nat → Int64} {m : Nat} : ∀ k, (∀ j, m ≤ j → j < m + k → g j = 0) → p_dot f g (m + k) = p_dot f g m := by
  intro k
  induction k with
  | zero => intro _; rfl
  | succ k ih =>
    intro h
    show p_dot f g (m + k) + f (m + k) * g (m + k) = _
    rw [ih (fun j h1 h2 => h j h1 (by omega)), h (m + k) (by omega) (by omega), Int64.mul_zero, Int64.add_zero]
theorem p_dot_end {a : Nat → Nat → Option Nat} {f : Nat → Int64} {b C : Nat} (hb : b < C) : p_dot f (p_cnt a b 0) (13 * C) = p_sumL f b 13 := by
  have e1 : p_dot f (p_cnt a b 0) (13 * b) = 0 := by
    have := p_dot_z (f := f) (g := p_cnt a b 0) (m := 0) (13 * b) (fun j h1 h2 => if_neg (by omega))
    rw [Nat.zero_add] at this
    exact this
  have e2 : ∀ k, k ≤ 13 → p_dot f (p_cnt a b 0) (13 * b + k) = p_sumL f b k := by
    intro k
    induction k with
    | zero => intro _; exact e1
    | succ k ih =>
      intro hk
      show p_dot f (p_cnt a b 0) (13 * b + k) + f (13 * b + k) * p_cnt a b 0 (13 * b + k) = p_sumL f b k + f (13 * b + k)
      rw [ih (by omega), show p_cnt a b 0 (13 * b + k) = 1 from if_pos (by omega), Int64.mul_one]
  rw [← e2 13 (by omega), show 13 * C = 13 * b + 13 + (13 * C - 13 * b - 13) by omega]
  exact p_dot_z _ (fun j h1 h2 => if_neg (by omega))
theorem zl_T {x : Int64} (h : ¬ x = 0) : z_cc 1 (lg_cmp x (Int64.ofInt 0)) (zI 0) = true := by
  show (!decide (lg_cmp x 0 = 0)) = true
  rw [decide_eq_false (by rw [lg_cmp_eq]; exact h)]
  rfl
theorem zl_F {x : Int64} (h : x = 0) : z_cc 1 (lg_cmp x (Int64.ofInt 0)) (zI 0) = false := by
  show (!decide (lg_cmp x 0 = 0)) = false
  rw [decide_eq_true (by rw [lg_cmp_eq]; exact h)]
  rfl
theorem ul_s {f : Nat → Int64} {k : Nat} {x : Int64} : vp_updL f k x k = x := if_pos rfl
theorem ul_n {f : Nat → Int64} {k j : Nat} {x : Int64} (h : j ≠ k) : vp_updL f k x j = f j := if_neg h
abbrev zJ (n : Nat) (f : Nat → Int64) : ZE := .inr (3, n, .inr (.inl f))
theorem X_I.walk {M M' : ZM} {A : ZT} (e : z_ev M M' (fun k => 25 ≤ k ∧ k < 33)) (h : X_I M A) (hR : x_W M') : X_I M' A := by
  obtain ⟨h1, h2, h3, h4, h5, h6, ⟨r, h7⟩, h8⟩ := h
  exact ⟨by rw [e.1]; exact h1, (e.2 _ (by omega)).trans h2, h3.ev e (fun k g1 g2 => by omega), h4.ev e (fun k g1 g2 => by omega), hR, h6.ev e (fun k g1 g2 => by omega), ⟨r, h7.eqv e (by omega) (by omega)⟩, h8.ev e (fun k g1 g2 => by omega)⟩
theorem m_Y.ev {M M' : ZM} {P : Nat → Prop} {tr : Int64} {v wd hd ld nw : Nat → Int32} {W H L n : Nat} {hs lot : Int32} {kc : Nat → ZK} (e : z_ev M M' P) (h0 : ∀ k, 62 ≤ k → k < 68 → ¬ P k) (h : m_Y M tr v wd hd ld nw W H L hs lot n kc) : m_Y M' tr v wd hd ld nw W H L hs lot n kc := ⟨h.1.ev e h0, h.2⟩
theorem Y_I.rows {M M' : ZM} {A : ZT} (e : z_ev M M' (fun k => 69 ≤ k ∧ k < 78)) (h : Y_I M A) (hR : y_W M') : Y_I M' A := by
  obtain ⟨h1, v, wd, hd, ld, nw, ⟨h2, h2b⟩, h3, h4, ⟨g, h5, h5b⟩, ⟨kf, h6, h6b⟩, h7, h8⟩ := h
  exact ⟨by rw [e.1]; exact h1, v, wd, hd, ld, nw, ⟨h2.ev e (fun k g1 g2 => by omega), h2b⟩, h3, h4, ⟨g, (e.2 _ (by omega)).trans h5, h5b⟩, ⟨kf, (e.2 _ (by omega)).trans h6, h6b⟩, h7, hR⟩
section WA
variable {S : ZS} {d : Nat} {M : ZM} {W H L n : Nat} {hs lot : Int32}
theorem c_fillL_l {A N : Nat} (hN : N ≤ 10000) {x : Int64} : ∀ (m i : Nat) (M1 : ZM), i + m = N → (z_ev M M1 (fun k => k = A) ∧ ∃ f, M1[A]? = some (zJ N f) ∧ ∀ j, j < i → f j = x) → z_R S d 166 6 [some (.ref A), some (.long x), none, some (.int (zI (i : Int))), some (.int (zI (N : Int)))] [] M1 (fun r M2 => r = none ∧ z_ev M M2 (fun k => k = A) ∧ ∃ f, M2[A]? = some (zJ N f) ∧ ∀ j, j < N → f j = x) := by
  intro m
  induction m with
  | zero =>
    intro i M1 hi hI
    obtain ⟨he, f, hf, hx⟩ := hI
    refine r_il rfl rfl ?_
    refine r_il rfl rfl ?_
    refine r_icT rfl (zcT3 ⟨by omega, by omega⟩ ⟨by omega, by omega⟩ (by omega)) ?_
    refine r_retv rfl rfl ?_
    exact ⟨rfl, he, f, hf, fun j hj => hx j (by omega)⟩
  | succ m ih =>
    intro i M1 hi hI
    obtain ⟨he, f, hf, hx⟩ := hI
    refine r_il rfl rfl ?_
    refine r_il rfl rfl ?_
    refine r_icF rfl (zcF3 ⟨by omega, by omega⟩ ⟨by omega, by omega⟩ (by omega)) ?_
    refine r_al rfl rfl ?_
    refine r_il rfl rfl ?_
    refine r_ll rfl rfl ?_
    refine r_jSI rfl hf (by omega) (by omega) (by omega) ?_
    refine r_jj3 rfl rfl ?_
    refine r_goto rfl ?_
    refine ih (i + 1) _ (by omega) ⟨he.tr (.set rfl), _, z_gs hf, fun j hj => ?_⟩
    rw [Int.toNat_natCast]
    by_cases e : j = i
    · subst e
      exact ul_s
    · rw [ul_n e]
      exact hx j (by omega)
theorem c_fillL {A N : Nat} {f : Nat → Int64} (h9 : ¬ A = 1000) (hN : N ≤ 10000) (hA : M[A]? = some (zJ N f)) {x : Int64} : ∃ M', z_C S d 166 [.ref A, .long x] M none M' ∧ z_ev M M' (fun k => k = A) ∧ ∃ f, M'[A]? = some (zJ N f) ∧ ∀ j, j < N → f j = x := by
  refine k_an ?_
  refine k_of rfl rfl (Nat.le_of_ble_eq_true rfl) ?_
  refine r_ic rfl ?_
  refine r_is3 rfl rfl ?_
  refine r_al rfl rfl ?_
  refine r_len3 rfl h9 hA ?_
  refine r_is4 rfl rfl ?_
  exact c_fillL_l hN N 0 M (by omega) ⟨.rf, f, hA, fun j hj => by omega⟩
theorem c_goOneStep_i {A1 A2 : Nat} {f g : Nat → Int64} (hA : ¬ A1 = A2) (hA2 : A2 = 30 ∨ A2 = 31) (hL0 : x_L M W H L hs) (h10 : M[A1]? = some (zJ 325 f)) {p : Nat} (hp : p < (13 * (W * H))) {Q : Option Value → ZM → Prop} (hx : ∀ (M1 : ZM) (x1 x2 : Option Value), (z_ev M M1 (fun k => k = A2) ∧ ∃ g1, M1[A2]? = some (zJ 325 g1) ∧ ∀ h, p_dot g1 h (13 * (W * H)) = p_dot g h (13 * (W * H)) + p_dot f (fun p => p_sum4 (p_aC W H L hs) h p 4) (p + 1)) → z_R S (d + 2) 50 2 [some (.ref 25), some (.ref A1), some (.ref A2), some (.int (zI ((p + 1 : Nat) : Int))), x1, x2] [] M1 Q) : ∀ (m s : Nat) (M1 : ZM) (x : Option Value), s + m = 4 → (z_ev M M1 (fun k => k = A2) ∧ ∃ g1, M1[A2]? = some (zJ 325 g1) ∧ ∀ h, p_dot g1 h (13 * (W * H)) = p_dot g h (13 * (W * H)) + p_dot f (fun p => p_sum4 (p_aC W H L hs) h p 4) p + f p * p_sum4 (p_aC W H L hs) h p s) → z_R S (d + 2) 50 24 [some (.ref 25), some (.ref A1), some (.ref A2), some (.int (zI (p : Int))), some (.int (zI (s : Int))), x] [] M1 Q := by
  intro m
  induction m with
  | zero =>
    intro s M1 x hs9 hI
    obtain ⟨he, g1, h2, hd⟩ := hI
    have hL := hL0.ev he (by omega) (by omega)
    have h1 := (he.2 A1 hA).trans h10
    obtain ⟨-, ⟨⟨hW1, hW2⟩, ⟨hH1, hH2⟩, hL1, hL2⟩, -⟩ := id hL
    have hC := p_WH hW2 hH2
    refine r_il rfl rfl ?_
    refine r_ic rfl ?_
    refine r_icT rfl (zcT3 ⟨by omega, by omega⟩ ⟨by omega, by omega⟩ (by omega)) ?_
    refine r_jj3 rfl rfl ?_
    refine r_goto rfl ?_
    refine hx M1 _ _ ⟨he, g1, h2, fun h => ?_⟩
    rw [hd h, show s = 4 by omega, Int64.add_assoc]
    rfl
  | succ m ih =>
    intro s M1 x hs9 hI
    obtain ⟨he, g1, h2, hd⟩ := hI
    have hL := hL0.ev he (by omega) (by omega)
    have h1 := (he.2 A1 hA).trans h10
    obtain ⟨-, ⟨⟨hW1, hW2⟩, ⟨hH1, hH2⟩, hL1, hL2⟩, -⟩ := id hL
    have hC := p_WH hW2 hH2
    refine r_il rfl rfl ?_
    refine r_ic rfl ?_
    refine r_icF rfl (zcF3 ⟨by omega, by omega⟩ ⟨by omega, by omega⟩ (by omega)) ?_
    refine r_al rfl rfl ?_
    refine r_il rfl rfl ?_
    refine r_il rfl rfl ?_
    refine r_cv2 rfl rfl hL.1 rfl (by decide) rfl (c_after hL (p := p) (s := s) hp (by omega)) ?_
    refine r_is5 rfl rfl ?_
    refine r_il rfl rfl ?_
    rcases ha : p_aC W H L hs p s with - | q
    · rw [show oI none (-1) = -1 from rfl]
      refine r_ifT rfl (zcT2 ⟨by omega, by omega⟩ ⟨by omega, by omega⟩ (by omega)) ?_
      refine r_jj4 rfl rfl ?_
      refine r_goto rfl ?_
      refine ih (s + 1) M1 _ (by omega) ⟨he, g1, h2, fun h => ?_⟩
      rw [hd h]
      show _ + f p * p_sum4 (p_aC W H L hs) h p s = _ + f p * (p_sum4 (p_aC W H L hs) h p s + p_hv h (p_aC W H L hs p s))
      rw [ha]
      show _ = _ + f p * (p_sum4 (p_aC W H L hs) h p s + 0)
      rw [Int64.add_zero]
    · have hq := p_aC_lt (by omega) hL2 hp ha
      rw [show oI (some q) (-1) = (q : Int) from rfl]
      refine r_ifF rfl (zcF2 ⟨by omega, by omega⟩ ⟨by omega, by omega⟩ (by omega)) ?_
      refine r_al rfl rfl ?_
      refine r_il rfl rfl ?_
      refine r_dup2 rfl ?_
      refine r_jaI rfl h2 (by omega) (by omega) (by omega) ?_
      refine r_al rfl rfl ?_
      refine r_il rfl rfl ?_
      refine r_jaI rfl h1 (by omega) (by omega) (by omega) ?_
      refine r_ladd rfl ?_
      refine r_jSI rfl h2 (by omega) (by omega) (by omega) ?_
      refine r_jj4 rfl rfl ?_
      refine r_goto rfl ?_
      refine ih (s + 1) _ _ (by omega) ⟨he.tr (.set rfl), _, z_gs h2, fun h => ?_⟩
      rw [Int.toNat_natCast, Int.toNat_natCast, p_dot_upd, if_pos hq, hd h, Int64.add_assoc]
      show _ + (f p * p_sum4 (p_aC W H L hs) h p s + f p * h q) = _ + f p * (p_sum4 (p_aC W H L hs) h p s + p_hv h (p_aC W H L hs p s))
      rw [ha, Int64.mul_add]
      rfl
theorem c_goOneStep_l {A1 A2 : Nat} {f g : Nat → Int64} (hA : ¬ A1 = A2) (hA2 : A2 = 30 ∨ A2 = 31) (hL0 : x_L M W H L hs) (h10 : M[A1]? = some (zJ 325 f)) : ∀ (m p : Nat) (M1 : ZM) (x1 x2 : Option Value), p + m = (13 * (W * H)) → (z_ev M M1 (fun k => k = A2) ∧ ∃ g1, M1[A2]? = some (zJ 325 g1) ∧ ∀ h, p_dot g1 h (13 * (W * H)) = p_dot g h (13 * (W * H)) + p_dot f (fun p => p_sum4 (p_aC W H L hs) h p 4) p) → z_R S (d + 2) 50 2 [some (.ref 25), some (.ref A1), some (.ref A2), some (.int (zI (p : Int))), x1, x2] [] M1 (fun r M2 => r = none ∧ z_ev M M2 (fun k => k = A2) ∧ ∃ g1, M2[A2]? = some (zJ 325 g1) ∧ ∀ h, p_dot g1 h (13 * (W * H)) = p_dot g h (13 * (W * H)) + p_dot f (fun p => p_sum4 (p_aC W H L hs) h p 4) (13 * (W * H))) := by
  intro m
  induction m with
  | zero =>
    intro p M1 x1 x2 hp hI
    obtain ⟨he, g1, h2, hd⟩ := hI
    have hL := hL0.ev he (by omega) (by omega)
    have h1 := (he.2 A1 hA).trans h10
    obtain ⟨-, ⟨⟨hW1, hW2⟩, ⟨hH1, hH2⟩, hL1, hL2⟩, -⟩ := id hL
    have hC := p_WH hW2 hH2
    refine r_il rfl rfl ?_
    refine r_al rfl rfl ?_
    refine r_gf rfl hL.1 rfl rfl ?_
    refine r_icT rfl (zcT3 ⟨by omega, by omega⟩ ⟨by omega, by omega⟩ (by omega)) ?_
    refine r_retv rfl rfl ?_
    exact ⟨rfl, he, g1, h2, fun h => by rw [hd h, show p = (13 * (W * H)) by omega]⟩
  | succ m ih =>
    intro p M1 x1 x2 hp hI
    obtain ⟨he, g1, h2, hd⟩ := hI
    have hL := hL0.ev he (by omega) (by omega)
    have h1 := (he.2 A1 hA).trans h10
    obtain ⟨-, ⟨⟨hW1, hW2⟩, ⟨hH1, hH2⟩, hL1, hL2⟩, -⟩ := id hL
    have hC := p_WH hW2 hH2
    refine r_il rfl rfl ?_
    refine r_al rfl rfl ?_
    refine r_gf rfl hL.1 rfl rfl ?_
    refine r_icF rfl (zcF3 ⟨by omega, by omega⟩ ⟨by omega, by omega⟩ (by omega)) ?_
    refine r_al rfl rfl ?_
    refine r_il rfl rfl ?_
    refine r_jaI rfl h1 (by omega) (by omega) (by omega) ?_
    refine r_lc rfl ?_
    refine r_lcmp rfl ?_
    rw [Int.toNat_natCast]
    by_cases h0 : f p = 0
    · refine r_ifF rfl (zl_F h0) ?_
      refine r_goto rfl ?_
      refine r_jj3 rfl rfl ?_
      refine r_goto rfl ?_
      refine ih (p + 1) M1 _ _ (by omega) ⟨he, g1, h2, fun h => ?_⟩
      rw [hd h]
      show _ = _ + (p_dot f (fun p => p_sum4 (p_aC W H L hs) h p 4) p + f p * p_sum4 (p_aC W H L hs) h p 4)
      rw [h0, Int64.zero_mul, Int64.add_zero]
    · refine r_ifT rfl (zl_T h0) ?_
      refine r_ic rfl ?_
      refine r_is4 rfl rfl ?_
      exact c_goOneStep_i hA hA2 hL0 h10 (by omega) (fun M2 x1 x2 hI2 => ih (p + 1) M2 x1 x2 (by omega) hI2) 4 0 M1 _ (by omega) ⟨he, g1, h2, fun h => by rw [hd h]; show _ = _ + f p * 0; rw [Int64.mul_zero, Int64.add_zero]⟩
theorem c_goOneStep {A1 A2 : Nat} {f g : Nat → Int64} (hA : ¬ A1 = A2) (hA2 : A2 = 30 ∨ A2 = 31) (hL0 : x_L M W H L hs) (h10 : M[A1]? = some (zJ 325 f)) (h20 : M[A2]? = some (zJ 325 g)) : ∃ M', z_C S (d + 2) 50 [.ref 25, .ref A1, .ref A2] M none M' ∧ z_ev M M' (fun k => k = A2) ∧ ∃ g1, M'[A2]? = some (zJ 325 g1) ∧ ∀ h, p_dot g1 h (13 * (W * H)) = p_dot g h (13 * (W * H)) + p_dot f (fun p => p_sum4 (p_aC W H L hs) h p 4) (13 * (W * H)) := by
  refine k_an ?_
  refine k_of rfl rfl (Nat.le_of_ble_eq_true rfl) ?_
  refine r_ic rfl ?_
  refine r_is3 rfl rfl ?_
  exact c_goOneStep_l hA hA2 hL0 h10 (13 * (W * H)) 0 M _ _ (by omega) ⟨.rf, g, h20, fun h => by show _ = _ + 0; rw [Int64.add_zero]⟩
theorem c_howMany_e (hL0 : x_L M W H L hs) {a b n : Nat} (ha : a < W * H) (hb : b < W * H) (hn : n ≤ 20) {A1 A2 : Nat} {M1 : ZM} {f : Nat → Int64} (h1 : M1[A1]? = some (zJ 325 f)) {Q : Option Value → ZM → Prop} (hq : Q (some (.long (p_sumL f b 13))) M1) : ∀ (m k : Nat), k + m = 13 → z_R S (d + 4) 49 79 [some (.ref 25), some (.ref 1), some (.int (zI (a : Int))), some (.int (zI (b : Int))), some (.int (zI (n : Int))), some (.ref A1), some (.ref A2), some (.long (p_sumL f b k)), none, some (.int (zI (k : Int)))] [] M1 Q := by
  obtain ⟨-, ⟨⟨hW1, hW2⟩, ⟨hH1, hH2⟩, hL1, hL2⟩, -⟩ := id hL0
  have hC := p_WH hW2 hH2
  intro m
  induction m with
  | zero =>
    intro k hk
    refine r_il rfl rfl ?_
    refine r_ic rfl ?_
    refine r_icT rfl (zcT3 ⟨by omega, by omega⟩ ⟨by omega, by omega⟩ (by omega)) ?_
    refine r_ll rfl rfl ?_
    refine r_retl rfl rfl ?_
    rw [show k = 13 by omega]
    exact hq
  | succ m ih =>
    intro k hk
    refine r_il rfl rfl ?_
    refine r_ic rfl ?_
    refine r_icF rfl (zcF3 ⟨by omega, by omega⟩ ⟨by omega, by omega⟩ (by omega)) ?_
    refine r_ll rfl rfl ?_
    refine r_al rfl rfl ?_
    refine r_il rfl rfl ?_
    refine r_cs1 rfl rfl rfl rfl (c_startOn (c := b) (by omega)) ?_
    refine r_il rfl rfl ?_
    refine r_addI rfl ?_
    refine r_jaI rfl h1 (by omega) (by omega) (by omega) ?_
    refine r_ladd rfl ?_
    refine r_ls7 rfl rfl ?_
    refine r_jj9 rfl rfl ?_
    refine r_goto rfl ?_
    rw [show (((13 * b : Nat) : Int) + (k : Int)).toNat = 13 * b + k by omega]
    exact ih (k + 1) (by omega)
theorem c_howMany_l (hL0 : x_L M W H L hs) {a b n : Nat} (ha : a < W * H) (hb : b < W * H) (hn : n ≤ 20) : ∀ (m i A1 A2 : Nat) (M1 : ZM) (x1 x2 : Option Value), i + m = n → (A1 = 30 ∧ A2 = 31) ∨ (A1 = 31 ∧ A2 = 30) → (z_ev M M1 (fun k => k = 30 ∨ k = 31) ∧ ∃ f g, M1[A1]? = some (zJ 325 f) ∧ M1[A2]? = some (zJ 325 g) ∧ p_dot f (p_cnt (p_aC W H L hs) b (n - i)) (13 * (W * H)) = p_cnt (p_aC W H L hs) b n (13 * a)) → z_R S (d + 4) 49 34 [some (.ref 25), some (.ref 1), some (.int (zI (a : Int))), some (.int (zI (b : Int))), some (.int (zI (n : Int))), some (.ref A1), some (.ref A2), some (.int (zI (i : Int))), x1, x2] [] M1 (fun r M2 => r = some (.long (p_cnt (p_aC W H L hs) b n (13 * a))) ∧ z_ev M M2 (fun k => k = 30 ∨ k = 31) ∧ (∃ f, M2[30]? = some (zJ 325 f)) ∧ ∃ f, M2[31]? = some (zJ 325 f)) := by
  obtain ⟨-, ⟨⟨hW1, hW2⟩, ⟨hH1, hH2⟩, hL1, hL2⟩, -⟩ := id hL0
  have hC := p_WH hW2 hH2
  intro m
  induction m with
  | zero =>
    intro i A1 A2 M1 x1 x2 hi hA hI
    obtain ⟨he, f, g, h1, h2, hd⟩ := hI
    have hL := hL0.ev he (by omega) (by omega)
    refine r_il rfl rfl ?_
    refine r_il rfl rfl ?_
    refine r_icT rfl (zcT3 ⟨by omega, by omega⟩ ⟨by omega, by omega⟩ (by omega)) ?_
    refine r_lc rfl ?_
    refine r_ls7 rfl rfl ?_
    refine r_ic rfl ?_
    refine r_is9 rfl rfl ?_
    refine c_howMany_e hL0 ha hb hn h1 ⟨?_, he, ?_⟩ 13 0 (by omega)
    · rw [← hd, show n - i = 0 by omega, p_dot_end hb]
    · rcases hA with ⟨rfl, rfl⟩ | ⟨rfl, rfl⟩
      · exact ⟨⟨f, h1⟩, g, h2⟩
      · exact ⟨⟨g, h2⟩, f, h1⟩
  | succ m ih =>
    intro i A1 A2 M1 x1 x2 hi hA hI
    obtain ⟨he, f, g, h1, h2, hd⟩ := hI
    have hL := hL0.ev he (by omega) (by omega)
    refine r_il rfl rfl ?_
    refine r_il rfl rfl ?_
    refine r_icF rfl (zcF3 ⟨by omega, by omega⟩ ⟨by omega, by omega⟩ (by omega)) ?_
    refine r_al rfl rfl ?_
    refine r_lc rfl ?_
    obtain ⟨M2, k2, e2, g2, g3, g4⟩ := c_fillL (S := S) (d := d + 3) (x := Int64.ofInt 0) (show ¬ A2 = 1000 by omega) (by omega) h2
    refine r_cs2v rfl rfl rfl rfl (k2) ?_
    have hL2 := hL.ev e2 (by omega) (by omega)
    have h12 := (e2.2 A1 (by omega)).trans h1
    obtain ⟨M3, k3, e3, g5, g6, g7⟩ := c_goOneStep (S := S) (d := d + 1) (A1 := A1) (A2 := A2) (by omega) (by omega) hL2 h12 g3
    refine r_al rfl rfl ?_
    refine r_al rfl rfl ?_
    refine r_al rfl rfl ?_
    refine r_cv2v rfl rfl hL2.1 rfl (by decide) rfl (k3) ?_
    refine r_al rfl rfl ?_
    refine r_as8 rfl rfl ?_
    refine r_al rfl rfl ?_
    refine r_as5 rfl rfl ?_
    refine r_al rfl rfl ?_
    refine r_as6 rfl rfl ?_
    refine r_jj7 rfl rfl ?_
    refine r_goto rfl ?_
    refine ih (i + 1) A2 A1 M3 _ _ (by omega) (by omega) ⟨he.tr ((e2.tr e3).wk (fun k g => by omega)), g5, f, g6, (e3.2 A1 (by omega)).trans h12, ?_⟩
    rw [g7, p_dot_0 _ (fun j hj => g4 j (by omega)), Int64.zero_add, ← hd, show n - i = n - (i + 1) + 1 by omega]
    rfl
theorem c_howMany {nc : Nat} (hO : k_O M 1 W H L hs nc lot) (hW : x_W M) {a b n : Nat} (ha : a < W * H) (hb : b < W * H) (hn : n ≤ 20) : ∃ M', z_C S (d + 4) 49 [.ref 25, .ref 1, .int (zI (a : Int)), .int (zI (b : Int)), .int (zI (n : Int))] M (some (.long (p_cnt (p_aC W H L hs) b n (13 * a)))) M' ∧ z_ev M M' (fun k => 25 ≤ k ∧ k < 33) ∧ x_W M' := by
  obtain ⟨o1, ⟨hW1, hW2⟩, ⟨hH1, hH2⟩, ⟨hL1, hL2⟩, hn9⟩ := id hO
  have hC := p_WH hW2 hH2
  obtain ⟨⟨i1, i2, w1⟩, ⟨f26, v26⟩, ⟨f27, v27⟩, ⟨f28, v28⟩, ⟨f29, v29⟩, ⟨f30, v30⟩, ⟨f31, v31⟩, f32, v32⟩ := id hW
  refine k_an ?_
  refine k_of rfl rfl (Nat.le_of_ble_eq_true rfl) ?_
  refine r_al rfl rfl ?_
  refine r_al rfl rfl ?_
  obtain ⟨M1, k1, e1, hL⟩ := c_lookAt (S := S) (d := d) hO hW
  refine r_cv1v rfl rfl w1 rfl (by decide) rfl (k1) ?_
  have w30 := (e1.2 30 (by decide)).trans v30
  have w31 := (e1.2 31 (by decide)).trans v31
  refine r_al rfl rfl ?_
  refine r_gf rfl hL.1 rfl rfl ?_
  refine r_as5 rfl rfl ?_
  refine r_al rfl rfl ?_
  refine r_gf rfl hL.1 rfl rfl ?_
  refine r_as6 rfl rfl ?_
  refine r_al rfl rfl ?_
  refine r_lc rfl ?_
  obtain ⟨M2, k2, e2, f2, h2, q2⟩ := c_fillL (S := S) (d := d + 3) (x := Int64.ofInt 0) (show ¬ 30 = 1000 by decide) (by omega) w30
  refine r_cs2v rfl rfl rfl rfl (k2) ?_
  refine r_al rfl rfl ?_
  refine r_il rfl rfl ?_
  refine r_cs1 rfl rfl rfl rfl (c_startOn (c := a) (by omega)) ?_
  refine r_lc rfl ?_
  refine r_jSI rfl h2 (by omega) (by omega) (by omega) ?_
  refine r_ic rfl ?_
  refine r_is7 rfl rfl ?_
  have e3 : z_ev M1 (M2.set 30 (zJ 325 (vp_updL f2 (((13 * a : Nat) : Int)).toNat (Int64.ofInt 1)))) (fun k => k = 30) := e2.tr (.set rfl)
  refine r_of (c_howMany_l (hL.ev e3 (by decide) (by decide)) ha hb hn n 0 30 31 _ _ _ (by omega) (Or.inl ⟨rfl, rfl⟩) ⟨.rf, _, f31, z_gs h2, (e3.2 31 (by decide)).trans w31, ?_⟩) (fun r M' hq => ?_)
  · rw [Int.toNat_natCast]
    have e9 : Int64.ofInt 1 = f2 (13 * a) + 1 := by rw [q2 (13 * a) (by omega)]; rfl
    rw [e9, p_dot_upd, if_pos (by omega), p_dot_0 _ (fun j hj => q2 j (by omega)), Int64.zero_add, Int64.one_mul]
    rfl
  · obtain ⟨q1, q2, q3, q4⟩ := hq
    refine ⟨q1, ((e1.wk (fun k g => by omega)).tr (e3.wk (fun k g => by omega))).tr (q2.wk (fun k g => by omega)), ?_⟩
    have E := (e3.wk (Q := fun k => k = 30 ∨ k = 31) (fun k g => by omega)).tr q2
    obtain ⟨l1, l2, nb, l3, l4⟩ := hL
    exact ⟨⟨_, _, (E.2 25 (by decide)).trans l1⟩, ⟨f26, (E.2 26 (by decide)).trans ((e1.2 26 (by decide)).trans v26)⟩, ⟨nb, (E.2 27 (by decide)).trans l3⟩, ⟨f28, (E.2 28 (by decide)).trans ((e1.2 28 (by decide)).trans v28)⟩, ⟨f29, (E.2 29 (by decide)).trans ((e1.2 29 (by decide)).trans v29)⟩, q3, q4, f32, (E.2 32 (by decide)).trans ((e1.2 32 (by decide)).trans v32)⟩
end WA
end
section
/-! ways, both sides -/
abbrev p_fr2 (W H : Nat) (hs : Int32) (c : Int) : Prop := 0 ≤ c ∧ c < ((W * H : Nat) : Int) ∧ ¬ bt hs c.toNat = true
def v_ways (W H L : Nat) (hs : Int32) (a b n : Int) : Int64 := if p_fr2 W H hs a ∧ p_fr2 W H hs b ∧ 0 ≤ n ∧ n ≤ 20 then p_cnt (p_aC W H L hs) b.toNat n.toNat (13 * a.toNat) else Int64.ofInt (-1)
section WB
variable {S : ZS} {d : Nat} {M : ZM} {T : Nat} {tx : Nat → Int32} {W H L n : Nat} {hs lot : Int32} {kc : Nat → ZK} {im : Nat → Option ZB} {tr : Int64}
theorem x_ways {a b m : Int} (ha9 : z_sm a) (hb : z_sm b) (hm : z_sm m) : z_Xc S 79 [.int (zI a), .int (zI b), .int (zI m)] ((T, tx), (W, H, L), (hs, lot, n, kc), im, tr) (.long (v_ways W H L hs a b m)) ((T, tx), (W, H, L), (hs, lot, n, kc), im, tr) := by
  intro d M hX
  obtain ⟨x1, x2, x3, x4, x5, x6, x7, x8⟩ := id hX
  have hA : k_A M 1 W H L hs lot n kc := x3
  obtain ⟨ha, hO, ch, hR, hk9⟩ := id hA
  obtain ⟨o1, ⟨hW1, hW2⟩, ⟨hH1, hH2⟩, ⟨hL1, hL2⟩, hn⟩ := id hO
  have hC := p_WH hW2 hH2
  unfold v_ways p_fr2
  refine k_an ?_
  refine k_of rfl rfl (Nat.le_of_ble_eq_true rfl) ?_
  refine r_al rfl rfl ?_
  refine r_gf rfl x2 rfl rfl ?_
  refine r_il rfl rfl ?_
  refine r_cv1 rfl rfl o1 rfl (by decide) rfl (c_isFree hO ha9) ?_
  by_cases h1 : 0 ≤ a ∧ a < ((W * H : Nat) : Int) ∧ ¬ bt hs a.toNat = true
  · rw [if_pos h1]
    refine r_ifF rfl (zcF0 ⟨by omega, by omega⟩ ⟨by omega, by omega⟩ (by decide)) ?_
    refine r_al rfl rfl ?_
    refine r_gf rfl x2 rfl rfl ?_
    refine r_il rfl rfl ?_
    refine r_cv1 rfl rfl o1 rfl (by decide) rfl (c_isFree hO hb) ?_
    by_cases h2 : 0 ≤ b ∧ b < ((W * H : Nat) : Int) ∧ ¬ bt hs b.toNat = true
    · rw [if_pos h2]
      refine r_ifF rfl (zcF0 ⟨by omega, by omega⟩ ⟨by omega, by omega⟩ (by decide)) ?_
      refine r_il rfl rfl ?_
      by_cases h3 : m < 0
      · rw [if_neg (fun g => by have := g.2.2.1; omega)]
        refine r_ifT rfl (zcT2 ⟨by omega, by omega⟩ ⟨by omega, by omega⟩ (h3)) ?_
        refine r_lc rfl ?_
        refine r_retl rfl rfl ?_
        exact ⟨rfl, hX, .rf⟩
      · refine r_ifF rfl (zcF2 ⟨by omega, by omega⟩ ⟨by omega, by omega⟩ (h3)) ?_
        refine r_il rfl rfl ?_
        refine r_ic rfl ?_
        by_cases h4 : 20 < m
        · rw [if_neg (fun g => by have := g.2.2.2; omega)]
          refine r_icF rfl (zcF5 ⟨by omega, by omega⟩ ⟨by omega, by omega⟩ (h4)) ?_
          refine r_lc rfl ?_
          refine r_retl rfl rfl ?_
          exact ⟨rfl, hX, .rf⟩
        · rw [if_pos ⟨h1, h2, by omega, by omega⟩]
          refine r_icT rfl (zcT5 ⟨by omega, by omega⟩ ⟨by omega, by omega⟩ (by omega)) ?_
          refine r_al rfl rfl ?_
          refine r_gf rfl x2 rfl rfl ?_
          refine r_al rfl rfl ?_
          refine r_gf rfl x2 rfl rfl ?_
          refine r_il rfl rfl ?_
          refine r_il rfl rfl ?_
          refine r_il rfl rfl ?_
          obtain ⟨qa, rfl⟩ : ∃ q : Nat, a = (q : Int) := ⟨a.toNat, by omega⟩
          obtain ⟨qb, rfl⟩ : ∃ q : Nat, b = (q : Int) := ⟨b.toNat, by omega⟩
          obtain ⟨qm, rfl⟩ : ∃ q : Nat, m = (q : Int) := ⟨m.toNat, by omega⟩
          rw [Int.toNat_natCast, Int.toNat_natCast, Int.toNat_natCast]
          obtain ⟨M2, k2, e2, w2⟩ := c_howMany (S := S) (d := d + 15) hO x5 (a := qa) (b := qb) (n := qm) (by omega) (by omega) (by omega)
          obtain ⟨⟨u1, u2, v25⟩, -⟩ := id x5
          refine r_cv4 rfl rfl v25 rfl (by decide) rfl (k2) ?_
          refine r_retl rfl rfl ?_
          exact ⟨rfl, hX.walk e2 w2, e2.wk (fun k g => by omega)⟩
    · rw [if_neg h2, if_neg (fun g => h2 g.2.1)]
      refine r_ifT rfl (zcT0 (rfl)) ?_
      refine r_lc rfl ?_
      refine r_retl rfl rfl ?_
      exact ⟨rfl, hX, .rf⟩
  · rw [if_neg h1, if_neg (fun g => h1 g.1)]
    refine r_ifT rfl (zcT0 (rfl)) ?_
    refine r_lc rfl ?_
    refine r_retl rfl rfl ?_
    exact ⟨rfl, hX, .rf⟩
theorem m_ways_s {v wd hd ld nw : Nat → Int32} {a b m : Nat} (hY : m_Y M tr v wd hd ld nw W H L hs lot n kc) {k p : Nat} (hp : p < (13 * (W * H))) {Q : Option Value → ZM → Prop} (hx : ∀ (M1 : ZM) (x : Option Value), (z_ev M M1 (fun k => k = 70 ∨ k = 71) ∧ ∃ f g, M1[70]? = some (zJ 325 f) ∧ M1[71]? = some (zJ 325 g) ∧ (∀ q, q < (13 * (W * H)) → f q = p_cnt (p_aR W H L hs) b k q) ∧ (∀ q, q < p + 1 → g q = p_cnt (p_aR W H L hs) b (k + 1) q)) → z_R S (d + 3) 139 80 [some (.ref 62), some (.int (zI (a : Int))), some (.int (zI (b : Int))), some (.int (zI (m : Int))), some (.int (zI (k : Int))), some (.int (zI ((p + 1 : Nat) : Int))), x] [] M1 Q) : ∀ (j s : Nat) (M1 : ZM), s + j = 4 → (z_ev M M1 (fun k => k = 70 ∨ k = 71) ∧ ∃ f g, M1[70]? = some (zJ 325 f) ∧ M1[71]? = some (zJ 325 g) ∧ (∀ q, q < (13 * (W * H)) → f q = p_cnt (p_aR W H L hs) b k q) ∧ ((∀ q, q < p → g q = p_cnt (p_aR W H L hs) b (k + 1) q) ∧ g p = p_sum4 (p_aR W H L hs) (p_cnt (p_aR W H L hs) b k) p s)) → z_R S (d + 3) 139 103 [some (.ref 62), some (.int (zI (a : Int))), some (.int (zI (b : Int))), some (.int (zI (m : Int))), some (.int (zI (k : Int))), some (.int (zI (p : Int))), some (.int (zI (s : Int)))] [] M1 Q := by
  intro j
  induction j with
  | zero =>
    intro s M1 hs9 hI
    obtain ⟨he, f, g, g1, g2, hf, hg⟩ := hI
    have h := hY.ev he (fun k x1 x2 => by omega)
    obtain ⟨⟨h1, h2, h3, h4, h5⟩, ⟨w1, w2, w3⟩, ⟨⟨hW1, hW2⟩, ⟨hH1, hH2⟩, ⟨hL1, hL2⟩, hn⟩, ⟨a1, a2, a3, a4⟩, hok⟩ := id h
    have hC := p_WH hW2 hH2
    refine r_il rfl rfl ?_
    refine r_ic rfl ?_
    refine r_icT rfl (zcT3 ⟨by omega, by omega⟩ ⟨by omega, by omega⟩ (by omega)) ?_
    refine r_jj5 rfl rfl ?_
    refine r_goto rfl ?_
    refine hx M1 _ ⟨he, f, g, g1, g2, hf, fun q hq => ?_⟩
    by_cases e : q = p
    · subst e
      rw [hg.2, show s = 4 by omega]
      rfl
    · exact hg.1 q (by omega)
  | succ j ih =>
    intro s M1 hs9 hI
    obtain ⟨he, f, g, g1, g2, hf, hg⟩ := hI
    have h := hY.ev he (fun k x1 x2 => by omega)
    obtain ⟨⟨h1, h2, h3, h4, h5⟩, ⟨w1, w2, w3⟩, ⟨⟨hW1, hW2⟩, ⟨hH1, hH2⟩, ⟨hL1, hL2⟩, hn⟩, ⟨a1, a2, a3, a4⟩, hok⟩ := id h
    have hC := p_WH hW2 hH2
    refine r_il rfl rfl ?_
    refine r_ic rfl ?_
    refine r_icF rfl (zcF3 ⟨by omega, by omega⟩ ⟨by omega, by omega⟩ (by omega)) ?_
    refine r_al rfl rfl ?_
    refine r_gf rfl h1 rfl rfl ?_
    refine r_il rfl rfl ?_
    refine r_dup2 rfl ?_
    refine r_jaI rfl g2 (by omega) (by omega) (by omega) ?_
    rw [Int.toNat_natCast]
    refine r_al rfl rfl ?_
    refine r_il rfl rfl ?_
    refine r_il rfl rfl ?_
    refine r_cv2 rfl rfl h1 rfl (by decide) rfl (m_after h (p := p) (s := s) hp (by omega)) ?_
    refine r_ic rfl ?_
    rcases ha : p_aR W H L hs p s with - | q
    · rw [show oI none (-9) = -9 from rfl]
      refine r_icF rfl (zcF1 (rfl)) ?_
      refine r_lc rfl ?_
      refine r_goto rfl ?_
      refine r_ladd rfl ?_
      refine r_jSI rfl g2 (by omega) (by omega) (by omega) ?_
      refine r_jj6 rfl rfl ?_
      refine r_goto rfl ?_
      refine ih (s + 1) _ (by omega) ⟨he.tr (.set (Or.inr rfl)), f, _, z_gn (by decide) g1, z_gs g2, hf, fun q hq => ?_, ?_⟩
      · rw [Int.toNat_natCast, ul_n (by omega)]
        exact hg.1 q hq
      · rw [Int.toNat_natCast, ul_s, hg.2]
        show _ = p_sum4 (p_aR W H L hs) (p_cnt (p_aR W H L hs) b k) p s + p_hv (p_cnt (p_aR W H L hs) b k) (p_aR W H L hs p s)
        rw [ha]
        rfl
    · have hq := p_aR_lt (by omega) hp ha
      rw [show oI (some q) (-9) = (q : Int) from rfl]
      refine r_icT rfl (zcT1 ⟨by omega, by omega⟩ ⟨by omega, by omega⟩ (by omega)) ?_
      refine r_al rfl rfl ?_
      refine r_gf rfl h1 rfl rfl ?_
      refine r_al rfl rfl ?_
      refine r_il rfl rfl ?_
      refine r_il rfl rfl ?_
      refine r_cv2 rfl rfl h1 rfl (by decide) rfl (m_after h (p := p) (s := s) hp (by omega)) ?_
      rw [ha, show oI (some q) (-9) = (q : Int) from rfl]
      refine r_jaI rfl g1 (by omega) (by omega) (by omega) ?_
      rw [Int.toNat_natCast, hf q hq]
      refine r_ladd rfl ?_
      refine r_jSI rfl g2 (by omega) (by omega) (by omega) ?_
      refine r_jj6 rfl rfl ?_
      refine r_goto rfl ?_
      refine ih (s + 1) _ (by omega) ⟨he.tr (.set (Or.inr rfl)), f, _, z_gn (by decide) g1, z_gs g2, hf, fun q hq => ?_, ?_⟩
      · rw [Int.toNat_natCast, ul_n (by omega)]
        exact hg.1 q hq
      · rw [Int.toNat_natCast, ul_s, hg.2]
        show _ = p_sum4 (p_aR W H L hs) (p_cnt (p_aR W H L hs) b k) p s + p_hv (p_cnt (p_aR W H L hs) b k) (p_aR W H L hs p s)
        rw [ha]
        rfl
theorem m_ways_p {v wd hd ld nw : Nat → Int32} {a b m : Nat} (hY : m_Y M tr v wd hd ld nw W H L hs lot n kc) {k : Nat} {Q : Option Value → ZM → Prop} (hx : ∀ (M1 : ZM) (x : Option Value), (z_ev M M1 (fun k => k = 70 ∨ k = 71) ∧ ∃ f g, M1[70]? = some (zJ 325 f) ∧ M1[71]? = some (zJ 325 g) ∧ (∀ q, q < 0 → f q = p_cnt (p_aR W H L hs) b (k + 1) q) ∧ (∀ q, q < (13 * (W * H)) → g q = p_cnt (p_aR W H L hs) b (k + 1) q)) → z_R S (d + 3) 139 164 [some (.ref 62), some (.int (zI (a : Int))), some (.int (zI (b : Int))), some (.int (zI (m : Int))), some (.int (zI (k : Int))), some (.int (zI 0)), x] [] M1 Q) : ∀ (j p : Nat) (M1 : ZM) (x : Option Value), p + j = (13 * (W * H)) → (z_ev M M1 (fun k => k = 70 ∨ k = 71) ∧ ∃ f g, M1[70]? = some (zJ 325 f) ∧ M1[71]? = some (zJ 325 g) ∧ (∀ q, q < (13 * (W * H)) → f q = p_cnt (p_aR W H L hs) b k q) ∧ (∀ q, q < p → g q = p_cnt (p_aR W H L hs) b (k + 1) q)) → z_R S (d + 3) 139 80 [some (.ref 62), some (.int (zI (a : Int))), some (.int (zI (b : Int))), some (.int (zI (m : Int))), some (.int (zI (k : Int))), some (.int (zI (p : Int))), x] [] M1 Q := by
  intro j
  induction j with
  | zero =>
    intro p M1 x hp9 hI
    obtain ⟨he, f, g, g1, g2, hf, hg⟩ := hI
    have h := hY.ev he (fun k x1 x2 => by omega)
    obtain ⟨⟨h1, h2, h3, h4, h5⟩, ⟨w1, w2, w3⟩, ⟨⟨hW1, hW2⟩, ⟨hH1, hH2⟩, ⟨hL1, hL2⟩, hn⟩, ⟨a1, a2, a3, a4⟩, hok⟩ := id h
    have hC := p_WH hW2 hH2
    refine r_il rfl rfl ?_
    refine r_ic rfl ?_
    refine r_al rfl rfl ?_
    refine r_cv0 rfl rfl h1 rfl (by decide) rfl (m_cells h) ?_
    refine r_mulI rfl ?_
    rw [show (13 : Int) * ((W * H : Nat) : Int) = (((13 * (W * H)) : Nat) : Int) by omega]
    refine r_icT rfl (zcT3 ⟨by omega, by omega⟩ ⟨by omega, by omega⟩ (by omega)) ?_
    refine r_ic rfl ?_
    refine r_is5 rfl rfl ?_
    exact hx M1 _ ⟨he, f, g, g1, g2, fun q hq => by omega, fun q hq => hg q (by omega)⟩
  | succ j ih =>
    intro p M1 x hp9 hI
    obtain ⟨he, f, g, g1, g2, hf, hg⟩ := hI
    have h := hY.ev he (fun k x1 x2 => by omega)
    obtain ⟨⟨h1, h2, h3, h4, h5⟩, ⟨w1, w2, w3⟩, ⟨⟨hW1, hW2⟩, ⟨hH1, hH2⟩, ⟨hL1, hL2⟩, hn⟩, ⟨a1, a2, a3, a4⟩, hok⟩ := id h
    have hC := p_WH hW2 hH2
    refine r_il rfl rfl ?_
    refine r_ic rfl ?_
    refine r_al rfl rfl ?_
    refine r_cv0 rfl rfl h1 rfl (by decide) rfl (m_cells h) ?_
    refine r_mulI rfl ?_
    rw [show (13 : Int) * ((W * H : Nat) : Int) = (((13 * (W * H)) : Nat) : Int) by omega]
    refine r_icF rfl (zcF3 ⟨by omega, by omega⟩ ⟨by omega, by omega⟩ (by omega)) ?_
    refine r_al rfl rfl ?_
    refine r_gf rfl h1 rfl rfl ?_
    refine r_il rfl rfl ?_
    refine r_lc rfl ?_
    refine r_jSI rfl g2 (by omega) (by omega) (by omega) ?_
    refine r_ic rfl ?_
    refine r_is6 rfl rfl ?_
    refine m_ways_s hY (k := k) (p := p) (by omega) (fun M2 x2 hI2 => ih (p + 1) M2 x2 (by omega) hI2) 4 0 _ (by omega) ⟨he.tr (.set (Or.inr rfl)), f, _, z_gn (by decide) g1, z_gs g2, hf, fun q hq => ?_, ?_⟩
    · rw [Int.toNat_natCast, ul_n (by omega)]
      exact hg q hq
    · rw [Int.toNat_natCast, ul_s]
      rfl
theorem m_ways_c {v wd hd ld nw : Nat → Int32} {a b m : Nat} (hY : m_Y M tr v wd hd ld nw W H L hs lot n kc) {k : Nat} {Q : Option Value → ZM → Prop} (hx : ∀ (M1 : ZM) (x1 x2 : Option Value), (z_ev M M1 (fun k => k = 70 ∨ k = 71) ∧ ∃ f g, M1[70]? = some (zJ 325 f) ∧ M1[71]? = some (zJ 325 g) ∧ (∀ q, q < (13 * (W * H)) → f q = p_cnt (p_aR W H L hs) b (k + 1) q)) → z_R S (d + 3) 139 71 [some (.ref 62), some (.int (zI (a : Int))), some (.int (zI (b : Int))), some (.int (zI (m : Int))), some (.int (zI ((k + 1 : Nat) : Int))), x1, x2] [] M1 Q) : ∀ (j p : Nat) (M1 : ZM) (x : Option Value), p + j = (13 * (W * H)) → (z_ev M M1 (fun k => k = 70 ∨ k = 71) ∧ ∃ f g, M1[70]? = some (zJ 325 f) ∧ M1[71]? = some (zJ 325 g) ∧ (∀ q, q < p → f q = p_cnt (p_aR W H L hs) b (k + 1) q) ∧ (∀ q, q < (13 * (W * H)) → g q = p_cnt (p_aR W H L hs) b (k + 1) q)) → z_R S (d + 3) 139 164 [some (.ref 62), some (.int (zI (a : Int))), some (.int (zI (b : Int))), some (.int (zI (m : Int))), some (.int (zI (k : Int))), some (.int (zI (p : Int))), x] [] M1 Q := by
  intro j
  induction j with
  | zero =>
    intro p M1 x hp9 hI
    obtain ⟨he, f, g, g1, g2, hf, hg⟩ := hI
    have h := hY.ev he (fun k x1 x2 => by omega)
    obtain ⟨⟨h1, h2, h3, h4, h5⟩, ⟨w1, w2, w3⟩, ⟨⟨hW1, hW2⟩, ⟨hH1, hH2⟩, ⟨hL1, hL2⟩, hn⟩, ⟨a1, a2, a3, a4⟩, hok⟩ := id h
    have hC := p_WH hW2 hH2
    refine r_il rfl rfl ?_
    refine r_ic rfl ?_
    refine r_al rfl rfl ?_
    refine r_cv0 rfl rfl h1 rfl (by decide) rfl (m_cells h) ?_
    refine r_mulI rfl ?_
    rw [show (13 : Int) * ((W * H : Nat) : Int) = (((13 * (W * H)) : Nat) : Int) by omega]
    refine r_icT rfl (zcT3 ⟨by omega, by omega⟩ ⟨by omega, by omega⟩ (by omega)) ?_
    refine r_jj4 rfl rfl ?_
    refine r_goto rfl ?_
    exact hx M1 _ _ ⟨he, f, g, g1, g2, fun q hq => hf q (by omega)⟩
  | succ j ih =>
    intro p M1 x hp9 hI
    obtain ⟨he, f, g, g1, g2, hf, hg⟩ := hI
    have h := hY.ev he (fun k x1 x2 => by omega)
    obtain ⟨⟨h1, h2, h3, h4, h5⟩, ⟨w1, w2, w3⟩, ⟨⟨hW1, hW2⟩, ⟨hH1, hH2⟩, ⟨hL1, hL2⟩, hn⟩, ⟨a1, a2, a3, a4⟩, hok⟩ := id h
    have hC := p_WH hW2 hH2
    refine r_il rfl rfl ?_
    refine r_ic rfl ?_
    refine r_al rfl rfl ?_
    refine r_cv0 rfl rfl h1 rfl (by decide) rfl (m_cells h) ?_
    refine r_mulI rfl ?_
    rw [show (13 : Int) * ((W * H : Nat) : Int) = (((13 * (W * H)) : Nat) : Int) by omega]
    refine r_icF rfl (zcF3 ⟨by omega, by omega⟩ ⟨by omega, by omega⟩ (by omega)) ?_
    refine r_al rfl rfl ?_
    refine r_gf rfl h1 rfl rfl ?_
    refine r_il rfl rfl ?_
    refine r_al rfl rfl ?_
    refine r_gf rfl h1 rfl rfl ?_
    refine r_il rfl rfl ?_
    refine r_jaI rfl g2 (by omega) (by omega) (by omega) ?_
    rw [Int.toNat_natCast, hg p (by omega)]
    refine r_jSI rfl g1 (by omega) (by omega) (by omega) ?_
    refine r_jj5 rfl rfl ?_
    refine r_goto rfl ?_
    refine ih (p + 1) _ _ (by omega) ⟨he.tr (.set (Or.inl rfl)), _, g, z_gs g1, z_gn (by decide) g2, fun q hq => ?_, hg⟩
    rw [Int.toNat_natCast]
    by_cases e : q = p
    · subst e
      exact ul_s
    · rw [ul_n e]
      exact hf q (by omega)
theorem m_ways_k {v wd hd ld nw : Nat → Int32} {a b m : Nat} (hY : m_Y M tr v wd hd ld nw W H L hs lot n kc) (ha : a < W * H) (hm : m ≤ 20)  : ∀ (j k : Nat) (M1 : ZM) (x1 x2 : Option Value), k + j = m → (z_ev M M1 (fun k => k = 70 ∨ k = 71) ∧ ∃ f g, M1[70]? = some (zJ 325 f) ∧ M1[71]? = some (zJ 325 g) ∧ (∀ q, q < (13 * (W * H)) → f q = p_cnt (p_aR W H L hs) b k q)) → z_R S (d + 3) 139 71 [some (.ref 62), some (.int (zI (a : Int))), some (.int (zI (b : Int))), some (.int (zI (m : Int))), some (.int (zI (k : Int))), x1, x2] [] M1 (fun r M2 => r = some (.long (p_cnt (p_aR W H L hs) b m (13 * a))) ∧ z_ev M M2 (fun k => k = 70 ∨ k = 71) ∧ (∃ f, M2[70]? = some (zJ 325 f)) ∧ ∃ g, M2[71]? = some (zJ 325 g)) := by
  intro j
  induction j with
  | zero =>
    intro k M1 x1 x2 hk hI
    obtain ⟨he, f, g, g1, g2, hf⟩ := hI
    have h := hY.ev he (fun k x1 x2 => by omega)
    obtain ⟨⟨h1, h2, h3, h4, h5⟩, ⟨w1, w2, w3⟩, ⟨⟨hW1, hW2⟩, ⟨hH1, hH2⟩, ⟨hL1, hL2⟩, hn⟩, ⟨a1, a2, a3, a4⟩, hok⟩ := id h
    have hC := p_WH hW2 hH2
    refine r_il rfl rfl ?_
    refine r_il rfl rfl ?_
    refine r_icT rfl (zcT3 ⟨by omega, by omega⟩ ⟨by omega, by omega⟩ (by omega)) ?_
    refine r_al rfl rfl ?_
    refine r_gf rfl h1 rfl rfl ?_
    refine r_ic rfl ?_
    refine r_il rfl rfl ?_
    refine r_mulI rfl ?_
    refine r_jaI rfl g1 (by omega) (by omega) (by omega) ?_
    rw [show ((13 : Int) * (a : Int)).toNat = 13 * a by omega, hf _ (by omega), show k = m by omega]
    refine r_retl rfl rfl ?_
    exact ⟨rfl, he, ⟨f, g1⟩, g, g2⟩
  | succ j ih =>
    intro k M1 x1 x2 hk hI
    obtain ⟨he, f, g, g1, g2, hf⟩ := hI
    have h := hY.ev he (fun k x1 x2 => by omega)
    obtain ⟨⟨h1, h2, h3, h4, h5⟩, ⟨w1, w2, w3⟩, ⟨⟨hW1, hW2⟩, ⟨hH1, hH2⟩, ⟨hL1, hL2⟩, hn⟩, ⟨a1, a2, a3, a4⟩, hok⟩ := id h
    have hC := p_WH hW2 hH2
    refine r_il rfl rfl ?_
    refine r_il rfl rfl ?_
    refine r_icF rfl (zcF3 ⟨by omega, by omega⟩ ⟨by omega, by omega⟩ (by omega)) ?_
    refine r_ic rfl ?_
    refine r_is5 rfl rfl ?_
    exact m_ways_p hY (k := k) (fun M2 x2 hI2 => m_ways_c hY (k := k) (fun M3 y1 y2 hI3 => ih (k + 1) M3 y1 y2 (by omega) hI3) (13 * (W * H)) 0 M2 x2 (by omega) hI2) (13 * (W * H)) 0 M1 _ (by omega) ⟨he, f, g, g1, g2, hf, fun q hq => by omega⟩
theorem m_ways_b {v wd hd ld nw : Nat → Int32} {a b m : Nat} (hY : m_Y M tr v wd hd ld nw W H L hs lot n kc) (ha : a < W * H) (hb : b < W * H) (hm : m ≤ 20)  : ∀ (j p : Nat) (M1 : ZM) (x1 x2 : Option Value), p + j = 325 → (z_ev M M1 (fun k => k = 70 ∨ k = 71) ∧ ∃ f g, M1[70]? = some (zJ 325 f) ∧ M1[71]? = some (zJ 325 g) ∧ (∀ q, q < p → f q = p_cnt (p_aR W H L hs) b 0 q)) → z_R S (d + 3) 139 33 [some (.ref 62), some (.int (zI (a : Int))), some (.int (zI (b : Int))), some (.int (zI (m : Int))), some (.int (zI (p : Int))), x1, x2] [] M1 (fun r M2 => r = some (.long (p_cnt (p_aR W H L hs) b m (13 * a))) ∧ z_ev M M2 (fun k => k = 70 ∨ k = 71) ∧ (∃ f, M2[70]? = some (zJ 325 f)) ∧ ∃ g, M2[71]? = some (zJ 325 g)) := by
  intro j
  induction j with
  | zero =>
    intro p M1 x1 x2 hp9 hI
    obtain ⟨he, f, g, g1, g2, hf⟩ := hI
    have h := hY.ev he (fun k x1 x2 => by omega)
    obtain ⟨⟨h1, h2, h3, h4, h5⟩, ⟨w1, w2, w3⟩, ⟨⟨hW1, hW2⟩, ⟨hH1, hH2⟩, ⟨hL1, hL2⟩, hn⟩, ⟨a1, a2, a3, a4⟩, hok⟩ := id h
    have hC := p_WH hW2 hH2
    refine r_il rfl rfl ?_
    refine r_ic rfl ?_
    refine r_icT rfl (zcT3 ⟨by omega, by omega⟩ ⟨by omega, by omega⟩ (by omega)) ?_
    refine r_ic rfl ?_
    refine r_is4 rfl rfl ?_
    exact m_ways_k hY ha hm m 0 M1 _ _ (by omega) ⟨he, f, g, g1, g2, fun q hq => hf q (by omega)⟩
  | succ j ih =>
    intro p M1 x1 x2 hp9 hI
    obtain ⟨he, f, g, g1, g2, hf⟩ := hI
    have h := hY.ev he (fun k x1 x2 => by omega)
    obtain ⟨⟨h1, h2, h3, h4, h5⟩, ⟨w1, w2, w3⟩, ⟨⟨hW1, hW2⟩, ⟨hH1, hH2⟩, ⟨hL1, hL2⟩, hn⟩, ⟨a1, a2, a3, a4⟩, hok⟩ := id h
    have hC := p_WH hW2 hH2
    refine r_il rfl rfl ?_
    refine r_ic rfl ?_
    refine r_icF rfl (zcF3 ⟨by omega, by omega⟩ ⟨by omega, by omega⟩ (by omega)) ?_
    refine r_al rfl rfl ?_
    refine r_gf rfl h1 rfl rfl ?_
    refine r_il rfl rfl ?_
    refine r_il rfl rfl ?_
    refine r_ic rfl ?_
    refine r_divI rfl (⟨by omega, by omega⟩) (⟨by omega, by omega⟩) ?_
    refine r_il rfl rfl ?_
    by_cases hb9 : (p : Int) / 13 = (b : Int)
    · refine r_icF rfl (zcF1 (by omega)) ?_
      refine r_lc rfl ?_
      refine r_goto rfl ?_
      rw [show Int64.ofInt 1 = p_cnt (p_aR W H L hs) b 0 p from (if_pos (by omega)).symm]
      refine r_jSI rfl g1 (by omega) (by omega) (by omega) ?_
      refine r_jj4 rfl rfl ?_
      refine r_goto rfl ?_
      refine ih (p + 1) _ _ _ (by omega) ⟨he.tr (.set (Or.inl rfl)), _, g, z_gs g1, z_gn (by decide) g2, fun q hq => ?_⟩
      rw [Int.toNat_natCast]
      by_cases e : q = p
      · subst e
        exact ul_s
      · rw [ul_n e]
        exact hf q (by omega)
    · refine r_icT rfl (zcT1 ⟨by omega, by omega⟩ ⟨by omega, by omega⟩ (by omega)) ?_
      refine r_lc rfl ?_
      rw [show Int64.ofInt 0 = p_cnt (p_aR W H L hs) b 0 p from (if_neg (by omega)).symm]
      refine r_jSI rfl g1 (by omega) (by omega) (by omega) ?_
      refine r_jj4 rfl rfl ?_
      refine r_goto rfl ?_
      refine ih (p + 1) _ _ _ (by omega) ⟨he.tr (.set (Or.inl rfl)), _, g, z_gs g1, z_gn (by decide) g2, fun q hq => ?_⟩
      rw [Int.toNat_natCast]
      by_cases e : q = p
      · subst e
        exact ul_s
      · rw [ul_n e]
        exact hf q (by omega)
theorem y_ways {a b m : Int} (ha : z_sm a) (hb : z_sm b) (hm : z_sm m) : z_Yc S 139 [.int (zI a), .int (zI b), .int (zI m)] ((T, tx), (W, H, L), (hs, lot, n, kc), im, tr) (.long (v_ways W H L hs a b m)) ((T, tx), (W, H, L), (hs, lot, n, kc), im, tr) := by
  intro d M hY
  obtain ⟨y1, v, wd, hd, ld, nw, h, y3, y4, y5, y6, y7, y8⟩ := id hY
  have h : m_Y M tr v wd hd ld nw W H L hs lot n kc := h
  obtain ⟨⟨h1, h2, h3, h4, h5⟩, ⟨w1, w2, w3⟩, ⟨⟨hW1, hW2⟩, ⟨hH1, hH2⟩, ⟨hL1, hL2⟩, hn⟩, ⟨a1, a2, a3, a4⟩, hok⟩ := id h
  have hC := p_WH hW2 hH2
  unfold v_ways p_fr2
  refine k_an ?_
  refine k_of rfl rfl (Nat.le_of_ble_eq_true rfl) ?_
  refine r_al rfl rfl ?_
  refine r_il rfl rfl ?_
  refine r_cv1 rfl rfl h1 rfl (by decide) rfl (m_isFree h ha) ?_
  by_cases h1' : 0 ≤ a ∧ a < ((W * H : Nat) : Int) ∧ ¬ bt hs a.toNat = true
  · rw [if_pos h1']
    refine r_ifF rfl (zcF0 ⟨by omega, by omega⟩ ⟨by omega, by omega⟩ (by decide)) ?_
    refine r_al rfl rfl ?_
    refine r_il rfl rfl ?_
    refine r_cv1 rfl rfl h1 rfl (by decide) rfl (m_isFree h hb) ?_
    by_cases h2' : 0 ≤ b ∧ b < ((W * H : Nat) : Int) ∧ ¬ bt hs b.toNat = true
    · rw [if_pos h2']
      refine r_ifF rfl (zcF0 ⟨by omega, by omega⟩ ⟨by omega, by omega⟩ (by decide)) ?_
      refine r_il rfl rfl ?_
      refine r_ic rfl ?_
      refine r_ic rfl ?_
      refine r_cs3 rfl rfl rfl rfl (m_in hm ⟨by omega, by omega⟩ ⟨by omega, by omega⟩) ?_
      by_cases h3' : 0 ≤ m ∧ m ≤ 20
      · rw [if_pos h3', if_pos ⟨h1', h2', h3'.1, h3'.2⟩]
        refine r_ifT rfl (zcT1 ⟨by omega, by omega⟩ ⟨by omega, by omega⟩ (by decide)) ?_
        refine r_ic rfl ?_
        refine r_is4 rfl rfl ?_
        obtain ⟨qa, rfl⟩ : ∃ q : Nat, a = (q : Int) := ⟨a.toNat, by omega⟩
        obtain ⟨qb, rfl⟩ : ∃ q : Nat, b = (q : Int) := ⟨b.toNat, by omega⟩
        obtain ⟨qm, rfl⟩ : ∃ q : Nat, m = (q : Int) := ⟨m.toNat, by omega⟩
        rw [Int.toNat_natCast, Int.toNat_natCast, Int.toNat_natCast]
        obtain ⟨r69, ⟨f70, r70⟩, ⟨f71, r71⟩, r72, r73, r74, r75, r76, r77⟩ := id y8
        refine r_of (m_ways_b h (a := qa) (b := qb) (m := qm) (by omega) (by omega) (by omega) 325 0 M _ _ (by omega) ⟨.rf, f70, f71, r70, r71, fun q hq => by omega⟩) (fun r M2 hq => ?_)
        obtain ⟨q1, q2, q3, q4⟩ := hq
        have E : ∀ k, (∃ f : Nat → Int32, M[k]? = some (.inr (0, 12, .inl f))) → ¬ (k = 70 ∨ k = 71) → ∃ f : Nat → Int32, M2[k]? = some (.inr (0, 12, .inl f)) := fun k ⟨f, g⟩ h0 => ⟨f, (q2.2 k h0).trans g⟩
        refine ⟨q1.trans (by rw [p_cnt_eq hL2 _ _ (Or.inl (by omega))]), hY.rows (q2.wk (fun k g => by omega)) ?_, q2.wk (fun k g => by omega)⟩
        obtain ⟨f69, r69⟩ := r69
        obtain ⟨f72, r72⟩ := r72
        obtain ⟨f73, r73⟩ := r73
        obtain ⟨f74, r74⟩ := r74
        obtain ⟨f75, r75⟩ := r75
        obtain ⟨f76, r76⟩ := r76
        obtain ⟨f77, r77⟩ := r77
        exact ⟨⟨f69, (q2.2 69 (by decide)).trans r69⟩, q3, q4, ⟨f72, (q2.2 72 (by decide)).trans r72⟩, ⟨f73, (q2.2 73 (by decide)).trans r73⟩, ⟨f74, (q2.2 74 (by decide)).trans r74⟩, ⟨f75, (q2.2 75 (by decide)).trans r75⟩, ⟨f76, (q2.2 76 (by decide)).trans r76⟩, f77, (q2.2 77 (by decide)).trans r77⟩
      · rw [if_neg h3', if_neg (fun g => h3' g.2.2)]
        refine r_ifF rfl (zcF1 (rfl)) ?_
        refine r_lc rfl ?_
        refine r_retl rfl rfl ?_
        exact ⟨rfl, hY, .rf⟩
    · rw [if_neg h2', if_neg (fun g => h2' g.2.1)]
      refine r_ifT rfl (zcT0 (rfl)) ?_
      refine r_lc rfl ?_
      refine r_retl rfl rfl ?_
      exact ⟨rfl, hY, .rf⟩
  · rw [if_neg h1', if_neg (fun g => h1' g.1)]
    refine r_ifT rfl (zcT0 (rfl)) ?_
    refine r_lc rfl ?_
    refine r_retl rfl rfl ?_
    exact ⟨rfl, hY, .rf⟩
end WB
end
section
/-! MEND: pure. a: what is behind a step; F: far; b: the last cell; m steps st; r: how many steps are left -/
def p_cst (s : Nat) (own : Int) : Nat := if (s : Int) = own then 0 else 1
def p_dv (F : Nat) (D : Nat → Nat) (own : Int) (s : Nat) (o : Option Nat) : Nat := match o with
  | some q => D q + p_cst s own
  | none => F
def p_mn (a : Nat → Nat → Option Nat) (F : Nat) (D : Nat → Nat) (own : Int) (p : Nat) : Nat → Nat
  | 0 => F
  | s + 1 => min (p_mn a F D own p s) (p_dv F D own s (a p s))
/-- the fewest steps that differ -/
def p_D (a : Nat → Nat → Option Nat) (F b m : Nat) (st : Nat → Int) : Nat → Nat → Nat
  | 0, p => if p / 13 = b then 0 else F
  | r + 1, p => p_mn a F (p_D a F b m st r) (st (m - (r + 1))) p 4
def p_pick (v : Nat → Nat) (t : Nat) : Nat := if v 0 ≤ t then 0 else if v 1 ≤ t then 1 else if v 2 ≤ t then 2 else 3
/-- the j-th step of the mended chain, from p -/
def p_mk (a : Nat → Nat → Option Nat) (b m : Nat) (st : Nat → Int) (j p : Nat) : Nat := p_pick (fun s => p_dv 1000 (p_D a 1000 b m st (m - (j + 1))) (st j) s (a p s)) (p_D a 1000 b m st (m - j) p)
/-- where it is ahead of its j-th step -/
def p_mp (a : Nat → Nat → Option Nat) (b m : Nat) (st : Nat → Int) (start : Nat) : Nat → Nat
  | 0 => start
  | j + 1 => (a (p_mp a b m st start j) (p_mk a b m st j (p_mp a b m st start j))).getD 0
theorem p_cst_le {s : Nat} {own : Int} : p_cst s own ≤ 1 := by
  unfold p_cst
  split <;> omega
theorem p_mn_le {a : Nat → Nat → Option Nat} {F : Nat} {D : Nat → Nat} {own : Int} {p : Nat} : ∀ n, p_mn a F D own p n ≤ F := by
  intro n
  induction n with
  | zero => exact Nat.le_refl F
  | succ n ih =>
    show min _ _ ≤ F
    omega
theorem p_mn_dv {a : Nat → Nat → Option Nat} {F : Nat} {D : Nat → Nat} {own : Int} {p : Nat} : ∀ n s, s < n → p_mn a F D own p n ≤ p_dv F D own s (a p s) := by
  intro n
  induction n with
  | zero => intro s hs; omega
  | succ n ih =>
    intro s hs
    show min _ _ ≤ _
    by_cases e : s = n
    · subst e
      exact Nat.min_le_right _ _
    · exact Nat.le_trans (Nat.min_le_left _ _) (ih s (by omega))
theorem p_mn_at {a : Nat → Nat → Option Nat} {F : Nat} {D : Nat → Nat} {own : Int} {p : Nat} : ∀ n, p_mn a F D own p n = F ∨ ∃ s, s < n ∧ p_mn a F D own p n = p_dv F D own s (a p s) := by
  intro n
  induction n with
  | zero => exact Or.inl rfl
  | succ n ih =>
    have e : p_mn a F D own p (n + 1) = min (p_mn a F D own p n) (p_dv F D own n (a p n)) := rfl
    by_cases h : p_mn a F D own p n ≤ p_dv F D own n (a p n)
    · rw [e, Nat.min_eq_left h]
      rcases ih with g | ⟨s, h1, h2⟩
      · exact Or.inl g
      · exact Or.inr ⟨s, by omega, h2⟩
    · exact Or.inr ⟨n, by omega, by rw [e, Nat.min_eq_right (by omega)]⟩
theorem p_D_le {a : Nat → Nat → Option Nat} {F b m : Nat} {st : Nat → Int} {r p : Nat} : p_D a F b m st r p ≤ F := by
  cases r with
  | zero =>
    show (if _ then 0 else F) ≤ F
    split <;> omega
  | succ r => exact p_mn_le 4
theorem p_D_fin {a : Nat → Nat → Option Nat} {F b m : Nat} {st : Nat → Int} : ∀ r p, p_D a F b m st r p = F ∨ p_D a F b m st r p ≤ r := by
  intro r
  induction r with
  | zero =>
    intro p
    show (if _ then 0 else F) = F ∨ (if _ then 0 else F) ≤ 0
    split
    · exact Or.inr (Nat.le_refl 0)
    · exact Or.inl rfl
  | succ r ih =>
    intro p
    have e : p_D a F b m st (r + 1) p = p_mn a F (p_D a F b m st r) (st (m - (r + 1))) p 4 := rfl
    have l := p_mn_le (a := a) (F := F) (D := p_D a F b m st r) (own := st (m - (r + 1))) (p := p) 4
    rw [e]
    rcases p_mn_at (a := a) (F := F) (D := p_D a F b m st r) (own := st (m - (r + 1))) (p := p) 4 with g | ⟨s, h1, h2⟩
    · exact Or.inl g
    · cases ha : a p s with
      | none => rw [ha] at h2; exact Or.inl h2
      | some q =>
        rw [ha] at h2
        have h2 : _ = p_D a F b m st r q + p_cst s (st (m - (r + 1))) := h2
        have := p_cst_le (s := s) (own := st (m - (r + 1)))
        rcases ih q with g | g
        · rw [g] at h2
          left
          omega
        · right
          omega
theorem p_D_rel {W H L : Nat} {hs : Int32} {b m : Nat} {st : Nat → Int} (hL : L ≤ 3) : ∀ r p, r ≤ 100 → p_val L p → (p_D (p_aR W H L hs) 999 b m st r p = p_D (p_aC W H L hs) 1000 b m st r p ∧ p_D (p_aC W H L hs) 1000 b m st r p ≤ r) ∨ (p_D (p_aR W H L hs) 999 b m st r p = 999 ∧ p_D (p_aC W H L hs) 1000 b m st r p = 1000) := by
  intro r
  induction r with
  | zero =>
    intro p _ _
    show ((if _ then 0 else 999) = (if _ then 0 else 1000) ∧ (if _ then 0 else 1000) ≤ 0) ∨ ((if _ then 0 else 999) = 999 ∧ (if _ then 0 else 1000) = 1000)
    by_cases g : p / 13 = b
    · rw [if_pos g, if_pos g]
      exact Or.inl ⟨rfl, Nat.le_refl 0⟩
    · rw [if_neg g, if_neg g]
      exact Or.inr ⟨rfl, rfl⟩
  | succ r ih =>
    intro p hr hp
    have key : ∀ n, n ≤ 4 → (p_mn (p_aR W H L hs) 999 (p_D (p_aR W H L hs) 999 b m st r) (st (m - (r + 1))) p n = p_mn (p_aC W H L hs) 1000 (p_D (p_aC W H L hs) 1000 b m st r) (st (m - (r + 1))) p n ∧ p_mn (p_aC W H L hs) 1000 (p_D (p_aC W H L hs) 1000 b m st r) (st (m - (r + 1))) p n ≤ r + 1) ∨ (p_mn (p_aR W H L hs) 999 (p_D (p_aR W H L hs) 999 b m st r) (st (m - (r + 1))) p n = 999 ∧ p_mn (p_aC W H L hs) 1000 (p_D (p_aC W H L hs) 1000 b m st r) (st (m - (r + 1))) p n = 1000) := by
      intro n
      induction n with
      | zero => intro _; exact Or.inr ⟨rfl, rfl⟩
      | succ n ih2 =>
        intro hn
        have k2 := ih2 (by omega)
        show (min _ (p_dv 999 _ _ n (p_aR W H L hs p n)) = min _ (p_dv 1000 _ _ n (p_aC W H L hs p n)) ∧ min _ (p_dv 1000 _ _ n (p_aC W H L hs p n)) ≤ r + 1) ∨ (min _ (p_dv 999 _ _ n (p_aR W H L hs p n)) = 999 ∧ min _ (p_dv 1000 _ _ n (p_aC W H L hs p n)) = 1000)
        rw [p_a_eq hp]
        cases ha : p_aC W H L hs p n with
        | none =>
          show (min _ 999 = min _ 1000 ∧ min _ 1000 ≤ r + 1) ∨ (min _ 999 = 999 ∧ min _ 1000 = 1000)
          omega
        | some q =>
          have k3 := ih q (by omega) (p_aC_val (by omega) hL ha)
          have := p_cst_le (s := n) (own := st (m - (r + 1)))
          show (min _ (p_D (p_aR W H L hs) 999 b m st r q + p_cst n (st (m - (r + 1)))) = min _ (p_D (p_aC W H L hs) 1000 b m st r q + p_cst n (st (m - (r + 1)))) ∧ min _ (p_D (p_aC W H L hs) 1000 b m st r q + p_cst n (st (m - (r + 1)))) ≤ r + 1) ∨ (min _ (p_D (p_aR W H L hs) 999 b m st r q + p_cst n (st (m - (r + 1)))) = 999 ∧ min _ (p_D (p_aC W H L hs) 1000 b m st r q + p_cst n (st (m - (r + 1)))) = 1000)
          omega
    exact key 4 (Nat.le_refl 4)
theorem p_pick_ok {v : Nat → Nat} {t : Nat} (h : ∃ s, s < 4 ∧ v s ≤ t) : p_pick v t < 4 ∧ v (p_pick v t) ≤ t ∧ ∀ s, s < p_pick v t → ¬ v s ≤ t := by
  unfold p_pick
  by_cases h0 : v 0 ≤ t
  · rw [if_pos h0]
    exact ⟨by decide, h0, fun s hs => by omega⟩
  · rw [if_neg h0]
    by_cases h1 : v 1 ≤ t
    · rw [if_pos h1]
      exact ⟨by decide, h1, fun s hs => by
        obtain rfl : s = 0 := by omega
        exact h0⟩
    · rw [if_neg h1]
      by_cases h2 : v 2 ≤ t
      · rw [if_pos h2]
        exact ⟨by decide, h2, fun s hs => by
          obtain rfl | rfl : s = 0 ∨ s = 1 := by omega
          · exact h0
          · exact h1⟩
      · rw [if_neg h2]
        have h3 : v 3 ≤ t := by
          obtain ⟨s, g1, g2⟩ := h
          obtain rfl | rfl | rfl | rfl : s = 0 ∨ s = 1 ∨ s = 2 ∨ s = 3 := by omega
          · exact absurd g2 h0
          · exact absurd g2 h1
          · exact absurd g2 h2
          · exact g2
        exact ⟨by decide, h3, fun s hs => by
          obtain rfl | rfl | rfl : s = 0 ∨ s = 1 ∨ s = 2 := by omega
          · exact h0
          · exact h1
          · exact h2⟩
/-- a step of the mended chain: it leads on, and to the fewest -/
theorem p_mk_ok {W H L : Nat} {hs : Int32} {b m : Nat} {st : Nat → Int} {j p : Nat} (hj : j < m) (hm : m ≤ 12) (hf : p_D (p_aC W H L hs) 1000 b m st (m - j) p < 1000) : p_mk (p_aC W H L hs) b m st j p < 4 ∧ (∃ q, p_aC W H L hs p (p_mk (p_aC W H L hs) b m st j p) = some q ∧ p_D (p_aC W H L hs) 1000 b m st (m - (j + 1)) q + p_cst (p_mk (p_aC W H L hs) b m st j p) (st j) = p_D (p_aC W H L hs) 1000 b m st (m - j) p) ∧ ∀ s, s < p_mk (p_aC W H L hs) b m st j p → p_D (p_aC W H L hs) 1000 b m st (m - j) p < p_dv 1000 (p_D (p_aC W H L hs) 1000 b m st (m - (j + 1))) (st j) s (p_aC W H L hs p s) := by
  have e : p_D (p_aC W H L hs) 1000 b m st (m - j) p = p_mn (p_aC W H L hs) 1000 (p_D (p_aC W H L hs) 1000 b m st (m - (j + 1))) (st j) p 4 := by
    rw [show m - j = m - (j + 1) + 1 by omega]
    show p_mn _ _ _ (st (m - (m - (j + 1) + 1))) p 4 = _
    rw [show m - (m - (j + 1) + 1) = j by omega]
  have hp := p_pick_ok (v := fun s => p_dv 1000 (p_D (p_aC W H L hs) 1000 b m st (m - (j + 1))) (st j) s (p_aC W H L hs p s)) (t := p_D (p_aC W H L hs) 1000 b m st (m - j) p) (by
    rcases p_mn_at (a := p_aC W H L hs) (F := 1000) (D := p_D (p_aC W H L hs) 1000 b m st (m - (j + 1))) (own := st j) (p := p) 4 with g | ⟨s, h1, h2⟩
    · rw [e, g] at hf
      omega
    · exact ⟨s, h1, by rw [e, h2]; exact Nat.le_refl _⟩)
  obtain ⟨h1, h2, h3⟩ := hp
  have hk : p_pick (fun s => p_dv 1000 (p_D (p_aC W H L hs) 1000 b m st (m - (j + 1))) (st j) s (p_aC W H L hs p s)) (p_D (p_aC W H L hs) 1000 b m st (m - j) p) = p_mk (p_aC W H L hs) b m st j p := rfl
  rw [hk] at h1 h2 h3
  refine ⟨h1, ?_, fun s hs9 => Nat.lt_of_not_le (h3 s hs9)⟩
  have l := p_mn_dv (a := p_aC W H L hs) (F := 1000) (D := p_D (p_aC W H L hs) 1000 b m st (m - (j + 1))) (own := st j) (p := p) 4 _ h1
  rw [← e] at l
  have h2 : p_dv 1000 (p_D (p_aC W H L hs) 1000 b m st (m - (j + 1))) (st j) (p_mk (p_aC W H L hs) b m st j p) (p_aC W H L hs p (p_mk (p_aC W H L hs) b m st j p)) ≤ p_D (p_aC W H L hs) 1000 b m st (m - j) p := h2
  cases ha : p_aC W H L hs p (p_mk (p_aC W H L hs) b m st j p) with
  | none =>
    rw [ha] at h2
    have h2 : 1000 ≤ p_D (p_aC W H L hs) 1000 b m st (m - j) p := h2
    omega
  | some q =>
    rw [ha] at h2 l
    exact ⟨q, rfl, Nat.le_antisymm h2 l⟩
theorem p_mp_ok {W H L : Nat} {hs : Int32} {b m : Nat} {st : Nat → Int} {start : Nat} (hm : m ≤ 12) (hL : L ≤ 3) (hs0 : start < 13 * (W * H)) (hv : p_val L start) (hf : p_D (p_aC W H L hs) 1000 b m st m start < 1000) : ∀ j, j ≤ m → p_mp (p_aC W H L hs) b m st start j < 13 * (W * H) ∧ p_val L (p_mp (p_aC W H L hs) b m st start j) ∧ p_D (p_aC W H L hs) 1000 b m st (m - j) (p_mp (p_aC W H L hs) b m st start j) < 1000 := by
  intro j
  induction j with
  | zero => intro _; exact ⟨hs0, hv, hf⟩
  | succ j ih =>
    intro hj
    obtain ⟨h1, h2, h3⟩ := ih (by omega)
    obtain ⟨g1, ⟨q, g2, g3⟩, g4⟩ := p_mk_ok (show j < m by omega) hm h3
    have e : p_mp (p_aC W H L hs) b m st start (j + 1) = q := by
      show (p_aC W H L hs (p_mp (p_aC W H L hs) b m st start j) (p_mk (p_aC W H L hs) b m st j (p_mp (p_aC W H L hs) b m st start j))).getD 0 = q
      rw [g2]
      rfl
    rw [e]
    exact ⟨p_aC_lt g1 hL h1 g2, p_aC_val g1 hL g2, by omega⟩
theorem z_min {x y : Nat} (hx : x ≤ 100000) (hy : y ≤ 100000) : (if zI (y : Int) < zI (x : Int) then zI (y : Int) else zI (x : Int)) = zI ((min x y : Nat) : Int) := by
  by_cases h : y < x
  · rw [if_pos (by rw [zI_lt ⟨by omega, by omega⟩ ⟨by omega, by omega⟩]; omega), show min x y = y by omega]
  · rw [if_neg (by rw [zI_lt ⟨by omega, by omega⟩ ⟨by omega, by omega⟩]; omega), show min x y = x by omega]
end
section
/-! MEND: the class's side -/
abbrev zA (n : Nat) (f : Nat → Int32) : ZE := .inr (0, n, .inl f)
theorem k_C.ev {M M' : ZM} {P : Nat → Prop} {c sa : Nat} {f la : Int} {N : Nat} {cs : Int32} {g : Nat → Int32} {s : Nat → Int} (e : z_ev M M' P) (h1 : ¬ P c) (h2 : ¬ P sa) (h : k_C M c sa f la N cs g s) : k_C M' c sa f la N cs g s := ⟨(e.2 _ h1).trans h.1, (e.2 _ h2).trans h.2.1, h.2.2⟩
section MD
variable {S : ZS} {d : Nat} {M : ZM} {W H L N : Nat} {hs lot : Int32} {c sa : Nat} {f la : Int} {cs : Int32} {g : Nat → Int32} {s : Nat → Int}
theorem c_differsBy (hL : x_L M W H L hs) (hk : k_C M c sa f la N cs g s) {df : Nat → Int32} (hd : M[32]? = some (zA 4225 df)) {Dn : Nat → Nat} {i p : Nat} (hi : i < N) (hq : ∀ q, q < (13 * (W * H)) → df (325 * (i + 1) + q) = zI (Dn q : Int)) (hB : ∀ q, Dn q ≤ 1000) (hp : p < (13 * (W * H))) {t : Nat} (ht : t < 4) : z_C S (d + 2) 54 [.ref 25, .ref c, .int (zI (i : Int)), .int (zI (p : Int)), .int (zI (t : Int))] M (some (.int (zI (p_dv 1000 Dn (s i) t (p_aC W H L hs p t) : Int)))) M := by
  obtain ⟨l1, ⟨⟨hW1, hW2⟩, ⟨hH1, hH2⟩, hL1, hL2⟩, -⟩ := id hL
  have hC := p_WH hW2 hH2
  obtain ⟨q1, q2, q3, q4, q5⟩ := id hk
  refine c_of rfl rfl (Nat.le_of_ble_eq_true rfl) ?_
  refine g_al rfl rfl ?_
  refine g_il rfl rfl ?_
  refine g_il rfl rfl ?_
  refine g_cv2 rfl rfl l1 rfl (by decide) rfl (c_after hL (p := p) (s := t) hp ht) ?_
  refine g_is5 rfl rfl ?_
  refine g_il rfl rfl ?_
  rcases ha : p_aC W H L hs p t with - | y
  · rw [show oI none (-1) = -1 from rfl]
    refine g_ifT rfl (zcT2 ⟨by omega, by omega⟩ ⟨by omega, by omega⟩ (by omega)) ?_
    refine g_ic rfl ?_
    exact g_reti rfl (rfl) rfl
  · have hy := p_aC_lt ht hL2 hp ha
    have hB1 := hB y
    rw [show oI (some y) (-1) = (y : Int) from rfl]
    refine g_ifF rfl (zcF2 ⟨by omega, by omega⟩ ⟨by omega, by omega⟩ (by omega)) ?_
    refine g_il rfl rfl ?_
    refine g_ifF rfl (zcF2 ⟨by omega, by omega⟩ ⟨by omega, by omega⟩ (by omega)) ?_
    refine g_il rfl rfl ?_
    refine g_ic rfl ?_
    refine g_icT rfl (zcT2 ⟨by omega, by omega⟩ ⟨by omega, by omega⟩ (by omega)) ?_
    refine g_al rfl rfl ?_
    refine g_gf rfl l1 rfl rfl ?_
    refine g_il rfl rfl ?_
    refine g_ic rfl ?_
    refine g_addI rfl ?_
    refine g_ic rfl ?_
    refine g_mulI rfl ?_
    refine g_il rfl rfl ?_
    refine g_addI rfl ?_
    refine g_iaI rfl (by decide) hd (by omega) (by omega) (by omega) ?_
    rw [show (((i : Int) + 1) * 325 + (y : Int)).toNat = 325 * (i + 1) + y by omega, hq y hy]
    refine g_il rfl rfl ?_
    refine g_al rfl rfl ?_
    refine g_il rfl rfl ?_
    refine g_cv1 rfl rfl q1 rfl (by decide) rfl (c_stepAt hk (i := (i : Int)) (by omega) (by omega)) ?_
    rw [Int.toNat_natCast]
    have q6 := (q5 i hi).2
    have ec : p_cst t (s i) = if (t : Int) = s i then 0 else 1 := rfl
    by_cases he : (t : Int) = s i
    · rw [if_pos he] at ec
      refine g_icF rfl (zcF1 (he)) ?_
      refine g_ic rfl ?_
      refine g_goto rfl ?_
      refine g_addI rfl ?_
      exact g_reti rfl (by show _ = some (Value.int (zI ((Dn y + p_cst t (s i) : Nat) : Int))); rw [ec]; rfl) rfl
    · rw [if_neg he] at ec
      refine g_icT rfl (zcT1 ⟨by omega, by omega⟩ ⟨by omega, by omega⟩ (he)) ?_
      refine g_ic rfl ?_
      refine g_addI rfl ?_
      exact g_reti rfl (by show _ = some (Value.int (zI ((Dn y + p_cst t (s i) : Nat) : Int))); rw [ec]; rfl) rfl
theorem c_fewestFrom_l (hL : x_L M W H L hs) (hk : k_C M c sa f la N cs g s) {df : Nat → Int32} (hd : M[32]? = some (zA 4225 df)) {Dn : Nat → Nat} {i p : Nat} (hi : i < N) (hq : ∀ q, q < (13 * (W * H)) → df (325 * (i + 1) + q) = zI (Dn q : Int)) (hB : ∀ q, Dn q ≤ 1000) (hp : p < (13 * (W * H))) : ∀ (m t : Nat), t + m = 4 → z_G S (d + 3) 52 8 [some (.ref 25), some (.ref c), some (.int (zI (i : Int))), some (.int (zI (p : Int))), some (.int (zI (p_mn (p_aC W H L hs) 1000 Dn (s i) p t : Int))), some (.int (zI (t : Int)))] [] M (some (.int (zI (p_mn (p_aC W H L hs) 1000 Dn (s i) p 4 : Int)))) M := by
  obtain ⟨l1, ⟨⟨hW1, hW2⟩, ⟨hH1, hH2⟩, hL1, hL2⟩, -⟩ := id hL
  have hC := p_WH hW2 hH2
  obtain ⟨q1, q2, q3, q4, q5⟩ := id hk
  intro m
  induction m with
  | zero =>
    intro t ht
    refine g_il rfl rfl ?_
    refine g_ic rfl ?_
    refine g_icT rfl (zcT3 ⟨by omega, by omega⟩ ⟨by omega, by omega⟩ (by omega)) ?_
    refine g_il rfl rfl ?_
    rw [show t = 4 by omega]
    exact g_reti rfl (rfl) rfl
  | succ m ih =>
    intro t ht
    refine g_il rfl rfl ?_
    refine g_ic rfl ?_
    refine g_icF rfl (zcF3 ⟨by omega, by omega⟩ ⟨by omega, by omega⟩ (by omega)) ?_
    refine g_il rfl rfl ?_
    refine g_al rfl rfl ?_
    refine g_al rfl rfl ?_
    refine g_il rfl rfl ?_
    refine g_il rfl rfl ?_
    refine g_il rfl rfl ?_
    refine g_cv4 rfl rfl l1 rfl (by decide) rfl (c_differsBy hL hk hd hi hq hB hp (t := t) (by omega)) ?_
    have b1 := p_mn_le (a := p_aC W H L hs) (F := 1000) (D := Dn) (own := s i) (p := p) t
    have b2 : p_dv 1000 Dn (s i) t (p_aC W H L hs p t) ≤ 1001 := by
      cases p_aC W H L hs p t with
      | none => exact Nat.le_succ 1000
      | some y =>
        have := hB y
        have := p_cst_le (s := t) (own := s i)
        show Dn y + p_cst t (s i) ≤ 1001
        omega
    refine g_min rfl rfl ?_
    rw [z_min (by omega) (by omega)]
    refine g_is4 rfl rfl ?_
    refine g_jj5 rfl rfl ?_
    refine g_goto rfl ?_
    exact ih (t + 1) (by omega)
theorem c_fewestFrom (hL : x_L M W H L hs) (hk : k_C M c sa f la N cs g s) {df : Nat → Int32} (hd : M[32]? = some (zA 4225 df)) {Dn : Nat → Nat} {i p : Nat} (hi : i < N) (hq : ∀ q, q < (13 * (W * H)) → df (325 * (i + 1) + q) = zI (Dn q : Int)) (hB : ∀ q, Dn q ≤ 1000) (hp : p < (13 * (W * H))) : z_C S (d + 3) 52 [.ref 25, .ref c, .int (zI (i : Int)), .int (zI (p : Int))] M (some (.int (zI (p_mn (p_aC W H L hs) 1000 Dn (s i) p 4 : Int)))) M := by
  refine c_of rfl rfl (Nat.le_of_ble_eq_true rfl) ?_
  refine g_ic rfl ?_
  refine g_is4 rfl rfl ?_
  refine g_ic rfl ?_
  refine g_is5 rfl rfl ?_
  exact c_fewestFrom_l hL hk hd hi hq hB hp 4 0 (by omega)
theorem p_dv_le {D : Nat → Nat} {own : Int} {s : Nat} {o : Option Nat} (h : ∀ q, D q ≤ 1000) : p_dv 1000 D own s o ≤ 1001 := by
  cases o with
  | none => exact Nat.le_succ 1000
  | some y =>
    have := h y
    have := p_cst_le (s := s) (own := own)
    show D y + p_cst s own ≤ 1001
    omega
theorem c_fillMended_i (hL : x_L M W H L hs) (hk : k_C M c sa f la N cs g s) {df : Nat → Int32} (hd : M[32]? = some (zA 4225 df)) {b : Nat} (hdr : ∀ i p, i ≤ N → p < (13 * (W * H)) → df (325 * i + p) = zI (p_D (p_aC W H L hs) 1000 b N s (N - i) p : Int)) {i p : Nat} (hi : i < N) (hp : p < (13 * (W * H))) (hf9 : p_D (p_aC W H L hs) 1000 b N s (N - i) p < 1000) {Q : Option Value → ZM → Prop} (hx : z_R S (d + 4) 53 60 [some (.ref 25), some (.ref c), some (.int (zI (N : Int))), some (.int (zI (p : Int))), some (.int (zI (i : Int))), some (.int (zI (p_mk (p_aC W H L hs) b N s i p : Int)))] [] M Q) : ∀ (m t : Nat), t + m = 4 → t ≤ p_mk (p_aC W H L hs) b N s i p → z_R S (d + 4) 53 27 [some (.ref 25), some (.ref c), some (.int (zI (N : Int))), some (.int (zI (p : Int))), some (.int (zI (i : Int))), some (.int (zI (t : Int)))] [] M Q := by
  obtain ⟨l1, ⟨⟨hW1, hW2⟩, ⟨hH1, hH2⟩, hL1, hL2⟩, -⟩ := id hL
  have hC := p_WH hW2 hH2
  obtain ⟨q1, q2, q3, q4, q5⟩ := id hk
  obtain ⟨g1, ⟨y, g2, g3⟩, g4⟩ := p_mk_ok hi q3 hf9
  have e9 : p_D (p_aC W H L hs) 1000 b N s (N - i) p = p_mn (p_aC W H L hs) 1000 (p_D (p_aC W H L hs) 1000 b N s (N - (i + 1))) (s i) p 4 := by
    rw [show N - i = N - (i + 1) + 1 by omega]
    show p_mn _ _ _ (s (N - (N - (i + 1) + 1))) p 4 = _
    rw [show N - (N - (i + 1) + 1) = i by omega]
  intro m
  induction m with
  | zero =>
    intro t ht ht2
    omega
  | succ m ih =>
    intro t ht ht2
    refine r_il rfl rfl ?_
    refine r_ic rfl ?_
    by_cases h7 : t = 3
    · refine r_icT rfl (zcT3 ⟨by omega, by omega⟩ ⟨by omega, by omega⟩ (by omega)) ?_
      obtain rfl : t = p_mk (p_aC W H L hs) b N s i p := by omega
      exact hx
    · refine r_icF rfl (zcF3 ⟨by omega, by omega⟩ ⟨by omega, by omega⟩ (by omega)) ?_
      refine r_al rfl rfl ?_
      refine r_al rfl rfl ?_
      refine r_il rfl rfl ?_
      refine r_il rfl rfl ?_
      refine r_il rfl rfl ?_
      refine r_cv4 rfl rfl l1 rfl (by decide) rfl ((c_differsBy hL hk hd hi (Dn := (p_D (p_aC W H L hs) 1000 b N s (N - (i + 1)))) (fun q hq => hdr (i + 1) q (by omega) hq) (fun q => p_D_le) hp (t := t) (by omega))) ?_
      refine r_al rfl rfl ?_
      refine r_al rfl rfl ?_
      refine r_il rfl rfl ?_
      refine r_il rfl rfl ?_
      refine r_cv3 rfl rfl l1 rfl (by decide) rfl ((c_fewestFrom hL hk hd hi (Dn := (p_D (p_aC W H L hs) 1000 b N s (N - (i + 1)))) (fun q hq => hdr (i + 1) q (by omega) hq) (fun q => p_D_le) hp)) ?_
      rw [← e9]
      by_cases h8 : t = p_mk (p_aC W H L hs) b N s i p
      · subst h8
        have e7 : p_dv 1000 (p_D (p_aC W H L hs) 1000 b N s (N - (i + 1))) (s i) (p_mk (p_aC W H L hs) b N s i p) (p_aC W H L hs p (p_mk (p_aC W H L hs) b N s i p)) = p_D (p_aC W H L hs) 1000 b N s (N - i) p := by
          rw [g2]
          exact g3
        rw [e7]
        refine r_icT rfl (zcT5 ⟨by omega, by omega⟩ ⟨by omega, by omega⟩ (by omega)) ?_
        exact hx
      · have g5 := g4 t (by omega)
        have b2 := p_dv_le (s := t) (own := s i) (o := p_aC W H L hs p t) (D := (p_D (p_aC W H L hs) 1000 b N s (N - (i + 1)))) (fun q => p_D_le)
        refine r_icF rfl (zcF5 ⟨by omega, by omega⟩ ⟨by omega, by omega⟩ (by omega)) ?_
        refine r_jj5 rfl rfl ?_
        refine r_goto rfl ?_
        exact ih (t + 1) (by omega) (by omega)
theorem c_fillMended_l {fN : Nat} (hL0 : x_L M W H L hs) (hk0 : k_C M c sa (fN : Int) la N cs g s) (hc : c < 25) (hsa : sa < 25) {df : Nat → Int32} (hd0 : M[32]? = some (zA 4225 df)) {b : Nat} (hdr : ∀ i p, i ≤ N → p < (13 * (W * H)) → df (325 * i + p) = zI (p_D (p_aC W H L hs) 1000 b N s (N - i) p : Int)) (hfN : fN < W * H) (hf9 : p_D (p_aC W H L hs) 1000 b N s N (13 * fN) < 1000) : ∀ (m i : Nat) (M1 : ZM) (x : Option Value), i + m = N → (z_ev M M1 (fun k => k = 26) ∧ ∃ rw, M1[26]? = some (zA 60 rw) ∧ ∀ j, j < i → rw j = zI (p_mk (p_aC W H L hs) b N s j (p_mp (p_aC W H L hs) b N s (13 * fN) j) : Int)) → z_R S (d + 4) 53 11 [some (.ref 25), some (.ref c), some (.int (zI (N : Int))), some (.int (zI (p_mp (p_aC W H L hs) b N s (13 * fN) i : Int))), some (.int (zI (i : Int))), x] [] M1 (fun r M2 => r = none ∧ z_ev M M2 (fun k => k = 26) ∧ ∃ rw, M2[26]? = some (zA 60 rw) ∧ ∀ j, j < N → rw j = zI (p_mk (p_aC W H L hs) b N s j (p_mp (p_aC W H L hs) b N s (13 * fN) j) : Int)) := by
  intro m
  induction m with
  | zero =>
    intro i M1 x hi hI
    obtain ⟨he, rw, r1, r2⟩ := hI
    have hL := hL0.ev he (by decide) (by decide)
    have hk := hk0.ev he (by omega) (by omega)
    have hd := (he.2 32 (by decide)).trans hd0
    obtain ⟨l1, ⟨⟨hW1, hW2⟩, ⟨hH1, hH2⟩, hL1, hL2⟩, -⟩ := id hL
    have hC := p_WH hW2 hH2
    obtain ⟨q1, q2, q3, q4, q5⟩ := id hk
    refine r_il rfl rfl ?_
    refine r_il rfl rfl ?_
    refine r_icT rfl (zcT3 ⟨by omega, by omega⟩ ⟨by omega, by omega⟩ (by omega)) ?_
    refine r_retv rfl rfl ?_
    exact ⟨rfl, he, rw, r1, fun j hj => r2 j (by omega)⟩
  | succ m ih =>
    intro i M1 x hi hI
    obtain ⟨he, rw, r1, r2⟩ := hI
    have hL := hL0.ev he (by decide) (by decide)
    have hk := hk0.ev he (by omega) (by omega)
    have hd := (he.2 32 (by decide)).trans hd0
    obtain ⟨l1, ⟨⟨hW1, hW2⟩, ⟨hH1, hH2⟩, hL1, hL2⟩, -⟩ := id hL
    have hC := p_WH hW2 hH2
    obtain ⟨q1, q2, q3, q4, q5⟩ := id hk
    refine r_il rfl rfl ?_
    refine r_il rfl rfl ?_
    refine r_icF rfl (zcF3 ⟨by omega, by omega⟩ ⟨by omega, by omega⟩ (by omega)) ?_
    refine r_il rfl rfl ?_
    refine r_ic rfl ?_
    refine r_icF rfl (zcF3 ⟨by omega, by omega⟩ ⟨by omega, by omega⟩ (by omega)) ?_
    refine r_ic rfl ?_
    refine r_is5 rfl rfl ?_
    obtain ⟨m1, m2, m3⟩ := p_mp_ok q3 hL2 (show 13 * fN < (13 * (W * H)) by omega) (Or.inl (by omega)) hf9 i (by omega)
    obtain ⟨g1, ⟨y, g2, g3⟩, g4⟩ := p_mk_ok (show i < N by omega) q3 m3
    refine c_fillMended_i hL hk hd hdr (by omega) m1 m3 ?_ 4 0 (by omega) (by omega)
    refine r_al rfl rfl ?_
    refine r_gf rfl l1 rfl rfl ?_
    refine r_il rfl rfl ?_
    refine r_il rfl rfl ?_
    refine r_iSI rfl r1 (by omega) (by omega) (by omega) ?_
    refine r_al rfl rfl ?_
    refine r_il rfl rfl ?_
    refine r_il rfl rfl ?_
    have hL9 := hL.ev (.set (P := fun k => k = 26) (e := zA 60 (upd rw (i : Int).toNat (zI (p_mk (p_aC W H L hs) b N s i (p_mp (p_aC W H L hs) b N s (13 * fN) i) : Int)))) rfl) (by decide) (by decide)
    refine r_cv2 rfl rfl (z_gn (by decide) l1) rfl (by decide) rfl (c_after hL9 m1 g1) ?_
    rw [g2, show oI (some y) (-1) = ((p_mp (p_aC W H L hs) b N s (13 * fN) (i + 1) : Nat) : Int) by show (y : Int) = (((p_aC W H L hs (p_mp (p_aC W H L hs) b N s (13 * fN) i) (p_mk (p_aC W H L hs) b N s i (p_mp (p_aC W H L hs) b N s (13 * fN) i))).getD 0 : Nat) : Int); rw [g2]; rfl]
    refine r_is3 rfl rfl ?_
    refine r_jj4 rfl rfl ?_
    refine r_goto rfl ?_
    refine ih (i + 1) _ _ (by omega) ⟨he.tr (.set rfl), _, z_gs r1, fun j hj => ?_⟩
    rw [Int.toNat_natCast]
    by_cases e : j = i
    · subst e
      exact pk_us
    · rw [pk_un e]
      exact r2 j (by omega)
theorem c_fillMended {fN : Nat} (hL0 : x_L M W H L hs) (hk0 : k_C M c sa (fN : Int) la N cs g s) (hc : c < 25) (hsa : sa < 25) {df : Nat → Int32} (hd0 : M[32]? = some (zA 4225 df)) {b : Nat} (hdr : ∀ i p, i ≤ N → p < (13 * (W * H)) → df (325 * i + p) = zI (p_D (p_aC W H L hs) 1000 b N s (N - i) p : Int)) (hfN : fN < W * H) (hf9 : p_D (p_aC W H L hs) 1000 b N s N (13 * fN) < 1000) {rw0 : Nat → Int32} (r0 : M[26]? = some (zA 60 rw0)) : ∃ M', z_C S (d + 4) 53 [.ref 25, .ref c, .int (zI (N : Int))] M none M' ∧ z_ev M M' (fun k => k = 26) ∧ ∃ rw, M'[26]? = some (zA 60 rw) ∧ ∀ j, j < N → rw j = zI (p_mk (p_aC W H L hs) b N s j (p_mp (p_aC W H L hs) b N s (13 * fN) j) : Int) := by
  obtain ⟨l1, ⟨⟨hW1, hW2⟩, ⟨hH1, hH2⟩, hL1, hL2⟩, -⟩ := id hL0
  have hC := p_WH hW2 hH2
  refine k_an ?_
  refine k_of rfl rfl (Nat.le_of_ble_eq_true rfl) ?_
  refine r_al rfl rfl ?_
  refine r_gf rfl hk0.1 rfl rfl ?_
  refine r_cs1 rfl rfl rfl rfl (c_startOn (c := fN) (by omega)) ?_
  refine r_is3 rfl rfl ?_
  refine r_ic rfl ?_
  refine r_is4 rfl rfl ?_
  exact c_fillMended_l hL0 hk0 hc hsa hd0 hdr hfN hf9 N 0 M _ (by omega) ⟨.rf, rw0, r0, fun j hj => by omega⟩
set_option maxRecDepth 20000 in
theorem c_mended_p {fN b : Nat} (hL0 : x_L M W H L hs) (hk0 : k_C M c sa (fN : Int) (b : Int) N cs g s) (hc : c < 25) (hsa : sa < 25) (hfN : fN < W * H) (hb : b < W * H) {i : Nat} (hi : i < N) {Q : Option Value → ZM → Prop} (hx : ∀ (M1 : ZM) (x : Option Value), (z_ev M M1 (fun k => k = 32) ∧ ∃ df, M1[32]? = some (zA 4225 df) ∧ ∀ j q, i ≤ j → j ≤ N → q < (13 * (W * H)) → df (325 * j + q) = zI (p_D (p_aC W H L hs) 1000 b N s (N - j) q : Int)) → z_R S (d + 5) 51 70 [some (.ref 25), some (.ref 1), some (.ref c), some (.int (zI (N : Int))), some (.int (zI ((i : Int) - 1))), x] [] M1 Q) : ∀ (m p : Nat) (M1 : ZM), p + m = (13 * (W * H)) → (z_ev M M1 (fun k => k = 32) ∧ ∃ df, M1[32]? = some (zA 4225 df) ∧ (∀ j q, i < j → j ≤ N → q < (13 * (W * H)) → df (325 * j + q) = zI (p_D (p_aC W H L hs) 1000 b N s (N - j) q : Int)) ∧ ∀ q, q < p → df (325 * i + q) = zI (p_D (p_aC W H L hs) 1000 b N s (N - i) q : Int)) → z_R S (d + 5) 51 78 [some (.ref 25), some (.ref 1), some (.ref c), some (.int (zI (N : Int))), some (.int (zI (i : Int))), some (.int (zI (p : Int)))] [] M1 Q := by
  intro m
  induction m with
  | zero =>
    intro p M1 hp9 hI
    obtain ⟨he, df, hd, hdr⟩ := hI
    have hL := hL0.ev he (by decide) (by decide)
    have hk := hk0.ev he (by omega) (by omega)
    obtain ⟨l1, ⟨⟨hW1, hW2⟩, ⟨hH1, hH2⟩, hL1, hL2⟩, -⟩ := id hL
    have hC := p_WH hW2 hH2
    obtain ⟨q1, q2, q3, q4, q5⟩ := id hk
    refine r_il rfl rfl ?_
    refine r_al rfl rfl ?_
    refine r_gf rfl l1 rfl rfl ?_
    refine r_icT rfl (zcT3 ⟨by omega, by omega⟩ ⟨by omega, by omega⟩ (by omega)) ?_
    refine r_jj4 rfl rfl ?_
    refine r_goto rfl ?_
    rw [show (i : Int) + -1 = (i : Int) - 1 by omega]
    refine hx M1 _ ⟨he, df, hd, fun j q h1 h2 h3 => ?_⟩
    by_cases e : j = i
    · subst e
      exact hdr.2 q (by omega)
    · exact hdr.1 j q (by omega) h2 h3
  | succ m ih =>
    intro p M1 hp9 hI
    obtain ⟨he, df, hd, hdr⟩ := hI
    have hL := hL0.ev he (by decide) (by decide)
    have hk := hk0.ev he (by omega) (by omega)
    obtain ⟨l1, ⟨⟨hW1, hW2⟩, ⟨hH1, hH2⟩, hL1, hL2⟩, -⟩ := id hL
    have hC := p_WH hW2 hH2
    obtain ⟨q1, q2, q3, q4, q5⟩ := id hk
    refine r_il rfl rfl ?_
    refine r_al rfl rfl ?_
    refine r_gf rfl l1 rfl rfl ?_
    refine r_icF rfl (zcF3 ⟨by omega, by omega⟩ ⟨by omega, by omega⟩ (by omega)) ?_
    refine r_al rfl rfl ?_
    refine r_gf rfl l1 rfl rfl ?_
    refine r_il rfl rfl ?_
    refine r_ic rfl ?_
    refine r_mulI rfl ?_
    refine r_il rfl rfl ?_
    refine r_addI rfl ?_
    refine r_al rfl rfl ?_
    refine r_al rfl rfl ?_
    refine r_il rfl rfl ?_
    refine r_il rfl rfl ?_
    refine r_cv3 rfl rfl l1 rfl (by decide) rfl (c_fewestFrom hL hk hd hi (Dn := (p_D (p_aC W H L hs) 1000 b N s (N - (i + 1)))) (p := p) (fun q hq => hdr.1 (i + 1) q (by omega) (by omega) hq) (fun q => p_D_le) (by omega)) ?_
    have e9 : p_mn (p_aC W H L hs) 1000 (p_D (p_aC W H L hs) 1000 b N s (N - (i + 1))) (s i) p 4 = p_D (p_aC W H L hs) 1000 b N s (N - i) p := by
      rw [show N - i = N - (i + 1) + 1 by omega]
      show _ = p_mn _ _ _ (s (N - (N - (i + 1) + 1))) p 4
      rw [show N - (N - (i + 1) + 1) = i by omega]
    rw [e9]
    refine r_iSI rfl hd (by omega) (by omega) (by omega) ?_
    refine r_jj5 rfl rfl ?_
    refine r_goto rfl ?_
    refine ih (p + 1) _ (by omega) ⟨he.tr (.set rfl), _, z_gs hd, fun j q h1 h2 h3 => ?_, fun q hq => ?_⟩
    · rw [show ((i : Int) * 325 + (p : Int)).toNat = 325 * i + p by omega, pk_un (by omega)]
      exact hdr.1 j q h1 h2 h3
    · rw [show ((i : Int) * 325 + (p : Int)).toNat = 325 * i + p by omega]
      by_cases e : q = p
      · subst e
        exact pk_us
      · rw [pk_un (by omega)]
        exact hdr.2 q (by omega)
set_option maxRecDepth 20000 in
theorem c_mended_l {fN b : Nat} (hL0 : x_L M W H L hs) (hk0 : k_C M c sa (fN : Int) (b : Int) N cs g s) (hc : c < 25) (hsa : sa < 25) (hfN : fN < W * H) (hb : b < W * H) {rw0 : Nat → Int32} (r0 : M[26]? = some (zA 60 rw0)) : ∀ (i : Nat) (M1 : ZM) (x : Option Value), i ≤ N → (z_ev M M1 (fun k => k = 32) ∧ ∃ df, M1[32]? = some (zA 4225 df) ∧ ∀ j q, i ≤ j → j ≤ N → q < (13 * (W * H)) → df (325 * j + q) = zI (p_D (p_aC W H L hs) 1000 b N s (N - j) q : Int)) → z_R S (d + 5) 51 70 [some (.ref 25), some (.ref 1), some (.ref c), some (.int (zI (N : Int))), some (.int (zI ((i : Int) - 1))), x] [] M1 (fun r M2 => r = some (.int (zI (if 1000 ≤ p_D (p_aC W H L hs) 1000 b N s N (13 * fN) then -9 else (p_D (p_aC W H L hs) 1000 b N s N (13 * fN) : Int)))) ∧ z_ev M M2 (fun k => k = 26 ∨ k = 32) ∧ (∃ df, M2[32]? = some (zA 4225 df)) ∧ ∃ rw, M2[26]? = some (zA 60 rw) ∧ (p_D (p_aC W H L hs) 1000 b N s N (13 * fN) < 1000 → ∀ j, j < N → rw j = zI (p_mk (p_aC W H L hs) b N s j (p_mp (p_aC W H L hs) b N s (13 * fN) j) : Int))) := by
  intro i
  induction i with
  | zero =>
    intro M1 x hi9 hI
    obtain ⟨he, df, hd, hdr⟩ := hI
    have hL := hL0.ev he (by decide) (by decide)
    have hk := hk0.ev he (by omega) (by omega)
    obtain ⟨l1, ⟨⟨hW1, hW2⟩, ⟨hH1, hH2⟩, hL1, hL2⟩, -⟩ := id hL
    have hC := p_WH hW2 hH2
    obtain ⟨q1, q2, q3, q4, q5⟩ := id hk
    refine r_il rfl rfl ?_
    refine r_ifT rfl (zcT2 ⟨by omega, by omega⟩ ⟨by omega, by omega⟩ (by omega)) ?_
    refine r_al rfl rfl ?_
    refine r_gf rfl l1 rfl rfl ?_
    refine r_al rfl rfl ?_
    refine r_gf rfl q1 rfl rfl ?_
    refine r_cs1 rfl rfl rfl rfl (c_startOn (c := fN) (by omega)) ?_
    refine r_iaI rfl (by decide) hd (by omega) (by omega) (by omega) ?_
    rw [Int.toNat_natCast, show 13 * fN = 325 * 0 + 13 * fN by omega, hdr 0 (13 * fN) (by omega) (by omega) (by omega), Nat.sub_zero, show 325 * 0 + 13 * fN = 13 * fN by omega]
    have l9 := p_D_le (a := p_aC W H L hs) (F := 1000) (b := b) (m := N) (st := s) (r := N) (p := 13 * fN)
    refine r_is4 rfl rfl ?_
    refine r_il rfl rfl ?_
    refine r_ic rfl ?_
    by_cases h9 : 1000 ≤ p_D (p_aC W H L hs) 1000 b N s N (13 * fN)
    · rw [if_pos h9]
      refine r_icF rfl (zcF2 ⟨by omega, by omega⟩ ⟨by omega, by omega⟩ (by omega)) ?_
      refine r_ic rfl ?_
      refine r_reti rfl rfl ?_
      exact ⟨rfl, he.wk (fun k g => Or.inr g), ⟨df, hd⟩, rw0, (he.2 26 (by decide)).trans r0, fun g => by omega⟩
    · rw [if_neg h9]
      obtain ⟨M2, k2, e2, rw, r3, r4⟩ := c_fillMended (S := S) (d := d) hL hk hc hsa hd (fun j q h2 h3 => hdr j q (by omega) h2 h3) hfN (by omega) ((he.2 26 (by decide)).trans r0)
      refine r_icT rfl (zcT2 ⟨by omega, by omega⟩ ⟨by omega, by omega⟩ (by omega)) ?_
      refine r_al rfl rfl ?_
      refine r_al rfl rfl ?_
      refine r_il rfl rfl ?_
      refine r_cv2v rfl rfl l1 rfl (by decide) rfl (k2) ?_
      refine r_il rfl rfl ?_
      refine r_reti rfl rfl ?_
      exact ⟨rfl, (he.wk (fun k g => Or.inr g)).tr (e2.wk (fun k g => Or.inl g)), ⟨df, (e2.2 32 (by decide)).trans hd⟩, rw, r3, fun _ => r4⟩
  | succ i ih =>
    intro M1 x hi9 hI
    obtain ⟨he, df, hd, hdr⟩ := hI
    have hL := hL0.ev he (by decide) (by decide)
    have hk := hk0.ev he (by omega) (by omega)
    obtain ⟨l1, ⟨⟨hW1, hW2⟩, ⟨hH1, hH2⟩, hL1, hL2⟩, -⟩ := id hL
    have hC := p_WH hW2 hH2
    obtain ⟨q1, q2, q3, q4, q5⟩ := id hk
    refine r_il rfl rfl ?_
    refine r_ifF rfl (zcF2 ⟨by omega, by omega⟩ ⟨by omega, by omega⟩ (by omega)) ?_
    refine r_ic rfl ?_
    refine r_is5 rfl rfl ?_
    rw [show ((i + 1 : Nat) : Int) - 1 = (i : Int) by omega]
    exact c_mended_p hL0 hk0 hc hsa hfN hb (i := i) (by omega) (fun M2 x2 hI2 => ih M2 x2 (by omega) hI2) (13 * (W * H)) 0 M1 (by omega) ⟨he, df, hd, fun j q h1 h2 h3 => hdr j q (by omega) h2 h3, fun q hq => by omega⟩
set_option maxRecDepth 20000 in
theorem c_mended_b {fN b : Nat} (hL0 : x_L M W H L hs) (hk0 : k_C M c sa (fN : Int) (b : Int) N cs g s) (hc : c < 25) (hsa : sa < 25) (hfN : fN < W * H) (hb : b < W * H) {rw0 : Nat → Int32} (r0 : M[26]? = some (zA 60 rw0)) : ∀ (m p : Nat) (M1 : ZM) (x : Option Value), p + m = (13 * (W * H)) → (z_ev M M1 (fun k => k = 32) ∧ ∃ df, M1[32]? = some (zA 4225 df) ∧ ∀ q, q < p → df (325 * N + q) = zI (p_D (p_aC W H L hs) 1000 b N s 0 q : Int)) → z_R S (d + 5) 51 18 [some (.ref 25), some (.ref 1), some (.ref c), some (.int (zI (N : Int))), some (.int (zI (p : Int))), x] [] M1 (fun r M2 => r = some (.int (zI (if 1000 ≤ p_D (p_aC W H L hs) 1000 b N s N (13 * fN) then -9 else (p_D (p_aC W H L hs) 1000 b N s N (13 * fN) : Int)))) ∧ z_ev M M2 (fun k => k = 26 ∨ k = 32) ∧ (∃ df, M2[32]? = some (zA 4225 df)) ∧ ∃ rw, M2[26]? = some (zA 60 rw) ∧ (p_D (p_aC W H L hs) 1000 b N s N (13 * fN) < 1000 → ∀ j, j < N → rw j = zI (p_mk (p_aC W H L hs) b N s j (p_mp (p_aC W H L hs) b N s (13 * fN) j) : Int))) := by
  intro m
  induction m with
  | zero =>
    intro p M1 x hp9 hI
    obtain ⟨he, df, hd, hdr⟩ := hI
    have hL := hL0.ev he (by decide) (by decide)
    have hk := hk0.ev he (by omega) (by omega)
    obtain ⟨l1, ⟨⟨hW1, hW2⟩, ⟨hH1, hH2⟩, hL1, hL2⟩, -⟩ := id hL
    have hC := p_WH hW2 hH2
    obtain ⟨q1, q2, q3, q4, q5⟩ := id hk
    refine r_il rfl rfl ?_
    refine r_al rfl rfl ?_
    refine r_gf rfl l1 rfl rfl ?_
    refine r_icT rfl (zcT3 ⟨by omega, by omega⟩ ⟨by omega, by omega⟩ (by omega)) ?_
    refine r_il rfl rfl ?_
    refine r_ic rfl ?_
    refine r_subI rfl ?_
    refine r_is4 rfl rfl ?_
    refine c_mended_l hL0 hk0 hc hsa hfN hb r0 N M1 _ (Nat.le_refl N) ⟨he, df, hd, fun j q h1 h2 h3 => ?_⟩
    rw [show j = N by omega, Nat.sub_self]
    exact hdr q (by omega)
  | succ m ih =>
    intro p M1 x hp9 hI
    obtain ⟨he, df, hd, hdr⟩ := hI
    have hL := hL0.ev he (by decide) (by decide)
    have hk := hk0.ev he (by omega) (by omega)
    obtain ⟨l1, ⟨⟨hW1, hW2⟩, ⟨hH1, hH2⟩, hL1, hL2⟩, -⟩ := id hL
    have hC := p_WH hW2 hH2
    obtain ⟨q1, q2, q3, q4, q5⟩ := id hk
    refine r_il rfl rfl ?_
    refine r_al rfl rfl ?_
    refine r_gf rfl l1 rfl rfl ?_
    refine r_icF rfl (zcF3 ⟨by omega, by omega⟩ ⟨by omega, by omega⟩ (by omega)) ?_
    refine r_al rfl rfl ?_
    refine r_gf rfl l1 rfl rfl ?_
    refine r_il rfl rfl ?_
    refine r_ic rfl ?_
    refine r_mulI rfl ?_
    refine r_il rfl rfl ?_
    refine r_addI rfl ?_
    refine r_il rfl rfl ?_
    refine r_ic rfl ?_
    refine r_divI rfl (⟨by omega, by omega⟩) (⟨by omega, by omega⟩) ?_
    refine r_al rfl rfl ?_
    refine r_gf rfl q1 rfl rfl ?_
    by_cases h9 : (p : Int) / 13 = (b : Int)
    · refine r_icF rfl (zcF1 (h9)) ?_
      refine r_ic rfl ?_
      refine r_goto rfl ?_
      rw [show zI 0 = zI (p_D (p_aC W H L hs) 1000 b N s 0 p : Int) by rw [show p_D (p_aC W H L hs) 1000 b N s 0 p = 0 from if_pos (by omega)]; rfl]
      refine r_iSI rfl hd (by omega) (by omega) (by omega) ?_
      refine r_jj4 rfl rfl ?_
      refine r_goto rfl ?_
      refine ih (p + 1) _ _ (by omega) ⟨he.tr (.set rfl), _, z_gs hd, fun q hq => ?_⟩
      rw [show ((N : Int) * 325 + (p : Int)).toNat = 325 * N + p by omega]
      by_cases e : q = p
      · subst e
        exact pk_us
      · rw [pk_un (by omega)]
        exact hdr q (by omega)
    · refine r_icT rfl (zcT1 ⟨by omega, by omega⟩ ⟨by omega, by omega⟩ (h9)) ?_
      refine r_ic rfl ?_
      rw [show zI 1000 = zI (p_D (p_aC W H L hs) 1000 b N s 0 p : Int) by rw [show p_D (p_aC W H L hs) 1000 b N s 0 p = 1000 from if_neg (by omega)]; rfl]
      refine r_iSI rfl hd (by omega) (by omega) (by omega) ?_
      refine r_jj4 rfl rfl ?_
      refine r_goto rfl ?_
      refine ih (p + 1) _ _ (by omega) ⟨he.tr (.set rfl), _, z_gs hd, fun q hq => ?_⟩
      rw [show ((N : Int) * 325 + (p : Int)).toNat = 325 * N + p by omega]
      by_cases e : q = p
      · subst e
        exact pk_us
      · rw [pk_un (by omega)]
        exact hdr q (by omega)
theorem c_mended {nc fN b : Nat} (hO : k_O M 1 W H L hs nc lot) (hW : x_W M) (hk : k_C M c sa (fN : Int) (b : Int) N cs g s) (hc : c < 25) (hsa : sa < 25) (hfN : fN < W * H) (hb : b < W * H) : ∃ M', z_C S (d + 5) 51 [.ref 25, .ref 1, .ref c] M (some (.int (zI (if 1000 ≤ p_D (p_aC W H L hs) 1000 b N s N (13 * fN) then -9 else (p_D (p_aC W H L hs) 1000 b N s N (13 * fN) : Int))))) M' ∧ z_ev M M' (fun k => 25 ≤ k ∧ k < 33) ∧ x_W M' ∧ ∃ rw, M'[26]? = some (zA 60 rw) ∧ (p_D (p_aC W H L hs) 1000 b N s N (13 * fN) < 1000 → ∀ j, j < N → rw j = zI (p_mk (p_aC W H L hs) b N s j (p_mp (p_aC W H L hs) b N s (13 * fN) j) : Int)) := by
  obtain ⟨o1, ⟨hW1, hW2⟩, ⟨hH1, hH2⟩, ⟨hL1, hL2⟩, hn9⟩ := id hO
  have hC := p_WH hW2 hH2
  obtain ⟨⟨i1, i2, w1⟩, ⟨f26, v26⟩, ⟨f27, v27⟩, ⟨f28, v28⟩, ⟨f29, v29⟩, ⟨f30, v30⟩, ⟨f31, v31⟩, f32, v32⟩ := id hW
  obtain ⟨q1, q2, q3, q4, q5⟩ := id hk
  refine k_an ?_
  refine k_of rfl rfl (Nat.le_of_ble_eq_true rfl) ?_
  refine r_al rfl rfl ?_
  refine r_al rfl rfl ?_
  obtain ⟨M1, k1, e1, hL⟩ := c_lookAt (S := S) (d := d + 1) hO hW
  have hk1 := hk.ev e1 (by omega) (by omega)
  refine r_cv1v rfl rfl w1 rfl (by decide) rfl (k1) ?_
  refine r_al rfl rfl ?_
  refine r_gf rfl hk1.1 rfl rfl ?_
  refine r_ic rfl ?_
  refine r_min rfl rfl ?_
  rw [show (12 : Int) = ((12 : Nat) : Int) from rfl, z_min (by omega) (by omega), show min N 12 = N by omega]
  refine r_is3 rfl rfl ?_
  refine r_ic rfl ?_
  refine r_is4 rfl rfl ?_
  refine r_of (c_mended_b hL hk1 hc hsa hfN hb ((e1.2 26 (by decide)).trans v26) (13 * (W * H)) 0 M1 _ (by omega) ⟨.rf, f32, (e1.2 32 (by decide)).trans v32, fun q hq => by omega⟩) (fun r M' hq => ?_)
  obtain ⟨a1, a2, a3, rw, a4, a5⟩ := hq
  obtain ⟨l1, l2, nb, l3, l4⟩ := hL
  exact ⟨a1, (e1.wk (fun k g => by omega)).tr (a2.wk (fun k g => by omega)), ⟨⟨_, _, (a2.2 25 (by decide)).trans l1⟩, ⟨rw, a4⟩, ⟨nb, (a2.2 27 (by decide)).trans l3⟩, ⟨f28, (a2.2 28 (by decide)).trans ((e1.2 28 (by decide)).trans v28)⟩, ⟨f29, (a2.2 29 (by decide)).trans ((e1.2 29 (by decide)).trans v29)⟩, ⟨f30, (a2.2 30 (by decide)).trans ((e1.2 30 (by decide)).trans v30)⟩, ⟨f31, (a2.2 31 (by decide)).trans ((e1.2 31 (by decide)).trans v31)⟩, a3⟩, rw, a4, a5⟩
end MD
end
