-- ===== PART A: goes FIRST, ahead of the names: the tables' words, and 'selects' of the private methods out of them =====
/-- a private method of a class that the tables say can be made, by its rows of tables_1 -/
def lw_okq (q : MethodName × Nat) : Prop := (q.1.cls ≠ "java/lang/invoke/MethodHandle" ∧ q.1.cls ≠ "java/lang/invoke/VarHandle") ∧ Cond.instantiable q.1.cls q.2 ∈ tables_1 ∧ Cond.privateMethod q.1 ∈ tables_1 ∧ Cond.instanceMethod q.1 ∈ tables_1
theorem lw_p0 : lw_okq (⟨"FoolTrade", "refuse", "(I)I"⟩, 20) := ⟨⟨by decide +kernel, by decide +kernel⟩, List.mem_of_getElem? (i := 21) (by decide +kernel), List.mem_of_getElem? (i := 447) (by decide +kernel), List.mem_of_getElem? (i := 448) (by decide +kernel)⟩
theorem lw_p1 : lw_okq (⟨"FoolTrade", "tapeNumber", "(I)V"⟩, 20) := ⟨⟨by decide +kernel, by decide +kernel⟩, List.mem_of_getElem? (i := 21) (by decide +kernel), List.mem_of_getElem? (i := 451) (by decide +kernel), List.mem_of_getElem? (i := 452) (by decide +kernel)⟩
theorem lw_p2 : lw_okq (⟨"FoolTrade$Tokens", "runEnd", "(IZII)I"⟩, 9) := ⟨⟨by decide +kernel, by decide +kernel⟩, List.mem_of_getElem? (i := 29) (by decide +kernel), List.mem_of_getElem? (i := 477) (by decide +kernel), List.mem_of_getElem? (i := 478) (by decide +kernel)⟩
theorem lw_p3 : lw_okq (⟨"FoolTrade$Tokens", "wordNumber", "()I"⟩, 9) := ⟨⟨by decide +kernel, by decide +kernel⟩, List.mem_of_getElem? (i := 29) (by decide +kernel), List.mem_of_getElem? (i := 481) (by decide +kernel), List.mem_of_getElem? (i := 482) (by decide +kernel)⟩
theorem lw_p4 : lw_okq (⟨"FoolTrade$Treaty", "clear", "()V"⟩, 15) := ⟨⟨by decide +kernel, by decide +kernel⟩, List.mem_of_getElem? (i := 100) (by decide +kernel), List.mem_of_getElem? (i := 538) (by decide +kernel), List.mem_of_getElem? (i := 539) (by decide +kernel)⟩
theorem lw_p5 : lw_okq (⟨"FoolTrade$Treaty", "addDefaults", "()V"⟩, 15) := ⟨⟨by decide +kernel, by decide +kernel⟩, List.mem_of_getElem? (i := 100) (by decide +kernel), List.mem_of_getElem? (i := 542) (by decide +kernel), List.mem_of_getElem? (i := 543) (by decide +kernel)⟩
theorem lw_p6 : lw_okq (⟨"FoolTrade$Treaty", "addDefault", "(IIII)V"⟩, 15) := ⟨⟨by decide +kernel, by decide +kernel⟩, List.mem_of_getElem? (i := 100) (by decide +kernel), List.mem_of_getElem? (i := 546) (by decide +kernel), List.mem_of_getElem? (i := 547) (by decide +kernel)⟩
theorem lw_p7 : lw_okq (⟨"FoolTrade$Treaty", "readStatement", "(LFoolTrade$Tokens;LFoolTrade$Grammar;)Z"⟩, 15) := ⟨⟨by decide +kernel, by decide +kernel⟩, List.mem_of_getElem? (i := 100) (by decide +kernel), List.mem_of_getElem? (i := 559) (by decide +kernel), List.mem_of_getElem? (i := 560) (by decide +kernel)⟩
theorem lw_p8 : lw_okq (⟨"FoolTrade$Treaty", "readVillage", "(LFoolTrade$Tokens;)Z"⟩, 15) := ⟨⟨by decide +kernel, by decide +kernel⟩, List.mem_of_getElem? (i := 100) (by decide +kernel), List.mem_of_getElem? (i := 563) (by decide +kernel), List.mem_of_getElem? (i := 564) (by decide +kernel)⟩
theorem lw_p9 : lw_okq (⟨"FoolTrade$Treaty", "takeNewName", "(LFoolTrade$Tokens;I)Z"⟩, 15) := ⟨⟨by decide +kernel, by decide +kernel⟩, List.mem_of_getElem? (i := 100) (by decide +kernel), List.mem_of_getElem? (i := 568) (by decide +kernel), List.mem_of_getElem? (i := 569) (by decide +kernel)⟩
theorem lw_p10 : lw_okq (⟨"FoolTrade$Treaty", "nameHere", "(LFoolTrade$Tokens;)I"⟩, 15) := ⟨⟨by decide +kernel, by decide +kernel⟩, List.mem_of_getElem? (i := 100) (by decide +kernel), List.mem_of_getElem? (i := 577) (by decide +kernel), List.mem_of_getElem? (i := 578) (by decide +kernel)⟩
theorem lw_p11 : lw_okq (⟨"FoolTrade$Treaty", "isHere", "(LFoolTrade$Tokens;I)Z"⟩, 15) := ⟨⟨by decide +kernel, by decide +kernel⟩, List.mem_of_getElem? (i := 100) (by decide +kernel), List.mem_of_getElem? (i := 581) (by decide +kernel), List.mem_of_getElem? (i := 582) (by decide +kernel)⟩
theorem lw_p12 : lw_okq (⟨"FoolTrade$Treaty", "readPerson", "(LFoolTrade$Tokens;)Z"⟩, 15) := ⟨⟨by decide +kernel, by decide +kernel⟩, List.mem_of_getElem? (i := 100) (by decide +kernel), List.mem_of_getElem? (i := 609) (by decide +kernel), List.mem_of_getElem? (i := 610) (by decide +kernel)⟩
theorem lw_p13 : lw_okq (⟨"FoolTrade$Treaty", "readTraits", "(LFoolTrade$Tokens;)Z"⟩, 15) := ⟨⟨by decide +kernel, by decide +kernel⟩, List.mem_of_getElem? (i := 100) (by decide +kernel), List.mem_of_getElem? (i := 614) (by decide +kernel), List.mem_of_getElem? (i := 615) (by decide +kernel)⟩
theorem lw_p14 : lw_okq (⟨"FoolTrade$Treaty", "readSnow", "(LFoolTrade$Tokens;)Z"⟩, 15) := ⟨⟨by decide +kernel, by decide +kernel⟩, List.mem_of_getElem? (i := 100) (by decide +kernel), List.mem_of_getElem? (i := 618) (by decide +kernel), List.mem_of_getElem? (i := 619) (by decide +kernel)⟩
theorem lw_p15 : lw_okq (⟨"FoolTrade$Treaty", "beginRule", "(LFoolTrade$Tokens;LFoolTrade$Grammar;I)Z"⟩, 15) := ⟨⟨by decide +kernel, by decide +kernel⟩, List.mem_of_getElem? (i := 100) (by decide +kernel), List.mem_of_getElem? (i := 622) (by decide +kernel), List.mem_of_getElem? (i := 623) (by decide +kernel)⟩
def lw_privs_1 : List (MethodName × Nat) := [(⟨"FoolTrade", "refuse", "(I)I"⟩, 20), (⟨"FoolTrade", "tapeNumber", "(I)V"⟩, 20), (⟨"FoolTrade$Tokens", "runEnd", "(IZII)I"⟩, 9), (⟨"FoolTrade$Tokens", "wordNumber", "()I"⟩, 9), (⟨"FoolTrade$Treaty", "clear", "()V"⟩, 15), (⟨"FoolTrade$Treaty", "addDefaults", "()V"⟩, 15), (⟨"FoolTrade$Treaty", "addDefault", "(IIII)V"⟩, 15), (⟨"FoolTrade$Treaty", "readStatement", "(LFoolTrade$Tokens;LFoolTrade$Grammar;)Z"⟩, 15), (⟨"FoolTrade$Treaty", "readVillage", "(LFoolTrade$Tokens;)Z"⟩, 15), (⟨"FoolTrade$Treaty", "takeNewName", "(LFoolTrade$Tokens;I)Z"⟩, 15), (⟨"FoolTrade$Treaty", "nameHere", "(LFoolTrade$Tokens;)I"⟩, 15), (⟨"FoolTrade$Treaty", "isHere", "(LFoolTrade$Tokens;I)Z"⟩, 15), (⟨"FoolTrade$Treaty", "readPerson", "(LFoolTrade$Tokens;)Z"⟩, 15), (⟨"FoolTrade$Treaty", "readTraits", "(LFoolTrade$Tokens;)Z"⟩, 15), (⟨"FoolTrade$Treaty", "readSnow", "(LFoolTrade$Tokens;)Z"⟩, 15), (⟨"FoolTrade$Treaty", "beginRule", "(LFoolTrade$Tokens;LFoolTrade$Grammar;I)Z"⟩, 15)]
theorem lw_r1 : ∀ q ∈ lw_privs_1, lw_okq q := List.forall_mem_cons.mpr ⟨lw_p0, List.forall_mem_cons.mpr ⟨lw_p1, List.forall_mem_cons.mpr ⟨lw_p2, List.forall_mem_cons.mpr ⟨lw_p3, List.forall_mem_cons.mpr ⟨lw_p4, List.forall_mem_cons.mpr ⟨lw_p5, List.forall_mem_cons.mpr ⟨lw_p6, List.forall_mem_cons.mpr ⟨lw_p7, List.forall_mem_cons.mpr ⟨lw_p8, List.forall_mem_cons.mpr ⟨lw_p9, List.forall_mem_cons.mpr ⟨lw_p10, List.forall_mem_cons.mpr ⟨lw_p11, List.forall_mem_cons.mpr ⟨lw_p12, List.forall_mem_cons.mpr ⟨lw_p13, List.forall_mem_cons.mpr ⟨lw_p14, List.forall_mem_cons.mpr ⟨lw_p15, fun _ h => absurd h List.not_mem_nil⟩⟩⟩⟩⟩⟩⟩⟩⟩⟩⟩⟩⟩⟩⟩⟩
theorem lw_p16 : lw_okq (⟨"FoolTrade$Grammar", "both", "(I)Z"⟩, 5) := ⟨⟨by decide +kernel, by decide +kernel⟩, List.mem_of_getElem? (i := 76) (by decide +kernel), List.mem_of_getElem? (i := 637) (by decide +kernel), List.mem_of_getElem? (i := 638) (by decide +kernel)⟩
theorem lw_p17 : lw_okq (⟨"FoolTrade$Grammar", "fact", "(I)Z"⟩, 5) := ⟨⟨by decide +kernel, by decide +kernel⟩, List.mem_of_getElem? (i := 76) (by decide +kernel), List.mem_of_getElem? (i := 641) (by decide +kernel), List.mem_of_getElem? (i := 642) (by decide +kernel)⟩
theorem lw_p18 : lw_okq (⟨"FoolTrade$Grammar", "opens", "(I)Z"⟩, 5) := ⟨⟨by decide +kernel, by decide +kernel⟩, List.mem_of_getElem? (i := 76) (by decide +kernel), List.mem_of_getElem? (i := 646) (by decide +kernel), List.mem_of_getElem? (i := 647) (by decide +kernel)⟩
theorem lw_p19 : lw_okq (⟨"FoolTrade$Grammar", "done", "(I)Z"⟩, 5) := ⟨⟨by decide +kernel, by decide +kernel⟩, List.mem_of_getElem? (i := 76) (by decide +kernel), List.mem_of_getElem? (i := 652) (by decide +kernel), List.mem_of_getElem? (i := 653) (by decide +kernel)⟩
theorem lw_p20 : lw_okq (⟨"FoolTrade$Grammar", "put", "(I)V"⟩, 5) := ⟨⟨by decide +kernel, by decide +kernel⟩, List.mem_of_getElem? (i := 76) (by decide +kernel), List.mem_of_getElem? (i := 656) (by decide +kernel), List.mem_of_getElem? (i := 657) (by decide +kernel)⟩
theorem lw_p21 : lw_okq (⟨"FoolTrade$Grammar", "product", "(I)Z"⟩, 5) := ⟨⟨by decide +kernel, by decide +kernel⟩, List.mem_of_getElem? (i := 76) (by decide +kernel), List.mem_of_getElem? (i := 674) (by decide +kernel), List.mem_of_getElem? (i := 675) (by decide +kernel)⟩
theorem lw_p22 : lw_okq (⟨"FoolTrade$Grammar", "part", "(I)Z"⟩, 5) := ⟨⟨by decide +kernel, by decide +kernel⟩, List.mem_of_getElem? (i := 76) (by decide +kernel), List.mem_of_getElem? (i := 678) (by decide +kernel), List.mem_of_getElem? (i := 679) (by decide +kernel)⟩
theorem lw_p23 : lw_okq (⟨"FoolTrade$Grammar", "ofTwo", "(I)Z"⟩, 5) := ⟨⟨by decide +kernel, by decide +kernel⟩, List.mem_of_getElem? (i := 76) (by decide +kernel), List.mem_of_getElem? (i := 683) (by decide +kernel), List.mem_of_getElem? (i := 684) (by decide +kernel)⟩
theorem lw_p24 : lw_okq (⟨"FoolTrade$Grammar", "slot", "()Z"⟩, 5) := ⟨⟨by decide +kernel, by decide +kernel⟩, List.mem_of_getElem? (i := 76) (by decide +kernel), List.mem_of_getElem? (i := 688) (by decide +kernel), List.mem_of_getElem? (i := 689) (by decide +kernel)⟩
theorem lw_p25 : lw_okq (⟨"FoolTrade$Grammar", "comparisonHere", "()I"⟩, 5) := ⟨⟨by decide +kernel, by decide +kernel⟩, List.mem_of_getElem? (i := 76) (by decide +kernel), List.mem_of_getElem? (i := 692) (by decide +kernel), List.mem_of_getElem? (i := 693) (by decide +kernel)⟩
theorem lw_p26 : lw_okq (⟨"FoolTrade$Treaty", "endRule", "(LFoolTrade$Grammar;I)Z"⟩, 15) := ⟨⟨by decide +kernel, by decide +kernel⟩, List.mem_of_getElem? (i := 100) (by decide +kernel), List.mem_of_getElem? (i := 697) (by decide +kernel), List.mem_of_getElem? (i := 698) (by decide +kernel)⟩
theorem lw_p27 : lw_okq (⟨"FoolTrade", "takeFault", "()V"⟩, 20) := ⟨⟨by decide +kernel, by decide +kernel⟩, List.mem_of_getElem? (i := 21) (by decide +kernel), List.mem_of_getElem? (i := 702) (by decide +kernel), List.mem_of_getElem? (i := 703) (by decide +kernel)⟩
theorem lw_p28 : lw_okq (⟨"FoolTrade$Sums", "slotValue", "(I)I"⟩, 2) := ⟨⟨by decide +kernel, by decide +kernel⟩, List.mem_of_getElem? (i := 194) (by decide +kernel), List.mem_of_getElem? (i := 760) (by decide +kernel), List.mem_of_getElem? (i := 761) (by decide +kernel)⟩
theorem lw_p29 : lw_okq (⟨"FoolTrade$Sums", "ofOne", "(II)I"⟩, 2) := ⟨⟨by decide +kernel, by decide +kernel⟩, List.mem_of_getElem? (i := 194) (by decide +kernel), List.mem_of_getElem? (i := 764) (by decide +kernel), List.mem_of_getElem? (i := 765) (by decide +kernel)⟩
theorem lw_p30 : lw_okq (⟨"FoolTrade", "noVillage", "(I)Z"⟩, 20) := ⟨⟨by decide +kernel, by decide +kernel⟩, List.mem_of_getElem? (i := 21) (by decide +kernel), List.mem_of_getElem? (i := 791) (by decide +kernel), List.mem_of_getElem? (i := 792) (by decide +kernel)⟩
theorem lw_p31 : lw_okq (⟨"FoolTrade", "noPerson", "(I)Z"⟩, 20) := ⟨⟨by decide +kernel, by decide +kernel⟩, List.mem_of_getElem? (i := 21) (by decide +kernel), List.mem_of_getElem? (i := 796) (by decide +kernel), List.mem_of_getElem? (i := 797) (by decide +kernel)⟩
def lw_privs_2 : List (MethodName × Nat) := [(⟨"FoolTrade$Grammar", "both", "(I)Z"⟩, 5), (⟨"FoolTrade$Grammar", "fact", "(I)Z"⟩, 5), (⟨"FoolTrade$Grammar", "opens", "(I)Z"⟩, 5), (⟨"FoolTrade$Grammar", "done", "(I)Z"⟩, 5), (⟨"FoolTrade$Grammar", "put", "(I)V"⟩, 5), (⟨"FoolTrade$Grammar", "product", "(I)Z"⟩, 5), (⟨"FoolTrade$Grammar", "part", "(I)Z"⟩, 5), (⟨"FoolTrade$Grammar", "ofTwo", "(I)Z"⟩, 5), (⟨"FoolTrade$Grammar", "slot", "()Z"⟩, 5), (⟨"FoolTrade$Grammar", "comparisonHere", "()I"⟩, 5), (⟨"FoolTrade$Treaty", "endRule", "(LFoolTrade$Grammar;I)Z"⟩, 15), (⟨"FoolTrade", "takeFault", "()V"⟩, 20), (⟨"FoolTrade$Sums", "slotValue", "(I)I"⟩, 2), (⟨"FoolTrade$Sums", "ofOne", "(II)I"⟩, 2), (⟨"FoolTrade", "noVillage", "(I)Z"⟩, 20), (⟨"FoolTrade", "noPerson", "(I)Z"⟩, 20)]
theorem lw_r2 : ∀ q ∈ lw_privs_2, lw_okq q := List.forall_mem_cons.mpr ⟨lw_p16, List.forall_mem_cons.mpr ⟨lw_p17, List.forall_mem_cons.mpr ⟨lw_p18, List.forall_mem_cons.mpr ⟨lw_p19, List.forall_mem_cons.mpr ⟨lw_p20, List.forall_mem_cons.mpr ⟨lw_p21, List.forall_mem_cons.mpr ⟨lw_p22, List.forall_mem_cons.mpr ⟨lw_p23, List.forall_mem_cons.mpr ⟨lw_p24, List.forall_mem_cons.mpr ⟨lw_p25, List.forall_mem_cons.mpr ⟨lw_p26, List.forall_mem_cons.mpr ⟨lw_p27, List.forall_mem_cons.mpr ⟨lw_p28, List.forall_mem_cons.mpr ⟨lw_p29, List.forall_mem_cons.mpr ⟨lw_p30, List.forall_mem_cons.mpr ⟨lw_p31, fun _ h => absurd h List.not_mem_nil⟩⟩⟩⟩⟩⟩⟩⟩⟩⟩⟩⟩⟩⟩⟩⟩
theorem lw_p32 : lw_okq (⟨"FoolTrade", "goAhead", "(I)Z"⟩, 20) := ⟨⟨by decide +kernel, by decide +kernel⟩, List.mem_of_getElem? (i := 21) (by decide +kernel), List.mem_of_getElem? (i := 845) (by decide +kernel), List.mem_of_getElem? (i := 846) (by decide +kernel)⟩
theorem lw_p33 : lw_okq (⟨"FoolTrade", "beyond", "(I)Z"⟩, 20) := ⟨⟨by decide +kernel, by decide +kernel⟩, List.mem_of_getElem? (i := 21) (by decide +kernel), List.mem_of_getElem? (i := 849) (by decide +kernel), List.mem_of_getElem? (i := 850) (by decide +kernel)⟩
theorem lw_p34 : lw_okq (⟨"FoolTrade$Course", "spring", "(LFoolTrade$World;)V"⟩, 3) := ⟨⟨by decide +kernel, by decide +kernel⟩, List.mem_of_getElem? (i := 192) (by decide +kernel), List.mem_of_getElem? (i := 861) (by decide +kernel), List.mem_of_getElem? (i := 862) (by decide +kernel)⟩
theorem lw_p35 : lw_okq (⟨"FoolTrade$Course", "sendNobody", "()V"⟩, 3) := ⟨⟨by decide +kernel, by decide +kernel⟩, List.mem_of_getElem? (i := 192) (by decide +kernel), List.mem_of_getElem? (i := 866) (by decide +kernel), List.mem_of_getElem? (i := 867) (by decide +kernel)⟩
theorem lw_p36 : lw_okq (⟨"FoolTrade$Course", "summer", "(LFoolTrade$World;)V"⟩, 3) := ⟨⟨by decide +kernel, by decide +kernel⟩, List.mem_of_getElem? (i := 192) (by decide +kernel), List.mem_of_getElem? (i := 874) (by decide +kernel), List.mem_of_getElem? (i := 875) (by decide +kernel)⟩
theorem lw_p37 : lw_okq (⟨"FoolTrade$Course", "nextQuarrel", "(LFoolTrade$World;I)I"⟩, 3) := ⟨⟨by decide +kernel, by decide +kernel⟩, List.mem_of_getElem? (i := 192) (by decide +kernel), List.mem_of_getElem? (i := 884) (by decide +kernel), List.mem_of_getElem? (i := 885) (by decide +kernel)⟩
theorem lw_p38 : lw_okq (⟨"FoolTrade$Course", "autumn", "(LFoolTrade$World;)V"⟩, 3) := ⟨⟨by decide +kernel, by decide +kernel⟩, List.mem_of_getElem? (i := 192) (by decide +kernel), List.mem_of_getElem? (i := 890) (by decide +kernel), List.mem_of_getElem? (i := 891) (by decide +kernel)⟩
theorem lw_p39 : lw_okq (⟨"FoolTrade$Pairs", "harvestBy", "(LFoolTrade$World;III)I"⟩, 6) := ⟨⟨by decide +kernel, by decide +kernel⟩, List.mem_of_getElem? (i := 297) (by decide +kernel), List.mem_of_getElem? (i := 914) (by decide +kernel), List.mem_of_getElem? (i := 915) (by decide +kernel)⟩
theorem lw_p40 : lw_okq (⟨"FoolTrade", "noTreaty", "()Z"⟩, 20) := ⟨⟨by decide +kernel, by decide +kernel⟩, List.mem_of_getElem? (i := 21) (by decide +kernel), List.mem_of_getElem? (i := 925) (by decide +kernel), List.mem_of_getElem? (i := 926) (by decide +kernel)⟩
theorem lw_p41 : lw_okq (⟨"FoolTrade$Pairs", "fillHarvests", "(LFoolTrade$World;)V"⟩, 6) := ⟨⟨by decide +kernel, by decide +kernel⟩, List.mem_of_getElem? (i := 297) (by decide +kernel), List.mem_of_getElem? (i := 933) (by decide +kernel), List.mem_of_getElem? (i := 934) (by decide +kernel)⟩
theorem lw_p42 : lw_okq (⟨"FoolTrade$Pairs", "isPair", "(LFoolTrade$World;II)Z"⟩, 6) := ⟨⟨by decide +kernel, by decide +kernel⟩, List.mem_of_getElem? (i := 297) (by decide +kernel), List.mem_of_getElem? (i := 937) (by decide +kernel), List.mem_of_getElem? (i := 938) (by decide +kernel)⟩
theorem lw_p43 : lw_okq (⟨"FoolTrade$Pairs", "choose", "(II)V"⟩, 6) := ⟨⟨by decide +kernel, by decide +kernel⟩, List.mem_of_getElem? (i := 297) (by decide +kernel), List.mem_of_getElem? (i := 946) (by decide +kernel), List.mem_of_getElem? (i := 947) (by decide +kernel)⟩
theorem lw_p44 : lw_okq (⟨"FoolTrade$Pairs", "rests", "(LFoolTrade$World;II)Z"⟩, 6) := ⟨⟨by decide +kernel, by decide +kernel⟩, List.mem_of_getElem? (i := 297) (by decide +kernel), List.mem_of_getElem? (i := 958) (by decide +kernel), List.mem_of_getElem? (i := 959) (by decide +kernel)⟩
theorem lw_p45 : lw_okq (⟨"FoolTrade$Exam", "fillParts", "(LFoolTrade$World;)V"⟩, 6) := ⟨⟨by decide +kernel, by decide +kernel⟩, List.mem_of_getElem? (i := 326) (by decide +kernel), List.mem_of_getElem? (i := 970) (by decide +kernel), List.mem_of_getElem? (i := 971) (by decide +kernel)⟩
theorem lw_p46 : lw_okq (⟨"FoolTrade$Exam", "addPair", "(LFoolTrade$World;II)V"⟩, 6) := ⟨⟨by decide +kernel, by decide +kernel⟩, List.mem_of_getElem? (i := 326) (by decide +kernel), List.mem_of_getElem? (i := 976) (by decide +kernel), List.mem_of_getElem? (i := 977) (by decide +kernel)⟩
theorem lw_p47 : lw_okq (⟨"FoolTrade$Exam", "answer", "(LFoolTrade$World;II)Z"⟩, 6) := ⟨⟨by decide +kernel, by decide +kernel⟩, List.mem_of_getElem? (i := 326) (by decide +kernel), List.mem_of_getElem? (i := 980) (by decide +kernel), List.mem_of_getElem? (i := 981) (by decide +kernel)⟩
def lw_privs_3 : List (MethodName × Nat) := [(⟨"FoolTrade", "goAhead", "(I)Z"⟩, 20), (⟨"FoolTrade", "beyond", "(I)Z"⟩, 20), (⟨"FoolTrade$Course", "spring", "(LFoolTrade$World;)V"⟩, 3), (⟨"FoolTrade$Course", "sendNobody", "()V"⟩, 3), (⟨"FoolTrade$Course", "summer", "(LFoolTrade$World;)V"⟩, 3), (⟨"FoolTrade$Course", "nextQuarrel", "(LFoolTrade$World;I)I"⟩, 3), (⟨"FoolTrade$Course", "autumn", "(LFoolTrade$World;)V"⟩, 3), (⟨"FoolTrade$Pairs", "harvestBy", "(LFoolTrade$World;III)I"⟩, 6), (⟨"FoolTrade", "noTreaty", "()Z"⟩, 20), (⟨"FoolTrade$Pairs", "fillHarvests", "(LFoolTrade$World;)V"⟩, 6), (⟨"FoolTrade$Pairs", "isPair", "(LFoolTrade$World;II)Z"⟩, 6), (⟨"FoolTrade$Pairs", "choose", "(II)V"⟩, 6), (⟨"FoolTrade$Pairs", "rests", "(LFoolTrade$World;II)Z"⟩, 6), (⟨"FoolTrade$Exam", "fillParts", "(LFoolTrade$World;)V"⟩, 6), (⟨"FoolTrade$Exam", "addPair", "(LFoolTrade$World;II)V"⟩, 6), (⟨"FoolTrade$Exam", "answer", "(LFoolTrade$World;II)Z"⟩, 6)]
theorem lw_r3 : ∀ q ∈ lw_privs_3, lw_okq q := List.forall_mem_cons.mpr ⟨lw_p32, List.forall_mem_cons.mpr ⟨lw_p33, List.forall_mem_cons.mpr ⟨lw_p34, List.forall_mem_cons.mpr ⟨lw_p35, List.forall_mem_cons.mpr ⟨lw_p36, List.forall_mem_cons.mpr ⟨lw_p37, List.forall_mem_cons.mpr ⟨lw_p38, List.forall_mem_cons.mpr ⟨lw_p39, List.forall_mem_cons.mpr ⟨lw_p40, List.forall_mem_cons.mpr ⟨lw_p41, List.forall_mem_cons.mpr ⟨lw_p42, List.forall_mem_cons.mpr ⟨lw_p43, List.forall_mem_cons.mpr ⟨lw_p44, List.forall_mem_cons.mpr ⟨lw_p45, List.forall_mem_cons.mpr ⟨lw_p46, List.forall_mem_cons.mpr ⟨lw_p47, fun _ h => absurd h List.not_mem_nil⟩⟩⟩⟩⟩⟩⟩⟩⟩⟩⟩⟩⟩⟩⟩⟩
theorem lw_p48 : lw_okq (⟨"FoolTrade$Exam", "search", "(IIJ)Z"⟩, 6) := ⟨⟨by decide +kernel, by decide +kernel⟩, List.mem_of_getElem? (i := 326) (by decide +kernel), List.mem_of_getElem? (i := 984) (by decide +kernel), List.mem_of_getElem? (i := 985) (by decide +kernel)⟩
theorem lw_p49 : lw_okq (⟨"FoolTrade", "feigned", "(II)Z"⟩, 20) := ⟨⟨by decide +kernel, by decide +kernel⟩, List.mem_of_getElem? (i := 21) (by decide +kernel), List.mem_of_getElem? (i := 996) (by decide +kernel), List.mem_of_getElem? (i := 997) (by decide +kernel)⟩
theorem lw_p50 : lw_okq (⟨"FoolTrade$Sight", "fits", "(I)Z"⟩, 6) := ⟨⟨by decide +kernel, by decide +kernel⟩, List.mem_of_getElem? (i := 353) (by decide +kernel), List.mem_of_getElem? (i := 1047) (by decide +kernel), List.mem_of_getElem? (i := 1048) (by decide +kernel)⟩
theorem lw_p51 : lw_okq (⟨"FoolTrade$Sight", "mostLeft", "(III)I"⟩, 6) := ⟨⟨by decide +kernel, by decide +kernel⟩, List.mem_of_getElem? (i := 353) (by decide +kernel), List.mem_of_getElem? (i := 1061) (by decide +kernel), List.mem_of_getElem? (i := 1062) (by decide +kernel)⟩
theorem lw_p52 : lw_okq (⟨"FoolTrade$Sight", "countAlike", "(IIII)I"⟩, 6) := ⟨⟨by decide +kernel, by decide +kernel⟩, List.mem_of_getElem? (i := 353) (by decide +kernel), List.mem_of_getElem? (i := 1065) (by decide +kernel), List.mem_of_getElem? (i := 1066) (by decide +kernel)⟩
theorem lw_p53 : lw_okq (⟨"FoolTrade", "cannotPass", "(I)Z"⟩, 20) := ⟨⟨by decide +kernel, by decide +kernel⟩, List.mem_of_getElem? (i := 21) (by decide +kernel), List.mem_of_getElem? (i := 1091) (by decide +kernel), List.mem_of_getElem? (i := 1092) (by decide +kernel)⟩
theorem lw_p54 : lw_okq (⟨"FoolTrade", "draw", "(I)I"⟩, 20) := ⟨⟨by decide +kernel, by decide +kernel⟩, List.mem_of_getElem? (i := 21) (by decide +kernel), List.mem_of_getElem? (i := 1103) (by decide +kernel), List.mem_of_getElem? (i := 1104) (by decide +kernel)⟩
theorem lw_p55 : lw_okq (⟨"FoolTrade$Question", "joined", "(JII)J"⟩, 3) := ⟨⟨by decide +kernel, by decide +kernel⟩, List.mem_of_getElem? (i := 176) (by decide +kernel), List.mem_of_getElem? (i := 1152) (by decide +kernel), List.mem_of_getElem? (i := 1153) (by decide +kernel)⟩
theorem lw_p56 : lw_okq (⟨"FoolTrade", "paintPair", "(I)V"⟩, 20) := ⟨⟨by decide +kernel, by decide +kernel⟩, List.mem_of_getElem? (i := 21) (by decide +kernel), List.mem_of_getElem? (i := 1162) (by decide +kernel), List.mem_of_getElem? (i := 1163) (by decide +kernel)⟩
theorem lw_p57 : lw_okq (⟨"FoolTrade", "paint", "(I)V"⟩, 20) := ⟨⟨by decide +kernel, by decide +kernel⟩, List.mem_of_getElem? (i := 21) (by decide +kernel), List.mem_of_getElem? (i := 1166) (by decide +kernel), List.mem_of_getElem? (i := 1167) (by decide +kernel)⟩
theorem lw_p58 : lw_okq (⟨"FoolTrade", "isImage", "(I)Z"⟩, 20) := ⟨⟨by decide +kernel, by decide +kernel⟩, List.mem_of_getElem? (i := 21) (by decide +kernel), List.mem_of_getElem? (i := 1181) (by decide +kernel), List.mem_of_getElem? (i := 1182) (by decide +kernel)⟩
theorem lw_p59 : lw_okq (⟨"FoolTradeModel", "villageTold", "()V"⟩, 112) := ⟨⟨by decide +kernel, by decide +kernel⟩, List.mem_of_getElem? (i := 1195) (by decide +kernel), List.mem_of_getElem? (i := 1552) (by decide +kernel), List.mem_of_getElem? (i := 1553) (by decide +kernel)⟩
theorem lw_p60 : lw_okq (⟨"FoolTradeModel", "asks", "([C)V"⟩, 112) := ⟨⟨by decide +kernel, by decide +kernel⟩, List.mem_of_getElem? (i := 1195) (by decide +kernel), List.mem_of_getElem? (i := 1556) (by decide +kernel), List.mem_of_getElem? (i := 1557) (by decide +kernel)⟩
theorem lw_p61 : lw_okq (⟨"FoolTradeModel", "takes", "([C)Z"⟩, 112) := ⟨⟨by decide +kernel, by decide +kernel⟩, List.mem_of_getElem? (i := 1195) (by decide +kernel), List.mem_of_getElem? (i := 1560) (by decide +kernel), List.mem_of_getElem? (i := 1561) (by decide +kernel)⟩
theorem lw_p62 : lw_okq (⟨"FoolTradeModel", "isHere", "([C)Z"⟩, 112) := ⟨⟨by decide +kernel, by decide +kernel⟩, List.mem_of_getElem? (i := 1195) (by decide +kernel), List.mem_of_getElem? (i := 1564) (by decide +kernel), List.mem_of_getElem? (i := 1565) (by decide +kernel)⟩
theorem lw_p63 : lw_okq (⟨"FoolTradeModel", "look", "()I"⟩, 112) := ⟨⟨by decide +kernel, by decide +kernel⟩, List.mem_of_getElem? (i := 1195) (by decide +kernel), List.mem_of_getElem? (i := 1568) (by decide +kernel), List.mem_of_getElem? (i := 1569) (by decide +kernel)⟩
def lw_privs_4 : List (MethodName × Nat) := [(⟨"FoolTrade$Exam", "search", "(IIJ)Z"⟩, 6), (⟨"FoolTrade", "feigned", "(II)Z"⟩, 20), (⟨"FoolTrade$Sight", "fits", "(I)Z"⟩, 6), (⟨"FoolTrade$Sight", "mostLeft", "(III)I"⟩, 6), (⟨"FoolTrade$Sight", "countAlike", "(IIII)I"⟩, 6), (⟨"FoolTrade", "cannotPass", "(I)Z"⟩, 20), (⟨"FoolTrade", "draw", "(I)I"⟩, 20), (⟨"FoolTrade$Question", "joined", "(JII)J"⟩, 3), (⟨"FoolTrade", "paintPair", "(I)V"⟩, 20), (⟨"FoolTrade", "paint", "(I)V"⟩, 20), (⟨"FoolTrade", "isImage", "(I)Z"⟩, 20), (⟨"FoolTradeModel", "villageTold", "()V"⟩, 112), (⟨"FoolTradeModel", "asks", "([C)V"⟩, 112), (⟨"FoolTradeModel", "takes", "([C)Z"⟩, 112), (⟨"FoolTradeModel", "isHere", "([C)Z"⟩, 112), (⟨"FoolTradeModel", "look", "()I"⟩, 112)]
theorem lw_r4 : ∀ q ∈ lw_privs_4, lw_okq q := List.forall_mem_cons.mpr ⟨lw_p48, List.forall_mem_cons.mpr ⟨lw_p49, List.forall_mem_cons.mpr ⟨lw_p50, List.forall_mem_cons.mpr ⟨lw_p51, List.forall_mem_cons.mpr ⟨lw_p52, List.forall_mem_cons.mpr ⟨lw_p53, List.forall_mem_cons.mpr ⟨lw_p54, List.forall_mem_cons.mpr ⟨lw_p55, List.forall_mem_cons.mpr ⟨lw_p56, List.forall_mem_cons.mpr ⟨lw_p57, List.forall_mem_cons.mpr ⟨lw_p58, List.forall_mem_cons.mpr ⟨lw_p59, List.forall_mem_cons.mpr ⟨lw_p60, List.forall_mem_cons.mpr ⟨lw_p61, List.forall_mem_cons.mpr ⟨lw_p62, List.forall_mem_cons.mpr ⟨lw_p63, fun _ h => absurd h List.not_mem_nil⟩⟩⟩⟩⟩⟩⟩⟩⟩⟩⟩⟩⟩⟩⟩⟩
theorem lw_p64 : lw_okq (⟨"FoolTradeModel", "fail", "(II)V"⟩, 112) := ⟨⟨by decide +kernel, by decide +kernel⟩, List.mem_of_getElem? (i := 1195) (by decide +kernel), List.mem_of_getElem? (i := 1575) (by decide +kernel), List.mem_of_getElem? (i := 1576) (by decide +kernel)⟩
theorem lw_p65 : lw_okq (⟨"FoolTradeModel", "newName", "()J"⟩, 112) := ⟨⟨by decide +kernel, by decide +kernel⟩, List.mem_of_getElem? (i := 1195) (by decide +kernel), List.mem_of_getElem? (i := 1579) (by decide +kernel), List.mem_of_getElem? (i := 1580) (by decide +kernel)⟩
theorem lw_p66 : lw_okq (⟨"FoolTradeModel", "name", "()J"⟩, 112) := ⟨⟨by decide +kernel, by decide +kernel⟩, List.mem_of_getElem? (i := 1195) (by decide +kernel), List.mem_of_getElem? (i := 1583) (by decide +kernel), List.mem_of_getElem? (i := 1584) (by decide +kernel)⟩
theorem lw_p67 : lw_okq (⟨"FoolTradeModel", "isOwnHere", "()Z"⟩, 112) := ⟨⟨by decide +kernel, by decide +kernel⟩, List.mem_of_getElem? (i := 1195) (by decide +kernel), List.mem_of_getElem? (i := 1587) (by decide +kernel), List.mem_of_getElem? (i := 1588) (by decide +kernel)⟩
theorem lw_p68 : lw_okq (⟨"FoolTradeModel", "number", "(II)I"⟩, 112) := ⟨⟨by decide +kernel, by decide +kernel⟩, List.mem_of_getElem? (i := 1195) (by decide +kernel), List.mem_of_getElem? (i := 1593) (by decide +kernel), List.mem_of_getElem? (i := 1594) (by decide +kernel)⟩
theorem lw_p69 : lw_okq (⟨"FoolTradeModel", "asksSign", "(I)V"⟩, 112) := ⟨⟨by decide +kernel, by decide +kernel⟩, List.mem_of_getElem? (i := 1195) (by decide +kernel), List.mem_of_getElem? (i := 1603) (by decide +kernel), List.mem_of_getElem? (i := 1604) (by decide +kernel)⟩
theorem lw_p70 : lw_okq (⟨"FoolTradeModel", "takesSign", "(I)Z"⟩, 112) := ⟨⟨by decide +kernel, by decide +kernel⟩, List.mem_of_getElem? (i := 1195) (by decide +kernel), List.mem_of_getElem? (i := 1607) (by decide +kernel), List.mem_of_getElem? (i := 1608) (by decide +kernel)⟩
theorem lw_p71 : lw_okq (⟨"FoolTradeModel", "statementTold", "()V"⟩, 112) := ⟨⟨by decide +kernel, by decide +kernel⟩, List.mem_of_getElem? (i := 1195) (by decide +kernel), List.mem_of_getElem? (i := 1611) (by decide +kernel), List.mem_of_getElem? (i := 1612) (by decide +kernel)⟩
theorem lw_p72 : lw_okq (⟨"FoolTradeModel", "personTold", "(I)V"⟩, 112) := ⟨⟨by decide +kernel, by decide +kernel⟩, List.mem_of_getElem? (i := 1195) (by decide +kernel), List.mem_of_getElem? (i := 1615) (by decide +kernel), List.mem_of_getElem? (i := 1616) (by decide +kernel)⟩
theorem lw_p73 : lw_okq (⟨"FoolTradeModel", "codesTold", "(II)V"⟩, 112) := ⟨⟨by decide +kernel, by decide +kernel⟩, List.mem_of_getElem? (i := 1195) (by decide +kernel), List.mem_of_getElem? (i := 1619) (by decide +kernel), List.mem_of_getElem? (i := 1620) (by decide +kernel)⟩
theorem lw_p74 : lw_okq (⟨"FoolTradeModel", "qTest", "()V"⟩, 112) := ⟨⟨by decide +kernel, by decide +kernel⟩, List.mem_of_getElem? (i := 1195) (by decide +kernel), List.mem_of_getElem? (i := 1626) (by decide +kernel), List.mem_of_getElem? (i := 1627) (by decide +kernel)⟩
theorem lw_p75 : lw_okq (⟨"FoolTradeModel", "qOpens", "(II)V"⟩, 112) := ⟨⟨by decide +kernel, by decide +kernel⟩, List.mem_of_getElem? (i := 1195) (by decide +kernel), List.mem_of_getElem? (i := 1630) (by decide +kernel), List.mem_of_getElem? (i := 1631) (by decide +kernel)⟩
theorem lw_p76 : lw_okq (⟨"FoolTradeModel", "qFact", "()V"⟩, 112) := ⟨⟨by decide +kernel, by decide +kernel⟩, List.mem_of_getElem? (i := 1195) (by decide +kernel), List.mem_of_getElem? (i := 1634) (by decide +kernel), List.mem_of_getElem? (i := 1635) (by decide +kernel)⟩
theorem lw_p77 : lw_okq (⟨"FoolTradeModel", "qCode", "(I)V"⟩, 112) := ⟨⟨by decide +kernel, by decide +kernel⟩, List.mem_of_getElem? (i := 1195) (by decide +kernel), List.mem_of_getElem? (i := 1638) (by decide +kernel), List.mem_of_getElem? (i := 1639) (by decide +kernel)⟩
theorem lw_p78 : lw_okq (⟨"FoolTradeModel", "qSums", "()V"⟩, 112) := ⟨⟨by decide +kernel, by decide +kernel⟩, List.mem_of_getElem? (i := 1195) (by decide +kernel), List.mem_of_getElem? (i := 1642) (by decide +kernel), List.mem_of_getElem? (i := 1643) (by decide +kernel)⟩
theorem lw_p79 : lw_okq (⟨"FoolTradeModel", "qPartTold", "()V"⟩, 112) := ⟨⟨by decide +kernel, by decide +kernel⟩, List.mem_of_getElem? (i := 1195) (by decide +kernel), List.mem_of_getElem? (i := 1646) (by decide +kernel), List.mem_of_getElem? (i := 1647) (by decide +kernel)⟩
def lw_privs_5 : List (MethodName × Nat) := [(⟨"FoolTradeModel", "fail", "(II)V"⟩, 112), (⟨"FoolTradeModel", "newName", "()J"⟩, 112), (⟨"FoolTradeModel", "name", "()J"⟩, 112), (⟨"FoolTradeModel", "isOwnHere", "()Z"⟩, 112), (⟨"FoolTradeModel", "number", "(II)I"⟩, 112), (⟨"FoolTradeModel", "asksSign", "(I)V"⟩, 112), (⟨"FoolTradeModel", "takesSign", "(I)Z"⟩, 112), (⟨"FoolTradeModel", "statementTold", "()V"⟩, 112), (⟨"FoolTradeModel", "personTold", "(I)V"⟩, 112), (⟨"FoolTradeModel", "codesTold", "(II)V"⟩, 112), (⟨"FoolTradeModel", "qTest", "()V"⟩, 112), (⟨"FoolTradeModel", "qOpens", "(II)V"⟩, 112), (⟨"FoolTradeModel", "qFact", "()V"⟩, 112), (⟨"FoolTradeModel", "qCode", "(I)V"⟩, 112), (⟨"FoolTradeModel", "qSums", "()V"⟩, 112), (⟨"FoolTradeModel", "qPartTold", "()V"⟩, 112)]
theorem lw_r5 : ∀ q ∈ lw_privs_5, lw_okq q := List.forall_mem_cons.mpr ⟨lw_p64, List.forall_mem_cons.mpr ⟨lw_p65, List.forall_mem_cons.mpr ⟨lw_p66, List.forall_mem_cons.mpr ⟨lw_p67, List.forall_mem_cons.mpr ⟨lw_p68, List.forall_mem_cons.mpr ⟨lw_p69, List.forall_mem_cons.mpr ⟨lw_p70, List.forall_mem_cons.mpr ⟨lw_p71, List.forall_mem_cons.mpr ⟨lw_p72, List.forall_mem_cons.mpr ⟨lw_p73, List.forall_mem_cons.mpr ⟨lw_p74, List.forall_mem_cons.mpr ⟨lw_p75, List.forall_mem_cons.mpr ⟨lw_p76, List.forall_mem_cons.mpr ⟨lw_p77, List.forall_mem_cons.mpr ⟨lw_p78, List.forall_mem_cons.mpr ⟨lw_p79, fun _ h => absurd h List.not_mem_nil⟩⟩⟩⟩⟩⟩⟩⟩⟩⟩⟩⟩⟩⟩⟩⟩
theorem lw_p80 : lw_okq (⟨"FoolTradeModel", "qWordOf", "(II)I"⟩, 112) := ⟨⟨by decide +kernel, by decide +kernel⟩, List.mem_of_getElem? (i := 1195) (by decide +kernel), List.mem_of_getElem? (i := 1650) (by decide +kernel), List.mem_of_getElem? (i := 1651) (by decide +kernel)⟩
theorem lw_p81 : lw_okq (⟨"FoolTradeModel", "qWordHere", "()I"⟩, 112) := ⟨⟨by decide +kernel, by decide +kernel⟩, List.mem_of_getElem? (i := 1195) (by decide +kernel), List.mem_of_getElem? (i := 1654) (by decide +kernel), List.mem_of_getElem? (i := 1655) (by decide +kernel)⟩
theorem lw_p82 : lw_okq (⟨"FoolTradeModel", "isAllowed", "(I)Z"⟩, 112) := ⟨⟨by decide +kernel, by decide +kernel⟩, List.mem_of_getElem? (i := 1195) (by decide +kernel), List.mem_of_getElem? (i := 1658) (by decide +kernel), List.mem_of_getElem? (i := 1659) (by decide +kernel)⟩
theorem lw_p83 : lw_okq (⟨"FoolTradeModel", "qAsksWord", "(I)V"⟩, 112) := ⟨⟨by decide +kernel, by decide +kernel⟩, List.mem_of_getElem? (i := 1195) (by decide +kernel), List.mem_of_getElem? (i := 1662) (by decide +kernel), List.mem_of_getElem? (i := 1663) (by decide +kernel)⟩
theorem lw_p84 : lw_okq (⟨"FoolTradeModel", "qEndsPart", "()V"⟩, 112) := ⟨⟨by decide +kernel, by decide +kernel⟩, List.mem_of_getElem? (i := 1195) (by decide +kernel), List.mem_of_getElem? (i := 1666) (by decide +kernel), List.mem_of_getElem? (i := 1667) (by decide +kernel)⟩
theorem lw_p85 : lw_okq (⟨"FoolTradeModel", "qDrops", "()V"⟩, 112) := ⟨⟨by decide +kernel, by decide +kernel⟩, List.mem_of_getElem? (i := 1195) (by decide +kernel), List.mem_of_getElem? (i := 1670) (by decide +kernel), List.mem_of_getElem? (i := 1671) (by decide +kernel)⟩
theorem lw_p86 : lw_okq (⟨"FoolTradeModel", "qGoesOn", "()Z"⟩, 112) := ⟨⟨by decide +kernel, by decide +kernel⟩, List.mem_of_getElem? (i := 1195) (by decide +kernel), List.mem_of_getElem? (i := 1674) (by decide +kernel), List.mem_of_getElem? (i := 1675) (by decide +kernel)⟩
theorem lw_p87 : lw_okq (⟨"FoolTradeModel", "qBracket", "()I"⟩, 112) := ⟨⟨by decide +kernel, by decide +kernel⟩, List.mem_of_getElem? (i := 1195) (by decide +kernel), List.mem_of_getElem? (i := 1678) (by decide +kernel), List.mem_of_getElem? (i := 1679) (by decide +kernel)⟩
theorem lw_p88 : lw_okq (⟨"FoolTradeModel", "qDropsToBracket", "()V"⟩, 112) := ⟨⟨by decide +kernel, by decide +kernel⟩, List.mem_of_getElem? (i := 1195) (by decide +kernel), List.mem_of_getElem? (i := 1685) (by decide +kernel), List.mem_of_getElem? (i := 1686) (by decide +kernel)⟩
theorem lw_p89 : lw_okq (⟨"FoolTradeModel", "qIsOn", "(I)Z"⟩, 112) := ⟨⟨by decide +kernel, by decide +kernel⟩, List.mem_of_getElem? (i := 1195) (by decide +kernel), List.mem_of_getElem? (i := 1689) (by decide +kernel), List.mem_of_getElem? (i := 1690) (by decide +kernel)⟩
theorem lw_p90 : lw_okq (⟨"FoolTradeModel", "qDropsNots", "()V"⟩, 112) := ⟨⟨by decide +kernel, by decide +kernel⟩, List.mem_of_getElem? (i := 1195) (by decide +kernel), List.mem_of_getElem? (i := 1693) (by decide +kernel), List.mem_of_getElem? (i := 1694) (by decide +kernel)⟩
theorem lw_p91 : lw_okq (⟨"FoolTradeModel", "qGoesOnTest", "()Z"⟩, 112) := ⟨⟨by decide +kernel, by decide +kernel⟩, List.mem_of_getElem? (i := 1195) (by decide +kernel), List.mem_of_getElem? (i := 1697) (by decide +kernel), List.mem_of_getElem? (i := 1698) (by decide +kernel)⟩
theorem lw_p92 : lw_okq (⟨"FoolTradeModel", "qHasSquare", "()Z"⟩, 112) := ⟨⟨by decide +kernel, by decide +kernel⟩, List.mem_of_getElem? (i := 1195) (by decide +kernel), List.mem_of_getElem? (i := 1701) (by decide +kernel), List.mem_of_getElem? (i := 1702) (by decide +kernel)⟩
theorem lw_p93 : lw_okq (⟨"FoolTradeModel", "stands", "()V"⟩, 112) := ⟨⟨by decide +kernel, by decide +kernel⟩, List.mem_of_getElem? (i := 1195) (by decide +kernel), List.mem_of_getElem? (i := 1705) (by decide +kernel), List.mem_of_getElem? (i := 1706) (by decide +kernel)⟩
theorem lw_p94 : lw_okq (⟨"FoolTradeModel", "personMany", "()I"⟩, 112) := ⟨⟨by decide +kernel, by decide +kernel⟩, List.mem_of_getElem? (i := 1195) (by decide +kernel), List.mem_of_getElem? (i := 1717) (by decide +kernel), List.mem_of_getElem? (i := 1718) (by decide +kernel)⟩
theorem lw_p95 : lw_okq (⟨"FoolTradeModel", "awayMany", "()I"⟩, 112) := ⟨⟨by decide +kernel, by decide +kernel⟩, List.mem_of_getElem? (i := 1195) (by decide +kernel), List.mem_of_getElem? (i := 1721) (by decide +kernel), List.mem_of_getElem? (i := 1722) (by decide +kernel)⟩
def lw_privs_6 : List (MethodName × Nat) := [(⟨"FoolTradeModel", "qWordOf", "(II)I"⟩, 112), (⟨"FoolTradeModel", "qWordHere", "()I"⟩, 112), (⟨"FoolTradeModel", "isAllowed", "(I)Z"⟩, 112), (⟨"FoolTradeModel", "qAsksWord", "(I)V"⟩, 112), (⟨"FoolTradeModel", "qEndsPart", "()V"⟩, 112), (⟨"FoolTradeModel", "qDrops", "()V"⟩, 112), (⟨"FoolTradeModel", "qGoesOn", "()Z"⟩, 112), (⟨"FoolTradeModel", "qBracket", "()I"⟩, 112), (⟨"FoolTradeModel", "qDropsToBracket", "()V"⟩, 112), (⟨"FoolTradeModel", "qIsOn", "(I)Z"⟩, 112), (⟨"FoolTradeModel", "qDropsNots", "()V"⟩, 112), (⟨"FoolTradeModel", "qGoesOnTest", "()Z"⟩, 112), (⟨"FoolTradeModel", "qHasSquare", "()Z"⟩, 112), (⟨"FoolTradeModel", "stands", "()V"⟩, 112), (⟨"FoolTradeModel", "personMany", "()I"⟩, 112), (⟨"FoolTradeModel", "awayMany", "()I"⟩, 112)]
theorem lw_r6 : ∀ q ∈ lw_privs_6, lw_okq q := List.forall_mem_cons.mpr ⟨lw_p80, List.forall_mem_cons.mpr ⟨lw_p81, List.forall_mem_cons.mpr ⟨lw_p82, List.forall_mem_cons.mpr ⟨lw_p83, List.forall_mem_cons.mpr ⟨lw_p84, List.forall_mem_cons.mpr ⟨lw_p85, List.forall_mem_cons.mpr ⟨lw_p86, List.forall_mem_cons.mpr ⟨lw_p87, List.forall_mem_cons.mpr ⟨lw_p88, List.forall_mem_cons.mpr ⟨lw_p89, List.forall_mem_cons.mpr ⟨lw_p90, List.forall_mem_cons.mpr ⟨lw_p91, List.forall_mem_cons.mpr ⟨lw_p92, List.forall_mem_cons.mpr ⟨lw_p93, List.forall_mem_cons.mpr ⟨lw_p94, List.forall_mem_cons.mpr ⟨lw_p95, fun _ h => absurd h List.not_mem_nil⟩⟩⟩⟩⟩⟩⟩⟩⟩⟩⟩⟩⟩⟩⟩⟩
theorem lw_p96 : lw_okq (⟨"FoolTradeModel", "isAway", "(I)Z"⟩, 112) := ⟨⟨by decide +kernel, by decide +kernel⟩, List.mem_of_getElem? (i := 1195) (by decide +kernel), List.mem_of_getElem? (i := 1725) (by decide +kernel), List.mem_of_getElem? (i := 1726) (by decide +kernel)⟩
theorem lw_p97 : lw_okq (⟨"FoolTradeModel", "passMany", "()I"⟩, 112) := ⟨⟨by decide +kernel, by decide +kernel⟩, List.mem_of_getElem? (i := 1195) (by decide +kernel), List.mem_of_getElem? (i := 1729) (by decide +kernel), List.mem_of_getElem? (i := 1730) (by decide +kernel)⟩
theorem lw_p98 : lw_okq (⟨"FoolTradeModel", "doesPass", "(I)Z"⟩, 112) := ⟨⟨by decide +kernel, by decide +kernel⟩, List.mem_of_getElem? (i := 1195) (by decide +kernel), List.mem_of_getElem? (i := 1733) (by decide +kernel), List.mem_of_getElem? (i := 1734) (by decide +kernel)⟩
theorem lw_p99 : lw_okq (⟨"FoolTradeModel", "isTold", "(I)Z"⟩, 112) := ⟨⟨by decide +kernel, by decide +kernel⟩, List.mem_of_getElem? (i := 1195) (by decide +kernel), List.mem_of_getElem? (i := 1737) (by decide +kernel), List.mem_of_getElem? (i := 1738) (by decide +kernel)⟩
theorem lw_p100 : lw_okq (⟨"FoolTradeModel", "livesIn", "(I)I"⟩, 112) := ⟨⟨by decide +kernel, by decide +kernel⟩, List.mem_of_getElem? (i := 1195) (by decide +kernel), List.mem_of_getElem? (i := 1741) (by decide +kernel), List.mem_of_getElem? (i := 1742) (by decide +kernel)⟩
theorem lw_p101 : lw_okq (⟨"FoolTradeModel", "homeOf", "(I)I"⟩, 112) := ⟨⟨by decide +kernel, by decide +kernel⟩, List.mem_of_getElem? (i := 1195) (by decide +kernel), List.mem_of_getElem? (i := 1745) (by decide +kernel), List.mem_of_getElem? (i := 1746) (by decide +kernel)⟩
theorem lw_p102 : lw_okq (⟨"FoolTradeModel", "codesTell", "(III)J"⟩, 112) := ⟨⟨by decide +kernel, by decide +kernel⟩, List.mem_of_getElem? (i := 1195) (by decide +kernel), List.mem_of_getElem? (i := 1749) (by decide +kernel), List.mem_of_getElem? (i := 1750) (by decide +kernel)⟩
theorem lw_p103 : lw_okq (⟨"FoolTradeModel", "qPuts", "(J)V"⟩, 112) := ⟨⟨by decide +kernel, by decide +kernel⟩, List.mem_of_getElem? (i := 1195) (by decide +kernel), List.mem_of_getElem? (i := 1753) (by decide +kernel), List.mem_of_getElem? (i := 1754) (by decide +kernel)⟩
theorem lw_p104 : lw_okq (⟨"FoolTradeModel", "qPartOf", "(II)J"⟩, 112) := ⟨⟨by decide +kernel, by decide +kernel⟩, List.mem_of_getElem? (i := 1195) (by decide +kernel), List.mem_of_getElem? (i := 1757) (by decide +kernel), List.mem_of_getElem? (i := 1758) (by decide +kernel)⟩
theorem lw_p105 : lw_okq (⟨"FoolTradeModel", "witsOf", "(I)I"⟩, 112) := ⟨⟨by decide +kernel, by decide +kernel⟩, List.mem_of_getElem? (i := 1195) (by decide +kernel), List.mem_of_getElem? (i := 1761) (by decide +kernel), List.mem_of_getElem? (i := 1762) (by decide +kernel)⟩
theorem lw_p106 : lw_okq (⟨"FoolTradeModel", "awayOf", "(I)I"⟩, 112) := ⟨⟨by decide +kernel, by decide +kernel⟩, List.mem_of_getElem? (i := 1195) (by decide +kernel), List.mem_of_getElem? (i := 1765) (by decide +kernel), List.mem_of_getElem? (i := 1766) (by decide +kernel)⟩
theorem lw_p107 : lw_okq (⟨"FoolTradeModel", "guestsOf", "(I)I"⟩, 112) := ⟨⟨by decide +kernel, by decide +kernel⟩, List.mem_of_getElem? (i := 1195) (by decide +kernel), List.mem_of_getElem? (i := 1769) (by decide +kernel), List.mem_of_getElem? (i := 1770) (by decide +kernel)⟩
theorem lw_p108 : lw_okq (⟨"FoolTradeModel", "qJoins", "(I)V"⟩, 112) := ⟨⟨by decide +kernel, by decide +kernel⟩, List.mem_of_getElem? (i := 1195) (by decide +kernel), List.mem_of_getElem? (i := 1773) (by decide +kernel), List.mem_of_getElem? (i := 1774) (by decide +kernel)⟩
theorem lw_p109 : lw_okq (⟨"FoolTradeModel", "isVillage", "(J)Z"⟩, 112) := ⟨⟨by decide +kernel, by decide +kernel⟩, List.mem_of_getElem? (i := 1195) (by decide +kernel), List.mem_of_getElem? (i := 1789) (by decide +kernel), List.mem_of_getElem? (i := 1790) (by decide +kernel)⟩
theorem lw_p110 : lw_okq (⟨"FoolTradeModel", "isPerson", "(I)Z"⟩, 112) := ⟨⟨by decide +kernel, by decide +kernel⟩, List.mem_of_getElem? (i := 1195) (by decide +kernel), List.mem_of_getElem? (i := 1793) (by decide +kernel), List.mem_of_getElem? (i := 1794) (by decide +kernel)⟩
theorem lw_p111 : lw_okq (⟨"FoolTradeModel", "sentOf", "(I)I"⟩, 112) := ⟨⟨by decide +kernel, by decide +kernel⟩, List.mem_of_getElem? (i := 1195) (by decide +kernel), List.mem_of_getElem? (i := 1802) (by decide +kernel), List.mem_of_getElem? (i := 1803) (by decide +kernel)⟩
def lw_privs_7 : List (MethodName × Nat) := [(⟨"FoolTradeModel", "isAway", "(I)Z"⟩, 112), (⟨"FoolTradeModel", "passMany", "()I"⟩, 112), (⟨"FoolTradeModel", "doesPass", "(I)Z"⟩, 112), (⟨"FoolTradeModel", "isTold", "(I)Z"⟩, 112), (⟨"FoolTradeModel", "livesIn", "(I)I"⟩, 112), (⟨"FoolTradeModel", "homeOf", "(I)I"⟩, 112), (⟨"FoolTradeModel", "codesTell", "(III)J"⟩, 112), (⟨"FoolTradeModel", "qPuts", "(J)V"⟩, 112), (⟨"FoolTradeModel", "qPartOf", "(II)J"⟩, 112), (⟨"FoolTradeModel", "witsOf", "(I)I"⟩, 112), (⟨"FoolTradeModel", "awayOf", "(I)I"⟩, 112), (⟨"FoolTradeModel", "guestsOf", "(I)I"⟩, 112), (⟨"FoolTradeModel", "qJoins", "(I)V"⟩, 112), (⟨"FoolTradeModel", "isVillage", "(J)Z"⟩, 112), (⟨"FoolTradeModel", "isPerson", "(I)Z"⟩, 112), (⟨"FoolTradeModel", "sentOf", "(I)I"⟩, 112)]
theorem lw_r7 : ∀ q ∈ lw_privs_7, lw_okq q := List.forall_mem_cons.mpr ⟨lw_p96, List.forall_mem_cons.mpr ⟨lw_p97, List.forall_mem_cons.mpr ⟨lw_p98, List.forall_mem_cons.mpr ⟨lw_p99, List.forall_mem_cons.mpr ⟨lw_p100, List.forall_mem_cons.mpr ⟨lw_p101, List.forall_mem_cons.mpr ⟨lw_p102, List.forall_mem_cons.mpr ⟨lw_p103, List.forall_mem_cons.mpr ⟨lw_p104, List.forall_mem_cons.mpr ⟨lw_p105, List.forall_mem_cons.mpr ⟨lw_p106, List.forall_mem_cons.mpr ⟨lw_p107, List.forall_mem_cons.mpr ⟨lw_p108, List.forall_mem_cons.mpr ⟨lw_p109, List.forall_mem_cons.mpr ⟨lw_p110, List.forall_mem_cons.mpr ⟨lw_p111, fun _ h => absurd h List.not_mem_nil⟩⟩⟩⟩⟩⟩⟩⟩⟩⟩⟩⟩⟩⟩⟩⟩
theorem lw_p112 : lw_okq (⟨"FoolTradeModel", "isOwnIn", "(II)Z"⟩, 112) := ⟨⟨by decide +kernel, by decide +kernel⟩, List.mem_of_getElem? (i := 1195) (by decide +kernel), List.mem_of_getElem? (i := 1806) (by decide +kernel), List.mem_of_getElem? (i := 1807) (by decide +kernel)⟩
theorem lw_p113 : lw_okq (⟨"FoolTradeModel", "sendsOf", "(I)J"⟩, 112) := ⟨⟨by decide +kernel, by decide +kernel⟩, List.mem_of_getElem? (i := 1195) (by decide +kernel), List.mem_of_getElem? (i := 1810) (by decide +kernel), List.mem_of_getElem? (i := 1811) (by decide +kernel)⟩
theorem lw_p114 : lw_okq (⟨"FoolTradeModel", "liversOf", "(I)I"⟩, 112) := ⟨⟨by decide +kernel, by decide +kernel⟩, List.mem_of_getElem? (i := 1195) (by decide +kernel), List.mem_of_getElem? (i := 1814) (by decide +kernel), List.mem_of_getElem? (i := 1815) (by decide +kernel)⟩
theorem lw_p115 : lw_okq (⟨"FoolTradeModel", "doesIn", "(II)J"⟩, 112) := ⟨⟨by decide +kernel, by decide +kernel⟩, List.mem_of_getElem? (i := 1195) (by decide +kernel), List.mem_of_getElem? (i := 1826) (by decide +kernel), List.mem_of_getElem? (i := 1827) (by decide +kernel)⟩
theorem lw_p116 : lw_okq (⟨"FoolTradeModel", "isAhead", "(III)Z"⟩, 112) := ⟨⟨by decide +kernel, by decide +kernel⟩, List.mem_of_getElem? (i := 1195) (by decide +kernel), List.mem_of_getElem? (i := 1840) (by decide +kernel), List.mem_of_getElem? (i := 1841) (by decide +kernel)⟩
theorem lw_p117 : lw_okq (⟨"FoolTradeModel", "putsAside", "()V"⟩, 112) := ⟨⟨by decide +kernel, by decide +kernel⟩, List.mem_of_getElem? (i := 1195) (by decide +kernel), List.mem_of_getElem? (i := 1844) (by decide +kernel), List.mem_of_getElem? (i := 1845) (by decide +kernel)⟩
theorem lw_p118 : lw_okq (⟨"FoolTradeModel", "yearsGo", "(I)V"⟩, 112) := ⟨⟨by decide +kernel, by decide +kernel⟩, List.mem_of_getElem? (i := 1195) (by decide +kernel), List.mem_of_getElem? (i := 1848) (by decide +kernel), List.mem_of_getElem? (i := 1849) (by decide +kernel)⟩
theorem lw_p119 : lw_okq (⟨"FoolTradeModel", "yearGoes", "()V"⟩, 112) := ⟨⟨by decide +kernel, by decide +kernel⟩, List.mem_of_getElem? (i := 1195) (by decide +kernel), List.mem_of_getElem? (i := 1852) (by decide +kernel), List.mem_of_getElem? (i := 1853) (by decide +kernel)⟩
theorem lw_p120 : lw_okq (⟨"FoolTradeModel", "yearWith", "(IIZ)V"⟩, 112) := ⟨⟨by decide +kernel, by decide +kernel⟩, List.mem_of_getElem? (i := 1195) (by decide +kernel), List.mem_of_getElem? (i := 1856) (by decide +kernel), List.mem_of_getElem? (i := 1857) (by decide +kernel)⟩
theorem lw_p121 : lw_okq (⟨"FoolTradeModel", "goesAway", "(I)V"⟩, 112) := ⟨⟨by decide +kernel, by decide +kernel⟩, List.mem_of_getElem? (i := 1195) (by decide +kernel), List.mem_of_getElem? (i := 1860) (by decide +kernel), List.mem_of_getElem? (i := 1861) (by decide +kernel)⟩
theorem lw_p122 : lw_okq (⟨"FoolTradeModel", "summer", "()V"⟩, 112) := ⟨⟨by decide +kernel, by decide +kernel⟩, List.mem_of_getElem? (i := 1195) (by decide +kernel), List.mem_of_getElem? (i := 1864) (by decide +kernel), List.mem_of_getElem? (i := 1865) (by decide +kernel)⟩
theorem lw_p123 : lw_okq (⟨"FoolTradeModel", "autumn", "()V"⟩, 112) := ⟨⟨by decide +kernel, by decide +kernel⟩, List.mem_of_getElem? (i := 1195) (by decide +kernel), List.mem_of_getElem? (i := 1871) (by decide +kernel), List.mem_of_getElem? (i := 1872) (by decide +kernel)⟩
theorem lw_p124 : lw_okq (⟨"FoolTradeModel", "doesStay", "(I)Z"⟩, 112) := ⟨⟨by decide +kernel, by decide +kernel⟩, List.mem_of_getElem? (i := 1195) (by decide +kernel), List.mem_of_getElem? (i := 1875) (by decide +kernel), List.mem_of_getElem? (i := 1876) (by decide +kernel)⟩
theorem lw_p125 : lw_okq (⟨"FoolTradeModel", "comesHome", "(I)V"⟩, 112) := ⟨⟨by decide +kernel, by decide +kernel⟩, List.mem_of_getElem? (i := 1195) (by decide +kernel), List.mem_of_getElem? (i := 1879) (by decide +kernel), List.mem_of_getElem? (i := 1880) (by decide +kernel)⟩
theorem lw_p126 : lw_okq (⟨"FoolTradeModel", "isKept", "(II)V"⟩, 112) := ⟨⟨by decide +kernel, by decide +kernel⟩, List.mem_of_getElem? (i := 1195) (by decide +kernel), List.mem_of_getElem? (i := 1883) (by decide +kernel), List.mem_of_getElem? (i := 1884) (by decide +kernel)⟩
theorem lw_p127 : lw_okq (⟨"FoolTradeModel", "takesBack", "()V"⟩, 112) := ⟨⟨by decide +kernel, by decide +kernel⟩, List.mem_of_getElem? (i := 1195) (by decide +kernel), List.mem_of_getElem? (i := 1887) (by decide +kernel), List.mem_of_getElem? (i := 1888) (by decide +kernel)⟩
def lw_privs_8 : List (MethodName × Nat) := [(⟨"FoolTradeModel", "isOwnIn", "(II)Z"⟩, 112), (⟨"FoolTradeModel", "sendsOf", "(I)J"⟩, 112), (⟨"FoolTradeModel", "liversOf", "(I)I"⟩, 112), (⟨"FoolTradeModel", "doesIn", "(II)J"⟩, 112), (⟨"FoolTradeModel", "isAhead", "(III)Z"⟩, 112), (⟨"FoolTradeModel", "putsAside", "()V"⟩, 112), (⟨"FoolTradeModel", "yearsGo", "(I)V"⟩, 112), (⟨"FoolTradeModel", "yearGoes", "()V"⟩, 112), (⟨"FoolTradeModel", "yearWith", "(IIZ)V"⟩, 112), (⟨"FoolTradeModel", "goesAway", "(I)V"⟩, 112), (⟨"FoolTradeModel", "summer", "()V"⟩, 112), (⟨"FoolTradeModel", "autumn", "()V"⟩, 112), (⟨"FoolTradeModel", "doesStay", "(I)Z"⟩, 112), (⟨"FoolTradeModel", "comesHome", "(I)V"⟩, 112), (⟨"FoolTradeModel", "isKept", "(II)V"⟩, 112), (⟨"FoolTradeModel", "takesBack", "()V"⟩, 112)]
theorem lw_r8 : ∀ q ∈ lw_privs_8, lw_okq q := List.forall_mem_cons.mpr ⟨lw_p112, List.forall_mem_cons.mpr ⟨lw_p113, List.forall_mem_cons.mpr ⟨lw_p114, List.forall_mem_cons.mpr ⟨lw_p115, List.forall_mem_cons.mpr ⟨lw_p116, List.forall_mem_cons.mpr ⟨lw_p117, List.forall_mem_cons.mpr ⟨lw_p118, List.forall_mem_cons.mpr ⟨lw_p119, List.forall_mem_cons.mpr ⟨lw_p120, List.forall_mem_cons.mpr ⟨lw_p121, List.forall_mem_cons.mpr ⟨lw_p122, List.forall_mem_cons.mpr ⟨lw_p123, List.forall_mem_cons.mpr ⟨lw_p124, List.forall_mem_cons.mpr ⟨lw_p125, List.forall_mem_cons.mpr ⟨lw_p126, List.forall_mem_cons.mpr ⟨lw_p127, fun _ h => absurd h List.not_mem_nil⟩⟩⟩⟩⟩⟩⟩⟩⟩⟩⟩⟩⟩⟩⟩⟩
theorem lw_p128 : lw_okq (⟨"FoolTradeModel", "triesAnew", "()V"⟩, 112) := ⟨⟨by decide +kernel, by decide +kernel⟩, List.mem_of_getElem? (i := 1195) (by decide +kernel), List.mem_of_getElem? (i := 1891) (by decide +kernel), List.mem_of_getElem? (i := 1892) (by decide +kernel)⟩
theorem lw_p129 : lw_okq (⟨"FoolTradeModel", "isShort", "(I)Z"⟩, 112) := ⟨⟨by decide +kernel, by decide +kernel⟩, List.mem_of_getElem? (i := 1195) (by decide +kernel), List.mem_of_getElem? (i := 1903) (by decide +kernel), List.mem_of_getElem? (i := 1904) (by decide +kernel)⟩
theorem lw_p130 : lw_okq (⟨"FoolTradeModel", "laysHarvests", "()V"⟩, 112) := ⟨⟨by decide +kernel, by decide +kernel⟩, List.mem_of_getElem? (i := 1195) (by decide +kernel), List.mem_of_getElem? (i := 1911) (by decide +kernel), List.mem_of_getElem? (i := 1912) (by decide +kernel)⟩
theorem lw_p131 : lw_okq (⟨"FoolTradeModel", "gainOf", "(III)I"⟩, 112) := ⟨⟨by decide +kernel, by decide +kernel⟩, List.mem_of_getElem? (i := 1195) (by decide +kernel), List.mem_of_getElem? (i := 1915) (by decide +kernel), List.mem_of_getElem? (i := 1916) (by decide +kernel)⟩
theorem lw_p132 : lw_okq (⟨"FoolTradeModel", "isRest", "(II)Z"⟩, 112) := ⟨⟨by decide +kernel, by decide +kernel⟩, List.mem_of_getElem? (i := 1195) (by decide +kernel), List.mem_of_getElem? (i := 1927) (by decide +kernel), List.mem_of_getElem? (i := 1928) (by decide +kernel)⟩
theorem lw_p133 : lw_okq (⟨"FoolTradeModel", "laysYes", "()V"⟩, 112) := ⟨⟨by decide +kernel, by decide +kernel⟩, List.mem_of_getElem? (i := 1195) (by decide +kernel), List.mem_of_getElem? (i := 1936) (by decide +kernel), List.mem_of_getElem? (i := 1937) (by decide +kernel)⟩
theorem lw_p134 : lw_okq (⟨"FoolTradeModel", "examMany", "()I"⟩, 112) := ⟨⟨by decide +kernel, by decide +kernel⟩, List.mem_of_getElem? (i := 1195) (by decide +kernel), List.mem_of_getElem? (i := 1940) (by decide +kernel), List.mem_of_getElem? (i := 1941) (by decide +kernel)⟩
theorem lw_p135 : lw_okq (⟨"FoolTradeModel", "doTell", "(III)Z"⟩, 112) := ⟨⟨by decide +kernel, by decide +kernel⟩, List.mem_of_getElem? (i := 1195) (by decide +kernel), List.mem_of_getElem? (i := 1944) (by decide +kernel), List.mem_of_getElem? (i := 1945) (by decide +kernel)⟩
theorem lw_p136 : lw_okq (⟨"FoolTradeModel", "isSentWith", "(II)Z"⟩, 112) := ⟨⟨by decide +kernel, by decide +kernel⟩, List.mem_of_getElem? (i := 1195) (by decide +kernel), List.mem_of_getElem? (i := 1952) (by decide +kernel), List.mem_of_getElem? (i := 1953) (by decide +kernel)⟩
theorem lw_p137 : lw_okq (⟨"FoolTradeModel", "twoAt", "(I)I"⟩, 112) := ⟨⟨by decide +kernel, by decide +kernel⟩, List.mem_of_getElem? (i := 1195) (by decide +kernel), List.mem_of_getElem? (i := 1964) (by decide +kernel), List.mem_of_getElem? (i := 1965) (by decide +kernel)⟩
theorem lw_p138 : lw_okq (⟨"FoolTradeModel", "refuses", "(I)I"⟩, 112) := ⟨⟨by decide +kernel, by decide +kernel⟩, List.mem_of_getElem? (i := 1195) (by decide +kernel), List.mem_of_getElem? (i := 1968) (by decide +kernel), List.mem_of_getElem? (i := 1969) (by decide +kernel)⟩
theorem lw_p139 : lw_okq (⟨"FoolTradeModel", "laysFits", "(I)V"⟩, 112) := ⟨⟨by decide +kernel, by decide +kernel⟩, List.mem_of_getElem? (i := 1195) (by decide +kernel), List.mem_of_getElem? (i := 1976) (by decide +kernel), List.mem_of_getElem? (i := 1977) (by decide +kernel)⟩
theorem lw_p140 : lw_okq (⟨"FoolTradeModel", "isAsSeen", "(I)Z"⟩, 112) := ⟨⟨by decide +kernel, by decide +kernel⟩, List.mem_of_getElem? (i := 1195) (by decide +kernel), List.mem_of_getElem? (i := 1980) (by decide +kernel), List.mem_of_getElem? (i := 1981) (by decide +kernel)⟩
theorem lw_p141 : lw_okq (⟨"FoolTradeModel", "mostAlike", "(I)I"⟩, 112) := ⟨⟨by decide +kernel, by decide +kernel⟩, List.mem_of_getElem? (i := 1195) (by decide +kernel), List.mem_of_getElem? (i := 1988) (by decide +kernel), List.mem_of_getElem? (i := 1989) (by decide +kernel)⟩
theorem lw_p142 : lw_okq (⟨"FoolTradeModel", "isRefused", "()Z"⟩, 112) := ⟨⟨by decide +kernel, by decide +kernel⟩, List.mem_of_getElem? (i := 1195) (by decide +kernel), List.mem_of_getElem? (i := 2001) (by decide +kernel), List.mem_of_getElem? (i := 2002) (by decide +kernel)⟩
theorem lw_p143 : lw_okq (⟨"FoolTradeModel", "keeps", "()V"⟩, 112) := ⟨⟨by decide +kernel, by decide +kernel⟩, List.mem_of_getElem? (i := 1195) (by decide +kernel), List.mem_of_getElem? (i := 2005) (by decide +kernel), List.mem_of_getElem? (i := 2006) (by decide +kernel)⟩
def lw_privs_9 : List (MethodName × Nat) := [(⟨"FoolTradeModel", "triesAnew", "()V"⟩, 112), (⟨"FoolTradeModel", "isShort", "(I)Z"⟩, 112), (⟨"FoolTradeModel", "laysHarvests", "()V"⟩, 112), (⟨"FoolTradeModel", "gainOf", "(III)I"⟩, 112), (⟨"FoolTradeModel", "isRest", "(II)Z"⟩, 112), (⟨"FoolTradeModel", "laysYes", "()V"⟩, 112), (⟨"FoolTradeModel", "examMany", "()I"⟩, 112), (⟨"FoolTradeModel", "doTell", "(III)Z"⟩, 112), (⟨"FoolTradeModel", "isSentWith", "(II)Z"⟩, 112), (⟨"FoolTradeModel", "twoAt", "(I)I"⟩, 112), (⟨"FoolTradeModel", "refuses", "(I)I"⟩, 112), (⟨"FoolTradeModel", "laysFits", "(I)V"⟩, 112), (⟨"FoolTradeModel", "isAsSeen", "(I)Z"⟩, 112), (⟨"FoolTradeModel", "mostAlike", "(I)I"⟩, 112), (⟨"FoolTradeModel", "isRefused", "()Z"⟩, 112), (⟨"FoolTradeModel", "keeps", "()V"⟩, 112)]
theorem lw_r9 : ∀ q ∈ lw_privs_9, lw_okq q := List.forall_mem_cons.mpr ⟨lw_p128, List.forall_mem_cons.mpr ⟨lw_p129, List.forall_mem_cons.mpr ⟨lw_p130, List.forall_mem_cons.mpr ⟨lw_p131, List.forall_mem_cons.mpr ⟨lw_p132, List.forall_mem_cons.mpr ⟨lw_p133, List.forall_mem_cons.mpr ⟨lw_p134, List.forall_mem_cons.mpr ⟨lw_p135, List.forall_mem_cons.mpr ⟨lw_p136, List.forall_mem_cons.mpr ⟨lw_p137, List.forall_mem_cons.mpr ⟨lw_p138, List.forall_mem_cons.mpr ⟨lw_p139, List.forall_mem_cons.mpr ⟨lw_p140, List.forall_mem_cons.mpr ⟨lw_p141, List.forall_mem_cons.mpr ⟨lw_p142, List.forall_mem_cons.mpr ⟨lw_p143, fun _ h => absurd h List.not_mem_nil⟩⟩⟩⟩⟩⟩⟩⟩⟩⟩⟩⟩⟩⟩⟩⟩
theorem lw_p144 : lw_okq (⟨"FoolTradeModel", "drawOf", "(I)I"⟩, 112) := ⟨⟨by decide +kernel, by decide +kernel⟩, List.mem_of_getElem? (i := 1195) (by decide +kernel), List.mem_of_getElem? (i := 2029) (by decide +kernel), List.mem_of_getElem? (i := 2030) (by decide +kernel)⟩
theorem lw_p145 : lw_okq (⟨"FoolTradeModel", "qKind", "()I"⟩, 112) := ⟨⟨by decide +kernel, by decide +kernel⟩, List.mem_of_getElem? (i := 1195) (by decide +kernel), List.mem_of_getElem? (i := 2041) (by decide +kernel), List.mem_of_getElem? (i := 2042) (by decide +kernel)⟩
theorem lw_p146 : lw_okq (⟨"FoolTradeModel", "qTold", "(I)J"⟩, 112) := ⟨⟨by decide +kernel, by decide +kernel⟩, List.mem_of_getElem? (i := 1195) (by decide +kernel), List.mem_of_getElem? (i := 2045) (by decide +kernel), List.mem_of_getElem? (i := 2046) (by decide +kernel)⟩
theorem lw_p147 : lw_okq (⟨"FoolTradeModel", "qOf", "(IJI)J"⟩, 112) := ⟨⟨by decide +kernel, by decide +kernel⟩, List.mem_of_getElem? (i := 1195) (by decide +kernel), List.mem_of_getElem? (i := 2049) (by decide +kernel), List.mem_of_getElem? (i := 2050) (by decide +kernel)⟩
theorem lw_p148 : lw_okq (⟨"FoolTradeModel", "qTakes", "(IJI)V"⟩, 112) := ⟨⟨by decide +kernel, by decide +kernel⟩, List.mem_of_getElem? (i := 1195) (by decide +kernel), List.mem_of_getElem? (i := 2053) (by decide +kernel), List.mem_of_getElem? (i := 2054) (by decide +kernel)⟩
theorem lw_p149 : lw_okq (⟨"FoolTradeModel", "writesTwo", "(I)V"⟩, 112) := ⟨⟨by decide +kernel, by decide +kernel⟩, List.mem_of_getElem? (i := 1195) (by decide +kernel), List.mem_of_getElem? (i := 2061) (by decide +kernel), List.mem_of_getElem? (i := 2062) (by decide +kernel)⟩
theorem lw_p150 : lw_okq (⟨"FoolTradeModel", "writes", "(I)V"⟩, 112) := ⟨⟨by decide +kernel, by decide +kernel⟩, List.mem_of_getElem? (i := 1195) (by decide +kernel), List.mem_of_getElem? (i := 2065) (by decide +kernel), List.mem_of_getElem? (i := 2066) (by decide +kernel)⟩
theorem lw_p151 : lw_okq (⟨"FoolTradeModel", "isImage", "(I)Z"⟩, 112) := ⟨⟨by decide +kernel, by decide +kernel⟩, List.mem_of_getElem? (i := 1195) (by decide +kernel), List.mem_of_getElem? (i := 2080) (by decide +kernel), List.mem_of_getElem? (i := 2081) (by decide +kernel)⟩
def lw_privs_10 : List (MethodName × Nat) := [(⟨"FoolTradeModel", "drawOf", "(I)I"⟩, 112), (⟨"FoolTradeModel", "qKind", "()I"⟩, 112), (⟨"FoolTradeModel", "qTold", "(I)J"⟩, 112), (⟨"FoolTradeModel", "qOf", "(IJI)J"⟩, 112), (⟨"FoolTradeModel", "qTakes", "(IJI)V"⟩, 112), (⟨"FoolTradeModel", "writesTwo", "(I)V"⟩, 112), (⟨"FoolTradeModel", "writes", "(I)V"⟩, 112), (⟨"FoolTradeModel", "isImage", "(I)Z"⟩, 112)]
theorem lw_r10 : ∀ q ∈ lw_privs_10, lw_okq q := List.forall_mem_cons.mpr ⟨lw_p144, List.forall_mem_cons.mpr ⟨lw_p145, List.forall_mem_cons.mpr ⟨lw_p146, List.forall_mem_cons.mpr ⟨lw_p147, List.forall_mem_cons.mpr ⟨lw_p148, List.forall_mem_cons.mpr ⟨lw_p149, List.forall_mem_cons.mpr ⟨lw_p150, List.forall_mem_cons.mpr ⟨lw_p151, fun _ h => absurd h List.not_mem_nil⟩⟩⟩⟩⟩⟩⟩⟩
def lw_privs : List (MethodName × Nat) := lw_privs_1 ++ (lw_privs_2 ++ (lw_privs_3 ++ (lw_privs_4 ++ (lw_privs_5 ++ (lw_privs_6 ++ (lw_privs_7 ++ (lw_privs_8 ++ (lw_privs_9 ++ (lw_privs_10)))))))))
def lw_tbl : List Cond := k2_sels lw_privs ++ tables_1
theorem lw_privs_ok : ∀ q ∈ lw_privs, lw_okq q := by
  show ∀ q ∈ lw_privs_1 ++ (lw_privs_2 ++ (lw_privs_3 ++ (lw_privs_4 ++ (lw_privs_5 ++ (lw_privs_6 ++ (lw_privs_7 ++ (lw_privs_8 ++ (lw_privs_9 ++ (lw_privs_10))))))))), lw_okq q
  exact List.forall_mem_append.mpr ⟨lw_r1, List.forall_mem_append.mpr ⟨lw_r2, List.forall_mem_append.mpr ⟨lw_r3, List.forall_mem_append.mpr ⟨lw_r4, List.forall_mem_append.mpr ⟨lw_r5, List.forall_mem_append.mpr ⟨lw_r6, List.forall_mem_append.mpr ⟨lw_r7, List.forall_mem_append.mpr ⟨lw_r8, List.forall_mem_append.mpr ⟨lw_r9, lw_r10⟩⟩⟩⟩⟩⟩⟩⟩⟩
-- ===== end of PART A; then your names; then what follows =====
def RX0 : String := "FoolTrade$Course"
def TX0 : u_T := fun k => match k with
  | 0 => ("FoolTrade$Course", "treaty", "LFoolTrade$Treaty;", true)
  | 1 => ("FoolTrade$Course", "sums", "LFoolTrade$Sums;", true)
  | _ => ("FoolTrade$Course", "sent", "[I", true)
def tyX0 : Nat → FieldType := fun k => match k with
  | 0 => .object "FoolTrade$Treaty"
  | 1 => .object "FoolTrade$Sums"
  | _ => .array .int
abbrev wsX00 : List Cond := u_ws RX0 TX0 3
theorem nmX0 : ∀ a, a < 3 → ∀ b, b < 3 → a ≠ b → (TX0 a).2.1 ≠ (TX0 b).2.1 := by decide +kernel
theorem tyX0_ok : ∀ k, k < 3 → parseFieldDescriptor (TX0 k).2.2.1 = some (tyX0 k) := by decide +kernel
abbrev cX0_init : ByteArray := prog_2_method_1_code
def yX0_init : MethodName := ⟨RX0, "<init>", "(LFoolTrade$Treaty;LFoolTrade$Sums;)V"⟩
abbrev cX0_ruled : ByteArray := prog_2_method_2_code
def yX0_ruled : MethodName := ⟨RX0, "ruled", "(LFoolTrade$World;III)I"⟩
abbrev cX0_questioned : ByteArray := prog_2_method_3_code
def yX0_questioned : MethodName := ⟨RX0, "questioned", "(LFoolTrade$World;[III)I"⟩
abbrev cX0_peopleCount : ByteArray := prog_2_method_4_code
def yX0_peopleCount : MethodName := ⟨RX0, "peopleCount", "()I"⟩
abbrev cX0_canSend : ByteArray := prog_2_method_5_code
def yX0_canSend : MethodName := ⟨RX0, "canSend", "(LFoolTrade$World;II)Z"⟩
abbrev cX0_toSend : ByteArray := prog_2_method_6_code
def yX0_toSend : MethodName := ⟨RX0, "toSend", "(LFoolTrade$World;I)I"⟩
abbrev cX0_wouldPass : ByteArray := prog_2_method_7_code
def yX0_wouldPass : MethodName := ⟨RX0, "wouldPass", "(LFoolTrade$World;I)Z"⟩
abbrev cX0_countAway : ByteArray := prog_2_method_8_code
def yX0_countAway : MethodName := ⟨RX0, "countAway", "(LFoolTrade$World;)I"⟩
abbrev cX0_countPassed : ByteArray := prog_2_method_9_code
def yX0_countPassed : MethodName := ⟨RX0, "countPassed", "(LFoolTrade$World;)I"⟩
abbrev cX0_countLiving : ByteArray := prog_2_method_10_code
def yX0_countLiving : MethodName := ⟨RX0, "countLiving", "(LFoolTrade$World;I)I"⟩
abbrev cX0_countOwn : ByteArray := prog_2_method_11_code
def yX0_countOwn : MethodName := ⟨RX0, "countOwn", "(LFoolTrade$World;I)I"⟩
abbrev cX0_ordinaryYear : ByteArray := prog_2_method_12_code
def yX0_ordinaryYear : MethodName := ⟨RX0, "ordinaryYear", "(LFoolTrade$World;)V"⟩
abbrev cX0_quietYear : ByteArray := prog_2_method_13_code
def yX0_quietYear : MethodName := ⟨RX0, "quietYear", "(LFoolTrade$World;)V"⟩
abbrev cX0_snowyYear : ByteArray := prog_2_method_14_code
def yX0_snowyYear : MethodName := ⟨RX0, "snowyYear", "(LFoolTrade$World;)V"⟩
abbrev cX0_sendNobody : ByteArray := prog_2_method_15_code
def yX0_sendNobody : MethodName := ⟨RX0, "sendNobody", "()V"⟩
abbrev cX0_spring : ByteArray := prog_2_method_16_code
def yX0_spring : MethodName := ⟨RX0, "spring", "(LFoolTrade$World;)V"⟩
abbrev cX0_summer : ByteArray := prog_2_method_17_code
def yX0_summer : MethodName := ⟨RX0, "summer", "(LFoolTrade$World;)V"⟩
abbrev cX0_nextHarvest : ByteArray := prog_2_method_18_code
def yX0_nextHarvest : MethodName := ⟨RX0, "nextHarvest", "(LFoolTrade$World;I)I"⟩
abbrev cX0_nextQuarrel : ByteArray := prog_2_method_19_code
def yX0_nextQuarrel : MethodName := ⟨RX0, "nextQuarrel", "(LFoolTrade$World;I)I"⟩
abbrev cX0_autumn : ByteArray := prog_2_method_20_code
def yX0_autumn : MethodName := ⟨RX0, "autumn", "(LFoolTrade$World;)V"⟩
abbrev cX0_turn : ByteArray := prog_2_method_21_code
def yX0_turn : MethodName := ⟨RX0, "turn", "(LFoolTrade$World;)V"⟩
def RX1 : String := "FoolTrade$Exam"
def TX1 : u_T := fun k => match k with
  | 0 => ("FoolTrade$Exam", "treaty", "LFoolTrade$Treaty;", true)
  | 1 => ("FoolTrade$Exam", "course", "LFoolTrade$Course;", true)
  | 2 => ("FoolTrade$Exam", "parts", "[J", true)
  | 3 => ("FoolTrade$Exam", "chosen", "[I", true)
  | 4 => ("FoolTrade$Exam", "due", "J", false)
  | _ => ("FoolTrade$Exam", "count", "I", false)
def tyX1 : Nat → FieldType := fun k => match k with
  | 0 => .object "FoolTrade$Treaty"
  | 1 => .object "FoolTrade$Course"
  | 2 => .array .long
  | 3 => .array .int
  | 4 => .long
  | _ => .int
abbrev wsX10 : List Cond := u_ws RX1 TX1 6
theorem nmX1 : ∀ a, a < 6 → ∀ b, b < 6 → a ≠ b → (TX1 a).2.1 ≠ (TX1 b).2.1 := by decide +kernel
theorem tyX1_ok : ∀ k, k < 6 → parseFieldDescriptor (TX1 k).2.2.1 = some (tyX1 k) := by decide +kernel
abbrev cX1_init : ByteArray := prog_3_method_1_code
def yX1_init : MethodName := ⟨RX1, "<init>", "(LFoolTrade$Treaty;LFoolTrade$Course;)V"⟩
abbrev cX1_told : ByteArray := prog_3_method_2_code
def yX1_told : MethodName := ⟨RX1, "told", "(I)I"⟩
abbrev cX1_find : ByteArray := prog_3_method_3_code
def yX1_find : MethodName := ⟨RX1, "find", "(LFoolTrade$World;)Z"⟩
abbrev cX1_fillParts : ByteArray := prog_3_method_4_code
def yX1_fillParts : MethodName := ⟨RX1, "fillParts", "(LFoolTrade$World;)V"⟩
abbrev cX1_addPair : ByteArray := prog_3_method_5_code
def yX1_addPair : MethodName := ⟨RX1, "addPair", "(LFoolTrade$World;II)V"⟩
abbrev cX1_answer : ByteArray := prog_3_method_6_code
def yX1_answer : MethodName := ⟨RX1, "answer", "(LFoolTrade$World;II)Z"⟩
abbrev cX1_search : ByteArray := prog_3_method_7_code
def yX1_search : MethodName := ⟨RX1, "search", "(IIJ)Z"⟩
def RX2 : String := "FoolTrade$Grammar"
def TX2 : u_T := fun k => match k with
  | 0 => ("FoolTrade$Grammar", "tokens", "LFoolTrade$Tokens;", true)
  | 1 => ("FoolTrade$Grammar", "code", "[I", false)
  | 2 => ("FoolTrade$Grammar", "scope", "I", false)
  | 3 => ("FoolTrade$Grammar", "asking", "Z", false)
  | _ => ("FoolTrade$Grammar", "size", "I", false)
def tyX2 : Nat → FieldType := fun k => match k with
  | 0 => .object "FoolTrade$Tokens"
  | 1 => .array .int
  | 2 => .int
  | 3 => .boolean
  | _ => .int
abbrev wsX20 : List Cond := u_ws RX2 TX2 5
theorem nmX2 : ∀ a, a < 5 → ∀ b, b < 5 → a ≠ b → (TX2 a).2.1 ≠ (TX2 b).2.1 := by decide +kernel
theorem tyX2_ok : ∀ k, k < 5 → parseFieldDescriptor (TX2 k).2.2.1 = some (tyX2 k) := by decide +kernel
abbrev cX2_init : ByteArray := prog_4_method_1_code
def yX2_init : MethodName := ⟨RX2, "<init>", "(LFoolTrade$Tokens;)V"⟩
abbrev cX2_begin : ByteArray := prog_4_method_2_code
def yX2_begin : MethodName := ⟨RX2, "begin", "([IIIZ)V"⟩
abbrev cX2_put : ByteArray := prog_4_method_3_code
def yX2_put : MethodName := ⟨RX2, "put", "(I)V"⟩
abbrev cX2_done : ByteArray := prog_4_method_4_code
def yX2_done : MethodName := ⟨RX2, "done", "(I)Z"⟩
abbrev cX2_readTest : ByteArray := prog_4_method_5_code
def yX2_readTest : MethodName := ⟨RX2, "readTest", "(I)Z"⟩
abbrev cX2_both : ByteArray := prog_4_method_6_code
def yX2_both : MethodName := ⟨RX2, "both", "(I)Z"⟩
abbrev cX2_fact : ByteArray := prog_4_method_7_code
def yX2_fact : MethodName := ⟨RX2, "fact", "(I)Z"⟩
abbrev cX2_comparisonHere : ByteArray := prog_4_method_8_code
def yX2_comparisonHere : MethodName := ⟨RX2, "comparisonHere", "()I"⟩
abbrev cX2_opens : ByteArray := prog_4_method_9_code
def yX2_opens : MethodName := ⟨RX2, "opens", "(I)Z"⟩
abbrev cX2_readSum : ByteArray := prog_4_method_10_code
def yX2_readSum : MethodName := ⟨RX2, "readSum", "(I)Z"⟩
abbrev cX2_product : ByteArray := prog_4_method_11_code
def yX2_product : MethodName := ⟨RX2, "product", "(I)Z"⟩
abbrev cX2_part : ByteArray := prog_4_method_12_code
def yX2_part : MethodName := ⟨RX2, "part", "(I)Z"⟩
abbrev cX2_ofTwo : ByteArray := prog_4_method_13_code
def yX2_ofTwo : MethodName := ⟨RX2, "ofTwo", "(I)Z"⟩
abbrev cX2_slot : ByteArray := prog_4_method_14_code
def yX2_slot : MethodName := ⟨RX2, "slot", "()Z"⟩
def RX3 : String := "FoolTrade$Pairs"
def TX3 : u_T := fun k => match k with
  | 0 => ("FoolTrade$Pairs", "treaty", "LFoolTrade$Treaty;", true)
  | 1 => ("FoolTrade$Pairs", "course", "LFoolTrade$Course;", true)
  | 2 => ("FoolTrade$Pairs", "scratch", "LFoolTrade$World;", true)
  | 3 => ("FoolTrade$Pairs", "harvests", "[I", true)
  | 4 => ("FoolTrade$Pairs", "found", "[I", true)
  | _ => ("FoolTrade$Pairs", "less", "I", false)
def tyX3 : Nat → FieldType := fun k => match k with
  | 0 => .object "FoolTrade$Treaty"
  | 1 => .object "FoolTrade$Course"
  | 2 => .object "FoolTrade$World"
  | 3 => .array .int
  | 4 => .array .int
  | _ => .int
abbrev wsX30 : List Cond := u_ws RX3 TX3 6
theorem nmX3 : ∀ a, a < 6 → ∀ b, b < 6 → a ≠ b → (TX3 a).2.1 ≠ (TX3 b).2.1 := by decide +kernel
theorem tyX3_ok : ∀ k, k < 6 → parseFieldDescriptor (TX3 k).2.2.1 = some (tyX3 k) := by decide +kernel
abbrev cX3_init : ByteArray := prog_5_method_1_code
def yX3_init : MethodName := ⟨RX3, "<init>", "(LFoolTrade$Treaty;LFoolTrade$Course;)V"⟩
abbrev cX3_isPair : ByteArray := prog_5_method_2_code
def yX3_isPair : MethodName := ⟨RX3, "isPair", "(LFoolTrade$World;II)Z"⟩
abbrev cX3_harvestBy : ByteArray := prog_5_method_3_code
def yX3_harvestBy : MethodName := ⟨RX3, "harvestBy", "(LFoolTrade$World;III)I"⟩
abbrev cX3_gainOf : ByteArray := prog_5_method_4_code
def yX3_gainOf : MethodName := ⟨RX3, "gainOf", "(LFoolTrade$World;III)I"⟩
abbrev cX3_cell : ByteArray := prog_5_method_5_code
def yX3_cell : MethodName := ⟨RX3, "cell", "(III)I"⟩
abbrev cX3_fillHarvests : ByteArray := prog_5_method_6_code
def yX3_fillHarvests : MethodName := ⟨RX3, "fillHarvests", "(LFoolTrade$World;)V"⟩
abbrev cX3_findBargain : ByteArray := prog_5_method_7_code
def yX3_findBargain : MethodName := ⟨RX3, "findBargain", "(LFoolTrade$World;)Z"⟩
abbrev cX3_choose : ByteArray := prog_5_method_8_code
def yX3_choose : MethodName := ⟨RX3, "choose", "(II)V"⟩
abbrev cX3_findRest : ByteArray := prog_5_method_9_code
def yX3_findRest : MethodName := ⟨RX3, "findRest", "(LFoolTrade$World;)Z"⟩
abbrev cX3_rests : ByteArray := prog_5_method_10_code
def yX3_rests : MethodName := ⟨RX3, "rests", "(LFoolTrade$World;II)Z"⟩
def RX4 : String := "FoolTrade$Past"
def TX4 : u_T := fun k => match k with
  | 0 => ("FoolTrade$Past", "worlds", "[LFoolTrade$World;", true)
  | 1 => ("FoolTrade$Past", "keptYear", "[I", true)
  | 2 => ("FoolTrade$Past", "keptOne", "[I", true)
  | 3 => ("FoolTrade$Past", "keptOther", "[I", true)
  | 4 => ("FoolTrade$Past", "oldest", "I", false)
  | _ => ("FoolTrade$Past", "acts", "I", false)
def tyX4 : Nat → FieldType := fun k => match k with
  | 0 => .array (.object "FoolTrade$World")
  | 1 => .array .int
  | 2 => .array .int
  | 3 => .array .int
  | 4 => .int
  | _ => .int
abbrev wsX40 : List Cond := u_ws RX4 TX4 6
theorem nmX4 : ∀ a, a < 6 → ∀ b, b < 6 → a ≠ b → (TX4 a).2.1 ≠ (TX4 b).2.1 := by decide +kernel
theorem tyX4_ok : ∀ k, k < 6 → parseFieldDescriptor (TX4 k).2.2.1 = some (tyX4 k) := by decide +kernel
abbrev cX4_init : ByteArray := prog_6_method_1_code
def yX4_init : MethodName := ⟨RX4, "<init>", "()V"⟩
abbrev cX4_forget : ByteArray := prog_6_method_2_code
def yX4_forget : MethodName := ⟨RX4, "forget", "()V"⟩
abbrev cX4_remember : ByteArray := prog_6_method_3_code
def yX4_remember : MethodName := ⟨RX4, "remember", "(LFoolTrade$World;)V"⟩
abbrev cX4_recall : ByteArray := prog_6_method_4_code
def yX4_recall : MethodName := ⟨RX4, "recall", "(LFoolTrade$World;)Z"⟩
abbrev cX4_keep : ByteArray := prog_6_method_5_code
def yX4_keep : MethodName := ⟨RX4, "keep", "(LFoolTrade$World;I[I)V"⟩
abbrev cX4_toldCount : ByteArray := prog_6_method_6_code
def yX4_toldCount : MethodName := ⟨RX4, "toldCount", "(LFoolTrade$World;)I"⟩
abbrev cX4_toldOf : ByteArray := prog_6_method_7_code
def yX4_toldOf : MethodName := ⟨RX4, "toldOf", "(LFoolTrade$World;II)I"⟩
def RX5 : String := "FoolTrade$Question"
def TX5 : u_T := fun k => match k with
  | 0 => ("FoolTrade$Question", "code", "[I", true)
  | 1 => ("FoolTrade$Question", "size", "I", false)
  | _ => ("FoolTrade$Question", "verb", "I", false)
def tyX5 : Nat → FieldType := fun k => match k with
  | 0 => .array .int
  | 1 => .int
  | _ => .int
abbrev wsX50 : List Cond := u_ws RX5 TX5 3
theorem nmX5 : ∀ a, a < 3 → ∀ b, b < 3 → a ≠ b → (TX5 a).2.1 ≠ (TX5 b).2.1 := by decide +kernel
theorem tyX5_ok : ∀ k, k < 3 → parseFieldDescriptor (TX5 k).2.2.1 = some (tyX5 k) := by decide +kernel
abbrev cX5_init : ByteArray := prog_7_method_1_code
def yX5_init : MethodName := ⟨RX5, "<init>", "()V"⟩
abbrev cX5_read : ByteArray := prog_7_method_2_code
def yX5_read : MethodName := ⟨RX5, "read", "(LFoolTrade$Tokens;LFoolTrade$Grammar;)Z"⟩
abbrev cX5_answer : ByteArray := prog_7_method_3_code
def yX5_answer : MethodName := ⟨RX5, "answer", "(LFoolTrade$Course;LFoolTrade$World;)J"⟩
abbrev cX5_joined : ByteArray := prog_7_method_4_code
def yX5_joined : MethodName := ⟨RX5, "joined", "(JII)J"⟩
def RX6 : String := "FoolTrade$Sight"
def TX6 : u_T := fun k => match k with
  | 0 => ("FoolTrade$Sight", "course", "LFoolTrade$Course;", true)
  | 1 => ("FoolTrade$Sight", "scratch", "LFoolTrade$World;", true)
  | 2 => ("FoolTrade$Sight", "seen", "[I", true)
  | 3 => ("FoolTrade$Sight", "harvests", "[I", true)
  | 4 => ("FoolTrade$Sight", "telling", "[I", true)
  | _ => ("FoolTrade$Sight", "rows", "I", false)
def tyX6 : Nat → FieldType := fun k => match k with
  | 0 => .object "FoolTrade$Course"
  | 1 => .object "FoolTrade$World"
  | 2 => .array .int
  | 3 => .array .int
  | 4 => .array .int
  | _ => .int
abbrev wsX60 : List Cond := u_ws RX6 TX6 6
theorem nmX6 : ∀ a, a < 6 → ∀ b, b < 6 → a ≠ b → (TX6 a).2.1 ≠ (TX6 b).2.1 := by decide +kernel
theorem tyX6_ok : ∀ k, k < 6 → parseFieldDescriptor (TX6 k).2.2.1 = some (tyX6 k) := by decide +kernel
abbrev cX6_init : ByteArray := prog_8_method_1_code
def yX6_init : MethodName := ⟨RX6, "<init>", "(LFoolTrade$Course;)V"⟩
abbrev cX6_forget : ByteArray := prog_8_method_2_code
def yX6_forget : MethodName := ⟨RX6, "forget", "()V"⟩
abbrev cX6_look : ByteArray := prog_8_method_3_code
def yX6_look : MethodName := ⟨RX6, "look", "([II)Z"⟩
abbrev cX6_cell : ByteArray := prog_8_method_4_code
def yX6_cell : MethodName := ⟨RX6, "cell", "(III)I"⟩
abbrev cX6_farthestSeen : ByteArray := prog_8_method_5_code
def yX6_farthestSeen : MethodName := ⟨RX6, "farthestSeen", "()I"⟩
abbrev cX6_farthestYear : ByteArray := prog_8_method_6_code
def yX6_farthestYear : MethodName := ⟨RX6, "farthestYear", "(LFoolTrade$World;)I"⟩
abbrev cX6_foresee : ByteArray := prog_8_method_7_code
def yX6_foresee : MethodName := ⟨RX6, "foresee", "(LFoolTrade$World;II)V"⟩
abbrev cX6_possible : ByteArray := prog_8_method_8_code
def yX6_possible : MethodName := ⟨RX6, "possible", "(LFoolTrade$World;)I"⟩
abbrev cX6_fits : ByteArray := prog_8_method_9_code
def yX6_fits : MethodName := ⟨RX6, "fits", "(I)Z"⟩
abbrev cX6_findTelling : ByteArray := prog_8_method_10_code
def yX6_findTelling : MethodName := ⟨RX6, "findTelling", "(LFoolTrade$World;)Z"⟩
abbrev cX6_mostLeft : ByteArray := prog_8_method_11_code
def yX6_mostLeft : MethodName := ⟨RX6, "mostLeft", "(III)I"⟩
abbrev cX6_countAlike : ByteArray := prog_8_method_12_code
def yX6_countAlike : MethodName := ⟨RX6, "countAlike", "(IIII)I"⟩
def RX7 : String := "FoolTrade$Sums"
def TX7 : u_T := fun k => match k with
  | 0 => ("FoolTrade$Sums", "slots", "[I", true)
  | _ => ("FoolTrade$Sums", "stack", "[I", true)
def tyX7 : Nat → FieldType := fun k => match k with
  | 0 => .array .int
  | _ => .array .int
abbrev wsX70 : List Cond := u_ws RX7 TX7 2
theorem nmX7 : ∀ a, a < 2 → ∀ b, b < 2 → a ≠ b → (TX7 a).2.1 ≠ (TX7 b).2.1 := by decide +kernel
theorem tyX7_ok : ∀ k, k < 2 → parseFieldDescriptor (TX7 k).2.2.1 = some (tyX7 k) := by decide +kernel
abbrev cX7_init : ByteArray := prog_9_method_1_code
def yX7_init : MethodName := ⟨RX7, "<init>", "()V"⟩
abbrev cX7_value : ByteArray := prog_9_method_2_code
def yX7_value : MethodName := ⟨RX7, "value", "([III)I"⟩
abbrev cX7_slotValue : ByteArray := prog_9_method_3_code
def yX7_slotValue : MethodName := ⟨RX7, "slotValue", "(I)I"⟩
abbrev cX7_ofOne : ByteArray := prog_9_method_4_code
def yX7_ofOne : MethodName := ⟨RX7, "ofOne", "(II)I"⟩
abbrev cX7_ofTwo : ByteArray := prog_9_method_5_code
def yX7_ofTwo : MethodName := ⟨RX7, "ofTwo", "(III)I"⟩
def RX8 : String := "FoolTrade$Tokens"
def TX8 : u_T := fun k => match k with
  | 0 => ("FoolTrade$Tokens", "text", "[I", true)
  | 1 => ("FoolTrade$Tokens", "length", "I", false)
  | 2 => ("FoolTrade$Tokens", "stop", "I", false)
  | 3 => ("FoolTrade$Tokens", "kind", "I", false)
  | 4 => ("FoolTrade$Tokens", "start", "I", false)
  | 5 => ("FoolTrade$Tokens", "word", "I", false)
  | 6 => ("FoolTrade$Tokens", "number", "I", false)
  | 7 => ("FoolTrade$Tokens", "fault", "I", false)
  | _ => ("FoolTrade$Tokens", "place", "I", false)
def tyX8 : Nat → FieldType := fun k => match k with
  | 0 => .array .int
  | 1 => .int
  | 2 => .int
  | 3 => .int
  | 4 => .int
  | 5 => .int
  | 6 => .int
  | 7 => .int
  | _ => .int
abbrev wsX80 : List Cond := u_ws RX8 TX8 9
theorem nmX8 : ∀ a, a < 9 → ∀ b, b < 9 → a ≠ b → (TX8 a).2.1 ≠ (TX8 b).2.1 := by decide +kernel
theorem tyX8_ok : ∀ k, k < 9 → parseFieldDescriptor (TX8 k).2.2.1 = some (tyX8 k) := by decide +kernel
abbrev cX8_init : ByteArray := prog_10_method_1_code
def yX8_init : MethodName := ⟨RX8, "<init>", "([I)V"⟩
abbrev cX8_open : ByteArray := prog_10_method_2_code
def yX8_open : MethodName := ⟨RX8, "open", "(I)V"⟩
abbrev cX8_next : ByteArray := prog_10_method_3_code
def yX8_next : MethodName := ⟨RX8, "next", "()V"⟩
abbrev cX8_runEnd : ByteArray := prog_10_method_4_code
def yX8_runEnd : MethodName := ⟨RX8, "runEnd", "(IZII)I"⟩
abbrev cX8_wordNumber : ByteArray := prog_10_method_5_code
def yX8_wordNumber : MethodName := ⟨RX8, "wordNumber", "()I"⟩
abbrev cX8_isSign : ByteArray := prog_10_method_6_code
def yX8_isSign : MethodName := ⟨RX8, "isSign", "(C)Z"⟩
abbrev cX8_isWord : ByteArray := prog_10_method_7_code
def yX8_isWord : MethodName := ⟨RX8, "isWord", "(I)Z"⟩
abbrev cX8_fail : ByteArray := prog_10_method_8_code
def yX8_fail : MethodName := ⟨RX8, "fail", "(II)Z"⟩
abbrev cX8_failHere : ByteArray := prog_10_method_9_code
def yX8_failHere : MethodName := ⟨RX8, "failHere", "()Z"⟩
abbrev cX8_takeSign : ByteArray := prog_10_method_10_code
def yX8_takeSign : MethodName := ⟨RX8, "takeSign", "(C)Z"⟩
abbrev cX8_takeWord : ByteArray := prog_10_method_11_code
def yX8_takeWord : MethodName := ⟨RX8, "takeWord", "(I)Z"⟩
abbrev cX8_takeNumber : ByteArray := prog_10_method_12_code
def yX8_takeNumber : MethodName := ⟨RX8, "takeNumber", "(I)Z"⟩
abbrev cX8_takeWordAndNumber : ByteArray := prog_10_method_13_code
def yX8_takeWordAndNumber : MethodName := ⟨RX8, "takeWordAndNumber", "(II)Z"⟩
abbrev cX8_atName : ByteArray := prog_10_method_14_code
def yX8_atName : MethodName := ⟨RX8, "atName", "()Z"⟩
abbrev cX8_letterHere : ByteArray := prog_10_method_15_code
def yX8_letterHere : MethodName := ⟨RX8, "letterHere", "(I)I"⟩
def RX9 : String := "FoolTrade$Treaty"
def TX9 : u_T := fun k => match k with
  | 0 => ("FoolTrade$Treaty", "letters", "[I", true)
  | 1 => ("FoolTrade$Treaty", "harvest", "[I", true)
  | 2 => ("FoolTrade$Treaty", "quarrel", "[I", true)
  | 3 => ("FoolTrade$Treaty", "home", "[I", true)
  | 4 => ("FoolTrade$Treaty", "wits", "[I", true)
  | 5 => ("FoolTrade$Treaty", "oath", "[I", true)
  | 6 => ("FoolTrade$Treaty", "cheer", "[I", true)
  | 7 => ("FoolTrade$Treaty", "code", "[I", true)
  | 8 => ("FoolTrade$Treaty", "from", "[I", true)
  | 9 => ("FoolTrade$Treaty", "to", "[I", true)
  | 10 => ("FoolTrade$Treaty", "size", "I", false)
  | 11 => ("FoolTrade$Treaty", "villages", "I", false)
  | 12 => ("FoolTrade$Treaty", "people", "I", false)
  | 13 => ("FoolTrade$Treaty", "statements", "I", false)
  | _ => ("FoolTrade$Treaty", "snow", "I", false)
def tyX9 : Nat → FieldType := fun k => match k with
  | 0 => .array .int
  | 1 => .array .int
  | 2 => .array .int
  | 3 => .array .int
  | 4 => .array .int
  | 5 => .array .int
  | 6 => .array .int
  | 7 => .array .int
  | 8 => .array .int
  | 9 => .array .int
  | 10 => .int
  | 11 => .int
  | 12 => .int
  | 13 => .int
  | _ => .int
abbrev wsX90 : List Cond := u_ws RX9 TX9 15
theorem nmX9 : ∀ a, a < 15 → ∀ b, b < 15 → a ≠ b → (TX9 a).2.1 ≠ (TX9 b).2.1 := by decide +kernel
theorem tyX9_ok : ∀ k, k < 15 → parseFieldDescriptor (TX9 k).2.2.1 = some (tyX9 k) := by decide +kernel
abbrev cX9_init : ByteArray := prog_11_method_1_code
def yX9_init : MethodName := ⟨RX9, "<init>", "()V"⟩
abbrev cX9_take : ByteArray := prog_11_method_2_code
def yX9_take : MethodName := ⟨RX9, "take", "(LFoolTrade$Treaty;)V"⟩
abbrev cX9_letterOf : ByteArray := prog_11_method_3_code
def yX9_letterOf : MethodName := ⟨RX9, "letterOf", "(II)I"⟩
abbrev cX9_read : ByteArray := prog_11_method_4_code
def yX9_read : MethodName := ⟨RX9, "read", "(LFoolTrade$Tokens;LFoolTrade$Grammar;)Z"⟩
abbrev cX9_clear : ByteArray := prog_11_method_5_code
def yX9_clear : MethodName := ⟨RX9, "clear", "()V"⟩
abbrev cX9_readStatement : ByteArray := prog_11_method_6_code
def yX9_readStatement : MethodName := ⟨RX9, "readStatement", "(LFoolTrade$Tokens;LFoolTrade$Grammar;)Z"⟩
abbrev cX9_isTest : ByteArray := prog_11_method_7_code
def yX9_isTest : MethodName := ⟨RX9, "isTest", "(I)Z"⟩
abbrev cX9_readVillage : ByteArray := prog_11_method_8_code
def yX9_readVillage : MethodName := ⟨RX9, "readVillage", "(LFoolTrade$Tokens;)Z"⟩
abbrev cX9_readPerson : ByteArray := prog_11_method_9_code
def yX9_readPerson : MethodName := ⟨RX9, "readPerson", "(LFoolTrade$Tokens;)Z"⟩
abbrev cX9_readTraits : ByteArray := prog_11_method_10_code
def yX9_readTraits : MethodName := ⟨RX9, "readTraits", "(LFoolTrade$Tokens;)Z"⟩
abbrev cX9_readSnow : ByteArray := prog_11_method_11_code
def yX9_readSnow : MethodName := ⟨RX9, "readSnow", "(LFoolTrade$Tokens;)Z"⟩
abbrev cX9_beginRule : ByteArray := prog_11_method_12_code
def yX9_beginRule : MethodName := ⟨RX9, "beginRule", "(LFoolTrade$Tokens;LFoolTrade$Grammar;I)Z"⟩
abbrev cX9_endRule : ByteArray := prog_11_method_13_code
def yX9_endRule : MethodName := ⟨RX9, "endRule", "(LFoolTrade$Grammar;I)Z"⟩
abbrev cX9_takeNewName : ByteArray := prog_11_method_14_code
def yX9_takeNewName : MethodName := ⟨RX9, "takeNewName", "(LFoolTrade$Tokens;I)Z"⟩
abbrev cX9_nameHere : ByteArray := prog_11_method_15_code
def yX9_nameHere : MethodName := ⟨RX9, "nameHere", "(LFoolTrade$Tokens;)I"⟩
abbrev cX9_isHere : ByteArray := prog_11_method_16_code
def yX9_isHere : MethodName := ⟨RX9, "isHere", "(LFoolTrade$Tokens;I)Z"⟩
abbrev cX9_addDefaults : ByteArray := prog_11_method_17_code
def yX9_addDefaults : MethodName := ⟨RX9, "addDefaults", "()V"⟩
abbrev cX9_addDefault : ByteArray := prog_11_method_18_code
def yX9_addDefault : MethodName := ⟨RX9, "addDefault", "(IIII)V"⟩
def RX10 : String := "FoolTrade$World"
def TX10 : u_T := fun k => match k with
  | 0 => ("FoolTrade$World", "harvest", "[I", true)
  | 1 => ("FoolTrade$World", "quarrel", "[I", true)
  | 2 => ("FoolTrade$World", "wits", "[I", true)
  | 3 => ("FoolTrade$World", "place", "[I", true)
  | 4 => ("FoolTrade$World", "away", "[I", true)
  | 5 => ("FoolTrade$World", "year", "I", false)
  | _ => ("FoolTrade$World", "kept", "I", false)
def tyX10 : Nat → FieldType := fun k => match k with
  | 0 => .array .int
  | 1 => .array .int
  | 2 => .array .int
  | 3 => .array .int
  | 4 => .array .int
  | 5 => .int
  | _ => .int
abbrev wsX100 : List Cond := u_ws RX10 TX10 7
theorem nmX10 : ∀ a, a < 7 → ∀ b, b < 7 → a ≠ b → (TX10 a).2.1 ≠ (TX10 b).2.1 := by decide +kernel
theorem tyX10_ok : ∀ k, k < 7 → parseFieldDescriptor (TX10 k).2.2.1 = some (tyX10 k) := by decide +kernel
abbrev cX10_init : ByteArray := prog_12_method_1_code
def yX10_init : MethodName := ⟨RX10, "<init>", "()V"⟩
abbrev cX10_take : ByteArray := prog_12_method_2_code
def yX10_take : MethodName := ⟨RX10, "take", "(LFoolTrade$World;)V"⟩
abbrev cX10_begin : ByteArray := prog_12_method_3_code
def yX10_begin : MethodName := ⟨RX10, "begin", "(LFoolTrade$Treaty;)V"⟩
abbrev cX10_develop : ByteArray := prog_12_method_4_code
def yX10_develop : MethodName := ⟨RX10, "develop", "([ILFoolTrade$Treaty;)V"⟩
abbrev cX10_cross : ByteArray := prog_12_method_5_code
def yX10_cross : MethodName := ⟨RX10, "cross", "(I)V"⟩
def RX11 : String := "FoolTrade"
def TX11 : u_T := fun k => match k with
  | 0 => ("FoolTrade", "tape", "[I", true)
  | 1 => ("FoolTrade", "taped", "I", false)
  | 2 => ("FoolTrade", "tokens", "LFoolTrade$Tokens;", true)
  | 3 => ("FoolTrade", "grammar", "LFoolTrade$Grammar;", true)
  | 4 => ("FoolTrade", "terms", "LFoolTrade$Treaty;", true)
  | 5 => ("FoolTrade", "draft", "LFoolTrade$Treaty;", true)
  | 6 => ("FoolTrade", "question", "LFoolTrade$Question;", true)
  | 7 => ("FoolTrade", "course", "LFoolTrade$Course;", true)
  | 8 => ("FoolTrade", "now", "LFoolTrade$World;", true)
  | 9 => ("FoolTrade", "scratch", "LFoolTrade$World;", true)
  | 10 => ("FoolTrade", "past", "LFoolTrade$Past;", true)
  | 11 => ("FoolTrade", "pairs", "LFoolTrade$Pairs;", true)
  | 12 => ("FoolTrade", "examiner", "LFoolTrade$Exam;", true)
  | 13 => ("FoolTrade", "sight", "LFoolTrade$Sight;", true)
  | 14 => ("FoolTrade", "picture", "[I", true)
  | 15 => ("FoolTrade", "pictured", "I", false)
  | 16 => ("FoolTrade", "refused", "[I", true)
  | 17 => ("FoolTrade", "draws", "I", false)
  | 18 => ("FoolTrade", "faultKind", "I", false)
  | _ => ("FoolTrade", "faultPlace", "I", false)
def tyX11 : Nat → FieldType := fun k => match k with
  | 0 => .array .int
  | 1 => .int
  | 2 => .object "FoolTrade$Tokens"
  | 3 => .object "FoolTrade$Grammar"
  | 4 => .object "FoolTrade$Treaty"
  | 5 => .object "FoolTrade$Treaty"
  | 6 => .object "FoolTrade$Question"
  | 7 => .object "FoolTrade$Course"
  | 8 => .object "FoolTrade$World"
  | 9 => .object "FoolTrade$World"
  | 10 => .object "FoolTrade$Past"
  | 11 => .object "FoolTrade$Pairs"
  | 12 => .object "FoolTrade$Exam"
  | 13 => .object "FoolTrade$Sight"
  | 14 => .array .int
  | 15 => .int
  | 16 => .array .int
  | 17 => .int
  | 18 => .int
  | _ => .int
abbrev wsX110 : List Cond := u_ws RX11 TX11 20
theorem nmX11 : ∀ a, a < 20 → ∀ b, b < 20 → a ≠ b → (TX11 a).2.1 ≠ (TX11 b).2.1 := by decide +kernel
theorem tyX11_ok : ∀ k, k < 20 → parseFieldDescriptor (TX11 k).2.2.1 = some (tyX11 k) := by decide +kernel
abbrev cX11_init : ByteArray := prog_1_method_1_code
def yX11_init : MethodName := ⟨RX11, "<init>", "()V"⟩
abbrev cX11_feed : ByteArray := prog_1_method_2_code
def yX11_feed : MethodName := ⟨RX11, "feed", "(IIIII)I"⟩
abbrev cX11_tapeNumber : ByteArray := prog_1_method_3_code
def yX11_tapeNumber : MethodName := ⟨RX11, "tapeNumber", "(I)V"⟩
abbrev cX11_refuse : ByteArray := prog_1_method_4_code
def yX11_refuse : MethodName := ⟨RX11, "refuse", "(I)I"⟩
abbrev cX11_end : ByteArray := prog_1_method_5_code
def yX11_end : MethodName := ⟨RX11, "end", "(I)Z"⟩
abbrev cX11_treaty : ByteArray := prog_1_method_6_code
def yX11_treaty : MethodName := ⟨RX11, "treaty", "()I"⟩
abbrev cX11_takeFault : ByteArray := prog_1_method_7_code
def yX11_takeFault : MethodName := ⟨RX11, "takeFault", "()V"⟩
abbrev cX11_fault : ByteArray := prog_1_method_8_code
def yX11_fault : MethodName := ⟨RX11, "fault", "(I)I"⟩
abbrev cX11_has : ByteArray := prog_1_method_9_code
def yX11_has : MethodName := ⟨RX11, "has", "(I)I"⟩
abbrev cX11_noVillage : ByteArray := prog_1_method_10_code
def yX11_noVillage : MethodName := ⟨RX11, "noVillage", "(I)Z"⟩
abbrev cX11_noPerson : ByteArray := prog_1_method_11_code
def yX11_noPerson : MethodName := ⟨RX11, "noPerson", "(I)Z"⟩
abbrev cX11_noTreaty : ByteArray := prog_1_method_12_code
def yX11_noTreaty : MethodName := ⟨RX11, "noTreaty", "()Z"⟩
abbrev cX11_beyond : ByteArray := prog_1_method_13_code
def yX11_beyond : MethodName := ⟨RX11, "beyond", "(I)Z"⟩
abbrev cX11_letter : ByteArray := prog_1_method_14_code
def yX11_letter : MethodName := ⟨RX11, "letter", "(III)I"⟩
abbrev cX11_village : ByteArray := prog_1_method_15_code
def yX11_village : MethodName := ⟨RX11, "village", "(II)I"⟩
abbrev cX11_bit : ByteArray := prog_1_method_16_code
def yX11_bit : MethodName := ⟨RX11, "bit", "(Z)I"⟩
abbrev cX11_person : ByteArray := prog_1_method_17_code
def yX11_person : MethodName := ⟨RX11, "person", "(II)I"⟩
abbrev cX11_does : ByteArray := prog_1_method_18_code
def yX11_does : MethodName := ⟨RX11, "does", "(II)J"⟩
abbrev cX11_kept : ByteArray := prog_1_method_19_code
def yX11_kept : MethodName := ⟨RX11, "kept", "(II)I"⟩
abbrev cX11_later : ByteArray := prog_1_method_20_code
def yX11_later : MethodName := ⟨RX11, "later", "(III)I"⟩
abbrev cX11_lives : ByteArray := prog_1_method_21_code
def yX11_lives : MethodName := ⟨RX11, "lives", "(II)I"⟩
abbrev cX11_goAhead : ByteArray := prog_1_method_22_code
def yX11_goAhead : MethodName := ⟨RX11, "goAhead", "(I)Z"⟩
abbrev cX11_shortage : ByteArray := prog_1_method_23_code
def yX11_shortage : MethodName := ⟨RX11, "shortage", "(I)I"⟩
abbrev cX11_gain : ByteArray := prog_1_method_24_code
def yX11_gain : MethodName := ⟨RX11, "gain", "(III)J"⟩
abbrev cX11_bargain : ByteArray := prog_1_method_25_code
def yX11_bargain : MethodName := ⟨RX11, "bargain", "(I)I"⟩
abbrev cX11_rest : ByteArray := prog_1_method_26_code
def yX11_rest : MethodName := ⟨RX11, "rest", "(I)I"⟩
abbrev cX11_exam : ByteArray := prog_1_method_27_code
def yX11_exam : MethodName := ⟨RX11, "exam", "(I)I"⟩
abbrev cX11_feign : ByteArray := prog_1_method_28_code
def yX11_feign : MethodName := ⟨RX11, "feign", "(I)I"⟩
abbrev cX11_feigned : ByteArray := prog_1_method_29_code
def yX11_feigned : MethodName := ⟨RX11, "feigned", "(II)Z"⟩
abbrev cX11_worth : ByteArray := prog_1_method_30_code
def yX11_worth : MethodName := ⟨RX11, "worth", "(II)J"⟩
abbrev cX11_see : ByteArray := prog_1_method_31_code
def yX11_see : MethodName := ⟨RX11, "see", "()I"⟩
abbrev cX11_wits : ByteArray := prog_1_method_32_code
def yX11_wits : MethodName := ⟨RX11, "wits", "(I)I"⟩
abbrev cX11_tells : ByteArray := prog_1_method_33_code
def yX11_tells : MethodName := ⟨RX11, "tells", "(II)I"⟩
abbrev cX11_teach : ByteArray := prog_1_method_34_code
def yX11_teach : MethodName := ⟨RX11, "teach", "(II)Z"⟩
abbrev cX11_bring : ByteArray := prog_1_method_35_code
def yX11_bring : MethodName := ⟨RX11, "bring", "(I)I"⟩
abbrev cX11_calm : ByteArray := prog_1_method_36_code
def yX11_calm : MethodName := ⟨RX11, "calm", "(I)Z"⟩
abbrev cX11_years : ByteArray := prog_1_method_37_code
def yX11_years : MethodName := ⟨RX11, "years", "(I)I"⟩
abbrev cX11_cannotPass : ByteArray := prog_1_method_38_code
def yX11_cannotPass : MethodName := ⟨RX11, "cannotPass", "(I)Z"⟩
abbrev cX11_chance : ByteArray := prog_1_method_39_code
def yX11_chance : MethodName := ⟨RX11, "chance", "(I)I"⟩
abbrev cX11_draw : ByteArray := prog_1_method_40_code
def yX11_draw : MethodName := ⟨RX11, "draw", "(I)I"⟩
abbrev cX11_undo : ByteArray := prog_1_method_41_code
def yX11_undo : MethodName := ⟨RX11, "undo", "()Z"⟩
abbrev cX11_seed : ByteArray := prog_1_method_42_code
def yX11_seed : MethodName := ⟨RX11, "seed", "(I)Z"⟩
abbrev cX11_ask : ByteArray := prog_1_method_43_code
def yX11_ask : MethodName := ⟨RX11, "ask", "()J"⟩
abbrev cX11_image : ByteArray := prog_1_method_44_code
def yX11_image : MethodName := ⟨RX11, "image", "()I"⟩
abbrev cX11_paintPair : ByteArray := prog_1_method_45_code
def yX11_paintPair : MethodName := ⟨RX11, "paintPair", "(I)V"⟩
abbrev cX11_paint : ByteArray := prog_1_method_46_code
def yX11_paint : MethodName := ⟨RX11, "paint", "(I)V"⟩
abbrev cX11_check : ByteArray := prog_1_method_47_code
def yX11_check : MethodName := ⟨RX11, "check", "([II)I"⟩
abbrev cX11_octet : ByteArray := prog_1_method_48_code
def yX11_octet : MethodName := ⟨RX11, "octet", "(I)I"⟩
abbrev cX11_on : ByteArray := prog_1_method_49_code
def yX11_on : MethodName := ⟨RX11, "on", "()Z"⟩
abbrev cX11_isImage : ByteArray := prog_1_method_50_code
def yX11_isImage : MethodName := ⟨RX11, "isImage", "(I)Z"⟩
abbrev cX11_pairAt : ByteArray := prog_1_method_51_code
def yX11_pairAt : MethodName := ⟨RX11, "pairAt", "([II)I"⟩
abbrev cX11_status : ByteArray := prog_1_method_52_code
def yX11_status : MethodName := ⟨RX11, "status", "(I)I"⟩
def RX12 : String := "FoolTradeModel"
def TX12 : u_T := fun k => match k with
  | 0 => ("FoolTradeModel", "tape", "[I", true)
  | 1 => ("FoolTradeModel", "taped", "I", false)
  | 2 => ("FoolTradeModel", "at", "I", false)
  | 3 => ("FoolTradeModel", "end", "I", false)
  | 4 => ("FoolTradeModel", "ended", "I", false)
  | 5 => ("FoolTradeModel", "bad", "I", false)
  | 6 => ("FoolTradeModel", "badPlace", "I", false)
  | 7 => ("FoolTradeModel", "fault", "I", false)
  | 8 => ("FoolTradeModel", "faultPlace", "I", false)
  | 9 => ("FoolTradeModel", "refused", "[I", true)
  | 10 => ("FoolTradeModel", "numberPlace", "I", false)
  | 11 => ("FoolTradeModel", "harvestWord", "[C", true)
  | 12 => ("FoolTradeModel", "quarrelWord", "[C", true)
  | 13 => ("FoolTradeModel", "villageWord", "[C", true)
  | 14 => ("FoolTradeModel", "personWord", "[C", true)
  | 15 => ("FoolTradeModel", "ofWord", "[C", true)
  | 16 => ("FoolTradeModel", "witsWord", "[C", true)
  | 17 => ("FoolTradeModel", "oathWord", "[C", true)
  | 18 => ("FoolTradeModel", "cheerWord", "[C", true)
  | 19 => ("FoolTradeModel", "sendsWord", "[C", true)
  | 20 => ("FoolTradeModel", "gooseWord", "[C", true)
  | 21 => ("FoolTradeModel", "doesWord", "[C", true)
  | 22 => ("FoolTradeModel", "fightsWord", "[C", true)
  | 23 => ("FoolTradeModel", "staysWord", "[C", true)
  | 24 => ("FoolTradeModel", "snowWord", "[C", true)
  | 25 => ("FoolTradeModel", "yearWord", "[C", true)
  | 26 => ("FoolTradeModel", "awayWord", "[C", true)
  | 27 => ("FoolTradeModel", "guestsWord", "[C", true)
  | 28 => ("FoolTradeModel", "numberWord", "[C", true)
  | 29 => ("FoolTradeModel", "livesWord", "[C", true)
  | 30 => ("FoolTradeModel", "homeWord", "[C", true)
  | 31 => ("FoolTradeModel", "orWord", "[C", true)
  | 32 => ("FoolTradeModel", "andWord", "[C", true)
  | 33 => ("FoolTradeModel", "notWord", "[C", true)
  | 34 => ("FoolTradeModel", "allWord", "[C", true)
  | 35 => ("FoolTradeModel", "minWord", "[C", true)
  | 36 => ("FoolTradeModel", "maxWord", "[C", true)
  | 37 => ("FoolTradeModel", "namePlace", "I", false)
  | 38 => ("FoolTradeModel", "villagesTold", "I", false)
  | 39 => ("FoolTradeModel", "peopleTold", "I", false)
  | 40 => ("FoolTradeModel", "people0", "I", false)
  | 41 => ("FoolTradeModel", "names", "[J", true)
  | 42 => ("FoolTradeModel", "villages", "[I", true)
  | 43 => ("FoolTradeModel", "people", "[I", true)
  | 44 => ("FoolTradeModel", "wits0", "[I", true)
  | 45 => ("FoolTradeModel", "snowTold", "I", false)
  | 46 => ("FoolTradeModel", "snow", "I", false)
  | 47 => ("FoolTradeModel", "codeFrom", "[I", true)
  | 48 => ("FoolTradeModel", "codeEnd", "[I", true)
  | 49 => ("FoolTradeModel", "codes", "[I", true)
  | 50 => ("FoolTradeModel", "coded", "I", false)
  | 51 => ("FoolTradeModel", "statements", "I", false)
  | 52 => ("FoolTradeModel", "isTreaty", "Z", false)
  | 53 => ("FoolTradeModel", "textKind", "I", false)
  | 54 => ("FoolTradeModel", "now", "[I", true)
  | 55 => ("FoolTradeModel", "aside", "[I", true)
  | 56 => ("FoolTradeModel", "askVillage", "I", false)
  | 57 => ("FoolTradeModel", "doesAll", "[J", true)
  | 58 => ("FoolTradeModel", "isThought", "Z", false)
  | 59 => ("FoolTradeModel", "exchangeMany", "I", false)
  | 60 => ("FoolTradeModel", "harvests", "[I", true)
  | 61 => ("FoolTradeModel", "harvestsBy", "[I", true)
  | 62 => ("FoolTradeModel", "harvestsNone", "[I", true)
  | 63 => ("FoolTradeModel", "yes", "[I", true)
  | 64 => ("FoolTradeModel", "passSet", "I", false)
  | 65 => ("FoolTradeModel", "examRow", "[I", true)
  | 66 => ("FoolTradeModel", "rowMany", "I", false)
  | 67 => ("FoolTradeModel", "rows", "[I", true)
  | 68 => ("FoolTradeModel", "ways", "[I", true)
  | 69 => ("FoolTradeModel", "isFit", "[Z", true)
  | 70 => ("FoolTradeModel", "fitMany", "I", false)
  | 71 => ("FoolTradeModel", "kept0", "[I", true)
  | 72 => ("FoolTradeModel", "undoable", "I", false)
  | 73 => ("FoolTradeModel", "newest", "I", false)
  | 74 => ("FoolTradeModel", "seeded", "J", false)
  | 75 => ("FoolTradeModel", "firstAsked", "[C", true)
  | 76 => ("FoolTradeModel", "lastAsked", "[C", true)
  | 77 => ("FoolTradeModel", "oftenAsked", "[C", true)
  | 78 => ("FoolTradeModel", "totalAsked", "[C", true)
  | 79 => ("FoolTradeModel", "mostAsked", "[C", true)
  | 80 => ("FoolTradeModel", "leastAsked", "[C", true)
  | 81 => ("FoolTradeModel", "notAsked", "[C", true)
  | 82 => ("FoolTradeModel", "andAsked", "[C", true)
  | 83 => ("FoolTradeModel", "orAsked", "[C", true)
  | 84 => ("FoolTradeModel", "allAsked", "[C", true)
  | 85 => ("FoolTradeModel", "minAsked", "[C", true)
  | 86 => ("FoolTradeModel", "maxAsked", "[C", true)
  | 87 => ("FoolTradeModel", "harvestAsked", "[C", true)
  | 88 => ("FoolTradeModel", "quarrelAsked", "[C", true)
  | 89 => ("FoolTradeModel", "yearAsked", "[C", true)
  | 90 => ("FoolTradeModel", "witsAsked", "[C", true)
  | 91 => ("FoolTradeModel", "oathAsked", "[C", true)
  | 92 => ("FoolTradeModel", "cheerAsked", "[C", true)
  | 93 => ("FoolTradeModel", "awayAsked", "[C", true)
  | 94 => ("FoolTradeModel", "guestsAsked", "[C", true)
  | 95 => ("FoolTradeModel", "numberAsked", "[C", true)
  | 96 => ("FoolTradeModel", "livesAsked", "[C", true)
  | 97 => ("FoolTradeModel", "homeAsked", "[C", true)
  | 98 => ("FoolTradeModel", "harvestofAsked", "[C", true)
  | 99 => ("FoolTradeModel", "doesofAsked", "[C", true)
  | 100 => ("FoolTradeModel", "qCodes", "[I", true)
  | 101 => ("FoolTradeModel", "qCoded", "I", false)
  | 102 => ("FoolTradeModel", "qWait", "[I", true)
  | 103 => ("FoolTradeModel", "qWaits", "I", false)
  | 104 => ("FoolTradeModel", "qOpened", "I", false)
  | 105 => ("FoolTradeModel", "qBase", "I", false)
  | 106 => ("FoolTradeModel", "qPile", "[J", true)
  | 107 => ("FoolTradeModel", "qPiled", "I", false)
  | 108 => ("FoolTradeModel", "qAnswer", "J", false)
  | 109 => ("FoolTradeModel", "qIsNew", "Z", false)
  | 110 => ("FoolTradeModel", "octet", "[I", true)
  | _ => ("FoolTradeModel", "octets", "I", false)
def tyX12 : Nat → FieldType := fun k => match k with
  | 0 => .array .int
  | 1 => .int
  | 2 => .int
  | 3 => .int
  | 4 => .int
  | 5 => .int
  | 6 => .int
  | 7 => .int
  | 8 => .int
  | 9 => .array .int
  | 10 => .int
  | 11 => .array .char
  | 12 => .array .char
  | 13 => .array .char
  | 14 => .array .char
  | 15 => .array .char
  | 16 => .array .char
  | 17 => .array .char
  | 18 => .array .char
  | 19 => .array .char
  | 20 => .array .char
  | 21 => .array .char
  | 22 => .array .char
  | 23 => .array .char
  | 24 => .array .char
  | 25 => .array .char
  | 26 => .array .char
  | 27 => .array .char
  | 28 => .array .char
  | 29 => .array .char
  | 30 => .array .char
  | 31 => .array .char
  | 32 => .array .char
  | 33 => .array .char
  | 34 => .array .char
  | 35 => .array .char
  | 36 => .array .char
  | 37 => .int
  | 38 => .int
  | 39 => .int
  | 40 => .int
  | 41 => .array .long
  | 42 => .array .int
  | 43 => .array .int
  | 44 => .array .int
  | 45 => .int
  | 46 => .int
  | 47 => .array .int
  | 48 => .array .int
  | 49 => .array .int
  | 50 => .int
  | 51 => .int
  | 52 => .boolean
  | 53 => .int
  | 54 => .array .int
  | 55 => .array .int
  | 56 => .int
  | 57 => .array .long
  | 58 => .boolean
  | 59 => .int
  | 60 => .array .int
  | 61 => .array .int
  | 62 => .array .int
  | 63 => .array .int
  | 64 => .int
  | 65 => .array .int
  | 66 => .int
  | 67 => .array .int
  | 68 => .array .int
  | 69 => .array .boolean
  | 70 => .int
  | 71 => .array .int
  | 72 => .int
  | 73 => .int
  | 74 => .long
  | 75 => .array .char
  | 76 => .array .char
  | 77 => .array .char
  | 78 => .array .char
  | 79 => .array .char
  | 80 => .array .char
  | 81 => .array .char
  | 82 => .array .char
  | 83 => .array .char
  | 84 => .array .char
  | 85 => .array .char
  | 86 => .array .char
  | 87 => .array .char
  | 88 => .array .char
  | 89 => .array .char
  | 90 => .array .char
  | 91 => .array .char
  | 92 => .array .char
  | 93 => .array .char
  | 94 => .array .char
  | 95 => .array .char
  | 96 => .array .char
  | 97 => .array .char
  | 98 => .array .char
  | 99 => .array .char
  | 100 => .array .int
  | 101 => .int
  | 102 => .array .int
  | 103 => .int
  | 104 => .int
  | 105 => .int
  | 106 => .array .long
  | 107 => .int
  | 108 => .long
  | 109 => .boolean
  | 110 => .array .int
  | _ => .int
abbrev wsX120 : List Cond := u_ws RX12 TX12 112
theorem nmX12 : ∀ a, a < 112 → ∀ b, b < 112 → a ≠ b → (TX12 a).2.1 ≠ (TX12 b).2.1 := by decide +kernel
theorem tyX12_ok : ∀ k, k < 112 → parseFieldDescriptor (TX12 k).2.2.1 = some (tyX12 k) := by decide +kernel
abbrev cX12_init : ByteArray := prog_14_method_1_code
def yX12_init : MethodName := ⟨RX12, "<init>", "()V"⟩
abbrev cX12_isIn : ByteArray := prog_14_method_2_code
def yX12_isIn : MethodName := ⟨RX12, "isIn", "(JJJ)Z"⟩
abbrev cX12_cut : ByteArray := prog_14_method_3_code
def yX12_cut : MethodName := ⟨RX12, "cut", "(JI)I"⟩
abbrev cX12_feed : ByteArray := prog_14_method_4_code
def yX12_feed : MethodName := ⟨RX12, "feed", "(IIIII)I"⟩
abbrev cX12_end : ByteArray := prog_14_method_5_code
def yX12_end : MethodName := ⟨RX12, "end", "(I)Z"⟩
abbrev cX12_fail : ByteArray := prog_14_method_6_code
def yX12_fail : MethodName := ⟨RX12, "fail", "(II)V"⟩
abbrev cX12_isLetter : ByteArray := prog_14_method_7_code
def yX12_isLetter : MethodName := ⟨RX12, "isLetter", "(I)Z"⟩
abbrev cX12_isDigit : ByteArray := prog_14_method_8_code
def yX12_isDigit : MethodName := ⟨RX12, "isDigit", "(I)Z"⟩
abbrev cX12_look : ByteArray := prog_14_method_9_code
def yX12_look : MethodName := ⟨RX12, "look", "()I"⟩
abbrev cX12_isHere : ByteArray := prog_14_method_10_code
def yX12_isHere : MethodName := ⟨RX12, "isHere", "([C)Z"⟩
abbrev cX12_takes : ByteArray := prog_14_method_11_code
def yX12_takes : MethodName := ⟨RX12, "takes", "([C)Z"⟩
abbrev cX12_asks : ByteArray := prog_14_method_12_code
def yX12_asks : MethodName := ⟨RX12, "asks", "([C)V"⟩
abbrev cX12_takesSign : ByteArray := prog_14_method_13_code
def yX12_takesSign : MethodName := ⟨RX12, "takesSign", "(I)Z"⟩
abbrev cX12_asksSign : ByteArray := prog_14_method_14_code
def yX12_asksSign : MethodName := ⟨RX12, "asksSign", "(I)V"⟩
abbrev cX12_number : ByteArray := prog_14_method_15_code
def yX12_number : MethodName := ⟨RX12, "number", "(II)I"⟩
abbrev cX12_isOwnHere : ByteArray := prog_14_method_16_code
def yX12_isOwnHere : MethodName := ⟨RX12, "isOwnHere", "()Z"⟩
abbrev cX12_name : ByteArray := prog_14_method_17_code
def yX12_name : MethodName := ⟨RX12, "name", "()J"⟩
abbrev cX12_isAllowed : ByteArray := prog_14_method_18_code
def yX12_isAllowed : MethodName := ⟨RX12, "isAllowed", "(I)Z"⟩
abbrev cX12_newName : ByteArray := prog_14_method_19_code
def yX12_newName : MethodName := ⟨RX12, "newName", "()J"⟩
abbrev cX12_villageTold : ByteArray := prog_14_method_20_code
def yX12_villageTold : MethodName := ⟨RX12, "villageTold", "()V"⟩
abbrev cX12_personTold : ByteArray := prog_14_method_21_code
def yX12_personTold : MethodName := ⟨RX12, "personTold", "(I)V"⟩
abbrev cX12_isTest : ByteArray := prog_14_method_22_code
def yX12_isTest : MethodName := ⟨RX12, "isTest", "(I)Z"⟩
abbrev cX12_codesTold : ByteArray := prog_14_method_23_code
def yX12_codesTold : MethodName := ⟨RX12, "codesTold", "(II)V"⟩
abbrev cX12_statementTold : ByteArray := prog_14_method_24_code
def yX12_statementTold : MethodName := ⟨RX12, "statementTold", "()V"⟩
abbrev cX12_treaty : ByteArray := prog_14_method_25_code
def yX12_treaty : MethodName := ⟨RX12, "treaty", "()I"⟩
abbrev cX12_stands : ByteArray := prog_14_method_26_code
def yX12_stands : MethodName := ⟨RX12, "stands", "()V"⟩
abbrev cX12_fault : ByteArray := prog_14_method_27_code
def yX12_fault : MethodName := ⟨RX12, "fault", "(I)I"⟩
abbrev cX12_personMany : ByteArray := prog_14_method_28_code
def yX12_personMany : MethodName := ⟨RX12, "personMany", "()I"⟩
abbrev cX12_isVillage : ByteArray := prog_14_method_29_code
def yX12_isVillage : MethodName := ⟨RX12, "isVillage", "(J)Z"⟩
abbrev cX12_isPerson : ByteArray := prog_14_method_30_code
def yX12_isPerson : MethodName := ⟨RX12, "isPerson", "(I)Z"⟩
abbrev cX12_homeOf : ByteArray := prog_14_method_31_code
def yX12_homeOf : MethodName := ⟨RX12, "homeOf", "(I)I"⟩
abbrev cX12_witsOf : ByteArray := prog_14_method_32_code
def yX12_witsOf : MethodName := ⟨RX12, "witsOf", "(I)I"⟩
abbrev cX12_isAway : ByteArray := prog_14_method_33_code
def yX12_isAway : MethodName := ⟨RX12, "isAway", "(I)Z"⟩
abbrev cX12_awayOf : ByteArray := prog_14_method_34_code
def yX12_awayOf : MethodName := ⟨RX12, "awayOf", "(I)I"⟩
abbrev cX12_livesIn : ByteArray := prog_14_method_35_code
def yX12_livesIn : MethodName := ⟨RX12, "livesIn", "(I)I"⟩
abbrev cX12_liversOf : ByteArray := prog_14_method_36_code
def yX12_liversOf : MethodName := ⟨RX12, "liversOf", "(I)I"⟩
abbrev cX12_guestsOf : ByteArray := prog_14_method_37_code
def yX12_guestsOf : MethodName := ⟨RX12, "guestsOf", "(I)I"⟩
abbrev cX12_isOwnIn : ByteArray := prog_14_method_38_code
def yX12_isOwnIn : MethodName := ⟨RX12, "isOwnIn", "(II)Z"⟩
abbrev cX12_codesTell : ByteArray := prog_14_method_39_code
def yX12_codesTell : MethodName := ⟨RX12, "codesTell", "(III)J"⟩
abbrev cX12_isTold : ByteArray := prog_14_method_40_code
def yX12_isTold : MethodName := ⟨RX12, "isTold", "(I)Z"⟩
abbrev cX12_sendsOf : ByteArray := prog_14_method_41_code
def yX12_sendsOf : MethodName := ⟨RX12, "sendsOf", "(I)J"⟩
abbrev cX12_doesPass : ByteArray := prog_14_method_42_code
def yX12_doesPass : MethodName := ⟨RX12, "doesPass", "(I)Z"⟩
abbrev cX12_doesIn : ByteArray := prog_14_method_43_code
def yX12_doesIn : MethodName := ⟨RX12, "doesIn", "(II)J"⟩
abbrev cX12_doesStay : ByteArray := prog_14_method_44_code
def yX12_doesStay : MethodName := ⟨RX12, "doesStay", "(I)Z"⟩
abbrev cX12_sentOf : ByteArray := prog_14_method_45_code
def yX12_sentOf : MethodName := ⟨RX12, "sentOf", "(I)I"⟩
abbrev cX12_isKept : ByteArray := prog_14_method_46_code
def yX12_isKept : MethodName := ⟨RX12, "isKept", "(II)V"⟩
abbrev cX12_goesAway : ByteArray := prog_14_method_47_code
def yX12_goesAway : MethodName := ⟨RX12, "goesAway", "(I)V"⟩
abbrev cX12_comesHome : ByteArray := prog_14_method_48_code
def yX12_comesHome : MethodName := ⟨RX12, "comesHome", "(I)V"⟩
abbrev cX12_summer : ByteArray := prog_14_method_49_code
def yX12_summer : MethodName := ⟨RX12, "summer", "()V"⟩
abbrev cX12_autumn : ByteArray := prog_14_method_50_code
def yX12_autumn : MethodName := ⟨RX12, "autumn", "()V"⟩
abbrev cX12_yearWith : ByteArray := prog_14_method_51_code
def yX12_yearWith : MethodName := ⟨RX12, "yearWith", "(IIZ)V"⟩
abbrev cX12_yearGoes : ByteArray := prog_14_method_52_code
def yX12_yearGoes : MethodName := ⟨RX12, "yearGoes", "()V"⟩
abbrev cX12_yearsGo : ByteArray := prog_14_method_53_code
def yX12_yearsGo : MethodName := ⟨RX12, "yearsGo", "(I)V"⟩
abbrev cX12_putsAside : ByteArray := prog_14_method_54_code
def yX12_putsAside : MethodName := ⟨RX12, "putsAside", "()V"⟩
abbrev cX12_triesAnew : ByteArray := prog_14_method_55_code
def yX12_triesAnew : MethodName := ⟨RX12, "triesAnew", "()V"⟩
abbrev cX12_takesBack : ByteArray := prog_14_method_56_code
def yX12_takesBack : MethodName := ⟨RX12, "takesBack", "()V"⟩
abbrev cX12_isAhead : ByteArray := prog_14_method_57_code
def yX12_isAhead : MethodName := ⟨RX12, "isAhead", "(III)Z"⟩
abbrev cX12_awayMany : ByteArray := prog_14_method_58_code
def yX12_awayMany : MethodName := ⟨RX12, "awayMany", "()I"⟩
abbrev cX12_passMany : ByteArray := prog_14_method_59_code
def yX12_passMany : MethodName := ⟨RX12, "passMany", "()I"⟩
abbrev cX12_has : ByteArray := prog_14_method_60_code
def yX12_has : MethodName := ⟨RX12, "has", "(I)I"⟩
abbrev cX12_letter : ByteArray := prog_14_method_61_code
def yX12_letter : MethodName := ⟨RX12, "letter", "(III)I"⟩
abbrev cX12_village : ByteArray := prog_14_method_62_code
def yX12_village : MethodName := ⟨RX12, "village", "(II)I"⟩
abbrev cX12_person : ByteArray := prog_14_method_63_code
def yX12_person : MethodName := ⟨RX12, "person", "(II)I"⟩
abbrev cX12_does : ByteArray := prog_14_method_64_code
def yX12_does : MethodName := ⟨RX12, "does", "(II)J"⟩
abbrev cX12_kept : ByteArray := prog_14_method_65_code
def yX12_kept : MethodName := ⟨RX12, "kept", "(II)I"⟩
abbrev cX12_later : ByteArray := prog_14_method_66_code
def yX12_later : MethodName := ⟨RX12, "later", "(III)I"⟩
abbrev cX12_lives : ByteArray := prog_14_method_67_code
def yX12_lives : MethodName := ⟨RX12, "lives", "(II)I"⟩
abbrev cX12_isShort : ByteArray := prog_14_method_68_code
def yX12_isShort : MethodName := ⟨RX12, "isShort", "(I)Z"⟩
abbrev cX12_shortage : ByteArray := prog_14_method_69_code
def yX12_shortage : MethodName := ⟨RX12, "shortage", "(I)I"⟩
abbrev cX12_laysHarvests : ByteArray := prog_14_method_70_code
def yX12_laysHarvests : MethodName := ⟨RX12, "laysHarvests", "()V"⟩
abbrev cX12_gainOf : ByteArray := prog_14_method_71_code
def yX12_gainOf : MethodName := ⟨RX12, "gainOf", "(III)I"⟩
abbrev cX12_gain : ByteArray := prog_14_method_72_code
def yX12_gain : MethodName := ⟨RX12, "gain", "(III)J"⟩
abbrev cX12_bargain : ByteArray := prog_14_method_73_code
def yX12_bargain : MethodName := ⟨RX12, "bargain", "(I)I"⟩
abbrev cX12_isRest : ByteArray := prog_14_method_74_code
def yX12_isRest : MethodName := ⟨RX12, "isRest", "(II)Z"⟩
abbrev cX12_rest : ByteArray := prog_14_method_75_code
def yX12_rest : MethodName := ⟨RX12, "rest", "(I)I"⟩
abbrev cX12_laysYes : ByteArray := prog_14_method_76_code
def yX12_laysYes : MethodName := ⟨RX12, "laysYes", "()V"⟩
abbrev cX12_doTell : ByteArray := prog_14_method_77_code
def yX12_doTell : MethodName := ⟨RX12, "doTell", "(III)Z"⟩
abbrev cX12_examMany : ByteArray := prog_14_method_78_code
def yX12_examMany : MethodName := ⟨RX12, "examMany", "()I"⟩
abbrev cX12_exam : ByteArray := prog_14_method_79_code
def yX12_exam : MethodName := ⟨RX12, "exam", "(I)I"⟩
abbrev cX12_isSentWith : ByteArray := prog_14_method_80_code
def yX12_isSentWith : MethodName := ⟨RX12, "isSentWith", "(II)Z"⟩
abbrev cX12_feign : ByteArray := prog_14_method_81_code
def yX12_feign : MethodName := ⟨RX12, "feign", "(I)I"⟩
abbrev cX12_worth : ByteArray := prog_14_method_82_code
def yX12_worth : MethodName := ⟨RX12, "worth", "(II)J"⟩
abbrev cX12_refuses : ByteArray := prog_14_method_83_code
def yX12_refuses : MethodName := ⟨RX12, "refuses", "(I)I"⟩
abbrev cX12_twoAt : ByteArray := prog_14_method_84_code
def yX12_twoAt : MethodName := ⟨RX12, "twoAt", "(I)I"⟩
abbrev cX12_see : ByteArray := prog_14_method_85_code
def yX12_see : MethodName := ⟨RX12, "see", "()I"⟩
abbrev cX12_isAsSeen : ByteArray := prog_14_method_86_code
def yX12_isAsSeen : MethodName := ⟨RX12, "isAsSeen", "(I)Z"⟩
abbrev cX12_laysFits : ByteArray := prog_14_method_87_code
def yX12_laysFits : MethodName := ⟨RX12, "laysFits", "(I)V"⟩
abbrev cX12_wits : ByteArray := prog_14_method_88_code
def yX12_wits : MethodName := ⟨RX12, "wits", "(I)I"⟩
abbrev cX12_mostAlike : ByteArray := prog_14_method_89_code
def yX12_mostAlike : MethodName := ⟨RX12, "mostAlike", "(I)I"⟩
abbrev cX12_tells : ByteArray := prog_14_method_90_code
def yX12_tells : MethodName := ⟨RX12, "tells", "(II)I"⟩
abbrev cX12_keeps : ByteArray := prog_14_method_91_code
def yX12_keeps : MethodName := ⟨RX12, "keeps", "()V"⟩
abbrev cX12_undo : ByteArray := prog_14_method_92_code
def yX12_undo : MethodName := ⟨RX12, "undo", "()Z"⟩
abbrev cX12_isRefused : ByteArray := prog_14_method_93_code
def yX12_isRefused : MethodName := ⟨RX12, "isRefused", "()Z"⟩
abbrev cX12_teach : ByteArray := prog_14_method_94_code
def yX12_teach : MethodName := ⟨RX12, "teach", "(II)Z"⟩
abbrev cX12_bring : ByteArray := prog_14_method_95_code
def yX12_bring : MethodName := ⟨RX12, "bring", "(I)I"⟩
abbrev cX12_calm : ByteArray := prog_14_method_96_code
def yX12_calm : MethodName := ⟨RX12, "calm", "(I)Z"⟩
abbrev cX12_years : ByteArray := prog_14_method_97_code
def yX12_years : MethodName := ⟨RX12, "years", "(I)I"⟩
abbrev cX12_seed : ByteArray := prog_14_method_98_code
def yX12_seed : MethodName := ⟨RX12, "seed", "(I)Z"⟩
abbrev cX12_drawOf : ByteArray := prog_14_method_99_code
def yX12_drawOf : MethodName := ⟨RX12, "drawOf", "(I)I"⟩
abbrev cX12_chance : ByteArray := prog_14_method_100_code
def yX12_chance : MethodName := ⟨RX12, "chance", "(I)I"⟩
abbrev cX12_qCode : ByteArray := prog_14_method_101_code
def yX12_qCode : MethodName := ⟨RX12, "qCode", "(I)V"⟩
abbrev cX12_qOpens : ByteArray := prog_14_method_102_code
def yX12_qOpens : MethodName := ⟨RX12, "qOpens", "(II)V"⟩
abbrev cX12_qIsOn : ByteArray := prog_14_method_103_code
def yX12_qIsOn : MethodName := ⟨RX12, "qIsOn", "(I)Z"⟩
abbrev cX12_qDrops : ByteArray := prog_14_method_104_code
def yX12_qDrops : MethodName := ⟨RX12, "qDrops", "()V"⟩
abbrev cX12_qIsBracket : ByteArray := prog_14_method_105_code
def yX12_qIsBracket : MethodName := ⟨RX12, "qIsBracket", "(I)Z"⟩
abbrev cX12_qBracket : ByteArray := prog_14_method_106_code
def yX12_qBracket : MethodName := ⟨RX12, "qBracket", "()I"⟩
abbrev cX12_qDropsToBracket : ByteArray := prog_14_method_107_code
def yX12_qDropsToBracket : MethodName := ⟨RX12, "qDropsToBracket", "()V"⟩
abbrev cX12_qWordHere : ByteArray := prog_14_method_108_code
def yX12_qWordHere : MethodName := ⟨RX12, "qWordHere", "()I"⟩
abbrev cX12_qWordOf : ByteArray := prog_14_method_109_code
def yX12_qWordOf : MethodName := ⟨RX12, "qWordOf", "(II)I"⟩
abbrev cX12_qAsksWord : ByteArray := prog_14_method_110_code
def yX12_qAsksWord : MethodName := ⟨RX12, "qAsksWord", "(I)V"⟩
abbrev cX12_qEndsPart : ByteArray := prog_14_method_111_code
def yX12_qEndsPart : MethodName := ⟨RX12, "qEndsPart", "()V"⟩
abbrev cX12_qPartTold : ByteArray := prog_14_method_112_code
def yX12_qPartTold : MethodName := ⟨RX12, "qPartTold", "()V"⟩
abbrev cX12_qGoesOn : ByteArray := prog_14_method_113_code
def yX12_qGoesOn : MethodName := ⟨RX12, "qGoesOn", "()Z"⟩
abbrev cX12_qSums : ByteArray := prog_14_method_114_code
def yX12_qSums : MethodName := ⟨RX12, "qSums", "()V"⟩
abbrev cX12_qFact : ByteArray := prog_14_method_115_code
def yX12_qFact : MethodName := ⟨RX12, "qFact", "()V"⟩
abbrev cX12_qHasSquare : ByteArray := prog_14_method_116_code
def yX12_qHasSquare : MethodName := ⟨RX12, "qHasSquare", "()Z"⟩
abbrev cX12_qDropsNots : ByteArray := prog_14_method_117_code
def yX12_qDropsNots : MethodName := ⟨RX12, "qDropsNots", "()V"⟩
abbrev cX12_qTest : ByteArray := prog_14_method_118_code
def yX12_qTest : MethodName := ⟨RX12, "qTest", "()V"⟩
abbrev cX12_qGoesOnTest : ByteArray := prog_14_method_119_code
def yX12_qGoesOnTest : MethodName := ⟨RX12, "qGoesOnTest", "()Z"⟩
abbrev cX12_qClip : ByteArray := prog_14_method_120_code
def yX12_qClip : MethodName := ⟨RX12, "qClip", "(J)J"⟩
abbrev cX12_qFloor : ByteArray := prog_14_method_121_code
def yX12_qFloor : MethodName := ⟨RX12, "qFloor", "(JJ)J"⟩
abbrev cX12_qPuts : ByteArray := prog_14_method_122_code
def yX12_qPuts : MethodName := ⟨RX12, "qPuts", "(J)V"⟩
abbrev cX12_qJoins : ByteArray := prog_14_method_123_code
def yX12_qJoins : MethodName := ⟨RX12, "qJoins", "(I)V"⟩
abbrev cX12_qPartOf : ByteArray := prog_14_method_124_code
def yX12_qPartOf : MethodName := ⟨RX12, "qPartOf", "(II)J"⟩
abbrev cX12_qOf : ByteArray := prog_14_method_125_code
def yX12_qOf : MethodName := ⟨RX12, "qOf", "(IJI)J"⟩
abbrev cX12_qTold : ByteArray := prog_14_method_126_code
def yX12_qTold : MethodName := ⟨RX12, "qTold", "(I)J"⟩
abbrev cX12_qKind : ByteArray := prog_14_method_127_code
def yX12_qKind : MethodName := ⟨RX12, "qKind", "()I"⟩
abbrev cX12_qTakes : ByteArray := prog_14_method_128_code
def yX12_qTakes : MethodName := ⟨RX12, "qTakes", "(IJI)V"⟩
abbrev cX12_ask : ByteArray := prog_14_method_129_code
def yX12_ask : MethodName := ⟨RX12, "ask", "()J"⟩
abbrev cX12_checked : ByteArray := prog_14_method_130_code
def yX12_checked : MethodName := ⟨RX12, "checked", "([II)I"⟩
abbrev cX12_writes : ByteArray := prog_14_method_131_code
def yX12_writes : MethodName := ⟨RX12, "writes", "(I)V"⟩
abbrev cX12_writesTwo : ByteArray := prog_14_method_132_code
def yX12_writesTwo : MethodName := ⟨RX12, "writesTwo", "(I)V"⟩
abbrev cX12_image : ByteArray := prog_14_method_133_code
def yX12_image : MethodName := ⟨RX12, "image", "()I"⟩
abbrev cX12_octet : ByteArray := prog_14_method_134_code
def yX12_octet : MethodName := ⟨RX12, "octet", "(I)I"⟩
abbrev cX12_isImage : ByteArray := prog_14_method_135_code
def yX12_isImage : MethodName := ⟨RX12, "isImage", "(I)Z"⟩
abbrev cX12_on : ByteArray := prog_14_method_136_code
def yX12_on : MethodName := ⟨RX12, "on", "()Z"⟩
abbrev cX12_status : ByteArray := prog_14_method_137_code
def yX12_status : MethodName := ⟨RX12, "status", "(I)I"⟩
def RJ9 : String := "java/lang/Math"
def TJ9 : u_T := fun k => match k with
  | _ => ("", "", "", false)
def tyJ9 : Nat → FieldType := fun k => match k with
  | _ => .int
abbrev wsJ90 : List Cond := u_ws RJ9 TJ9 0
theorem nmJ9 : ∀ a, a < 0 → ∀ b, b < 0 → a ≠ b → (TJ9 a).2.1 ≠ (TJ9 b).2.1 := by decide +kernel
theorem tyJ9_ok : ∀ k, k < 0 → parseFieldDescriptor (TJ9 k).2.2.1 = some (tyJ9 k) := by decide +kernel
abbrev cJ9_floorDiv_7cf53 : ByteArray := prog_15_method_47_code
def yJ9_floorDiv_7cf53 : MethodName := ⟨RJ9, "floorDiv", "(II)I"⟩
abbrev cJ9_max_7cf53 : ByteArray := prog_15_method_65_code
def yJ9_max_7cf53 : MethodName := ⟨RJ9, "max", "(II)I"⟩
abbrev cJ9_max_f86c9 : ByteArray := prog_15_method_66_code
def yJ9_max_f86c9 : MethodName := ⟨RJ9, "max", "(JJ)J"⟩
abbrev cJ9_min_7cf53 : ByteArray := prog_15_method_69_code
def yJ9_min_7cf53 : MethodName := ⟨RJ9, "min", "(II)I"⟩
abbrev cJ9_min_f86c9 : ByteArray := prog_15_method_70_code
def yJ9_min_f86c9 : MethodName := ⟨RJ9, "min", "(JJ)J"⟩
def RJ0 : String := "java/lang/String"
def TJ0 : u_T := fun k => match k with
  | _ => ("", "", "", false)
def tyJ0 : Nat → FieldType := fun k => match k with
  | _ => .int
abbrev wsJ00 : List Cond := u_ws RJ0 TJ0 0
theorem nmJ0 : ∀ a, a < 0 → ∀ b, b < 0 → a ≠ b → (TJ0 a).2.1 ≠ (TJ0 b).2.1 := by decide +kernel
theorem tyJ0_ok : ∀ k, k < 0 → parseFieldDescriptor (TJ0 k).2.2.1 = some (tyJ0 k) := by decide +kernel
abbrev cJ0_length_8abf5 : ByteArray := prog_16_method_54_code
def yJ0_length_8abf5 : MethodName := ⟨RJ0, "length", "()I"⟩
abbrev cJ0_charAt_5068e : ByteArray := prog_16_method_56_code
def yJ0_charAt_5068e : MethodName := ⟨RJ0, "charAt", "(I)C"⟩
abbrev cJ0_coder_7d493 : ByteArray := prog_16_method_152_code
def yJ0_coder_7d493 : MethodName := ⟨RJ0, "coder", "()B"⟩
abbrev cJ0_isLatin1_aae02 : ByteArray := prog_16_method_154_code
def yJ0_isLatin1_aae02 : MethodName := ⟨RJ0, "isLatin1", "()Z"⟩
abbrev cJ0_checkIndex_df160 : ByteArray := prog_16_method_155_code
def yJ0_checkIndex_df160 : MethodName := ⟨RJ0, "checkIndex", "(II)V"⟩
def RJ1 : String := "java/lang/StringLatin1"
def TJ1 : u_T := fun k => match k with
  | _ => ("", "", "", false)
def tyJ1 : Nat → FieldType := fun k => match k with
  | _ => .int
abbrev wsJ10 : List Cond := u_ws RJ1 TJ1 0
theorem nmJ1 : ∀ a, a < 0 → ∀ b, b < 0 → a ≠ b → (TJ1 a).2.1 ≠ (TJ1 b).2.1 := by decide +kernel
theorem tyJ1_ok : ∀ k, k < 0 → parseFieldDescriptor (TJ1 k).2.2.1 = some (tyJ1 k) := by decide +kernel
abbrev cJ1_charAt_3b067 : ByteArray := prog_17_method_2_code
def yJ1_charAt_3b067 : MethodName := ⟨RJ1, "charAt", "([BI)C"⟩
def RJ2 : String := "java/lang/StringUTF16"
def TJ2 : u_T := fun k => match k with
  | _ => ("", "", "", false)
def tyJ2 : Nat → FieldType := fun k => match k with
  | _ => .int
abbrev wsJ20 : List Cond := u_ws RJ2 TJ2 0
theorem nmJ2 : ∀ a, a < 0 → ∀ b, b < 0 → a ≠ b → (TJ2 a).2.1 ≠ (TJ2 b).2.1 := by decide +kernel
theorem tyJ2_ok : ∀ k, k < 0 → parseFieldDescriptor (TJ2 k).2.2.1 = some (tyJ2 k) := by decide +kernel
abbrev cJ2_getChar_3b067 : ByteArray := prog_18_method_5_code
def yJ2_getChar_3b067 : MethodName := ⟨RJ2, "getChar", "([BI)C"⟩
abbrev cJ2_length_9d52b : ByteArray := prog_18_method_6_code
def yJ2_length_9d52b : MethodName := ⟨RJ2, "length", "([B)I"⟩
abbrev cJ2_charAt_3b067 : ByteArray := prog_18_method_83_code
def yJ2_charAt_3b067 : MethodName := ⟨RJ2, "charAt", "([BI)C"⟩
abbrev cJ2_checkIndex_2214a : ByteArray := prog_18_method_91_code
def yJ2_checkIndex_2214a : MethodName := ⟨RJ2, "checkIndex", "(I[B)V"⟩
def RJ10 : String := "java/lang/System"
def TJ10 : u_T := fun k => match k with
  | _ => ("", "", "", false)
def tyJ10 : Nat → FieldType := fun k => match k with
  | _ => .int
abbrev wsJ100 : List Cond := u_ws RJ10 TJ10 0
theorem nmJ10 : ∀ a, a < 0 → ∀ b, b < 0 → a ≠ b → (TJ10 a).2.1 ≠ (TJ10 b).2.1 := by decide +kernel
theorem tyJ10_ok : ∀ k, k < 0 → parseFieldDescriptor (TJ10 k).2.2.1 = some (tyJ10 k) := by decide +kernel
def RJ3 : String := "jdk/internal/util/Preconditions"
def TJ3 : u_T := fun k => match k with
  | _ => ("", "", "", false)
def tyJ3 : Nat → FieldType := fun k => match k with
  | _ => .int
abbrev wsJ30 : List Cond := u_ws RJ3 TJ3 0
theorem nmJ3 : ∀ a, a < 0 → ∀ b, b < 0 → a ≠ b → (TJ3 a).2.1 ≠ (TJ3 b).2.1 := by decide +kernel
theorem tyJ3_ok : ∀ k, k < 0 → parseFieldDescriptor (TJ3 k).2.2.1 = some (tyJ3 k) := by decide +kernel
abbrev cJ3_checkIndex_8e157 : ByteArray := prog_20_method_11_code
def yJ3_checkIndex_8e157 : MethodName := ⟨RJ3, "checkIndex", "(IILjava/util/function/BiFunction;)I"⟩
def RL : String := "FoolTradeLaw"
abbrev cL_law : ByteArray := code
def yL_law : MethodName := ⟨RL, "law", "([I)Z"⟩
abbrev vwCl : List vw_C := [(RX0, TX0, 3), (RX1, TX1, 6), (RX2, TX2, 5), (RX3, TX3, 6), (RX4, TX4, 6), (RX5, TX5, 3), (RX6, TX6, 6), (RX7, TX7, 2), (RX8, TX8, 9), (RX9, TX9, 15), (RX10, TX10, 7), (RX11, TX11, 20), (RX12, TX12, 112)]
/-- the tables' words that a callee may ask again -/
def fz_T : List Cond := lw_tbl.filter goodWord
theorem fz_in {w : Cond} (i : Nat) (h : lw_tbl[i]? = some w) (hg : goodWord w = true) : w ∈ fz_T := List.mem_filter.mpr ⟨List.mem_of_getElem? h, hg⟩
theorem fz_Tgood : GoodIn fz_T fz_T := fun w h => ⟨h, good_of_word (List.mem_filter.mp h).2⟩
