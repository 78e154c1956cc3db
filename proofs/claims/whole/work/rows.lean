section
-- ===== PART A: goes FIRST, ahead of the names: the tables' words, and 'selects' of the private methods out of them =====
/-- a private method of a class that the tables say can be made, by its rows of tables_1 -/
def lw_okq (q : MethodName × Nat) : Prop := (q.1.cls ≠ "java/lang/invoke/MethodHandle" ∧ q.1.cls ≠ "java/lang/invoke/VarHandle") ∧ Cond.instantiable q.1.cls q.2 ∈ tables_1 ∧ Cond.privateMethod q.1 ∈ tables_1 ∧ Cond.instanceMethod q.1 ∈ tables_1
theorem lw_p0 : lw_okq (⟨"ArchiveDesk", "isOnTape", "(I)Z"⟩, 5) := ⟨⟨by decide +kernel, by decide +kernel⟩, List.mem_of_getElem? (i := 16) (by decide +kernel), List.mem_of_getElem? (i := 345) (by decide +kernel), List.mem_of_getElem? (i := 346) (by decide +kernel)⟩
theorem lw_p1 : lw_okq (⟨"ArchiveDesk$Unpacker", "wantsMore", "()Z"⟩, 7) := ⟨⟨by decide +kernel, by decide +kernel⟩, List.mem_of_getElem? (i := 101) (by decide +kernel), List.mem_of_getElem? (i := 366) (by decide +kernel), List.mem_of_getElem? (i := 367) (by decide +kernel)⟩
theorem lw_p2 : lw_okq (⟨"ArchiveDesk$Unpacker", "unpackBlock", "()I"⟩, 7) := ⟨⟨by decide +kernel, by decide +kernel⟩, List.mem_of_getElem? (i := 101) (by decide +kernel), List.mem_of_getElem? (i := 371) (by decide +kernel), List.mem_of_getElem? (i := 372) (by decide +kernel)⟩
theorem lw_p3 : lw_okq (⟨"ArchiveDesk$Unpacker", "takeTree", "(II)I"⟩, 7) := ⟨⟨by decide +kernel, by decide +kernel⟩, List.mem_of_getElem? (i := 101) (by decide +kernel), List.mem_of_getElem? (i := 390) (by decide +kernel), List.mem_of_getElem? (i := 391) (by decide +kernel)⟩
theorem lw_p4 : lw_okq (⟨"ArchiveDesk$Unpacker", "takeAlone", "(LArchiveDesk$Tree;I)I"⟩, 7) := ⟨⟨by decide +kernel, by decide +kernel⟩, List.mem_of_getElem? (i := 101) (by decide +kernel), List.mem_of_getElem? (i := 398) (by decide +kernel), List.mem_of_getElem? (i := 399) (by decide +kernel)⟩
theorem lw_p5 : lw_okq (⟨"ArchiveDesk$Unpacker", "takeLengthsByT", "(I)I"⟩, 7) := ⟨⟨by decide +kernel, by decide +kernel⟩, List.mem_of_getElem? (i := 101) (by decide +kernel), List.mem_of_getElem? (i := 410) (by decide +kernel), List.mem_of_getElem? (i := 411) (by decide +kernel)⟩
theorem lw_p6 : lw_okq (⟨"ArchiveDesk$Unpacker", "takeLengths", "(LArchiveDesk$Tree;IZ)I"⟩, 7) := ⟨⟨by decide +kernel, by decide +kernel⟩, List.mem_of_getElem? (i := 101) (by decide +kernel), List.mem_of_getElem? (i := 442) (by decide +kernel), List.mem_of_getElem? (i := 443) (by decide +kernel)⟩
theorem lw_p7 : lw_okq (⟨"ArchiveDesk$Tree", "number", "()V"⟩, 8) := ⟨⟨by decide +kernel, by decide +kernel⟩, List.mem_of_getElem? (i := 45) (by decide +kernel), List.mem_of_getElem? (i := 455) (by decide +kernel), List.mem_of_getElem? (i := 456) (by decide +kernel)⟩
theorem lw_p8 : lw_okq (⟨"ArchiveDesk$Unpacker", "unpackCode", "()I"⟩, 7) := ⟨⟨by decide +kernel, by decide +kernel⟩, List.mem_of_getElem? (i := 101) (by decide +kernel), List.mem_of_getElem? (i := 459) (by decide +kernel), List.mem_of_getElem? (i := 460) (by decide +kernel)⟩
theorem lw_p9 : lw_okq (⟨"ArchiveDesk$Unpacker", "copy", "(II)I"⟩, 7) := ⟨⟨by decide +kernel, by decide +kernel⟩, List.mem_of_getElem? (i := 101) (by decide +kernel), List.mem_of_getElem? (i := 473) (by decide +kernel), List.mem_of_getElem? (i := 474) (by decide +kernel)⟩
theorem lw_p10 : lw_okq (⟨"ArchiveDesk$CopyFinder", "chainOf", "(I)I"⟩, 6) := ⟨⟨by decide +kernel, by decide +kernel⟩, List.mem_of_getElem? (i := 168) (by decide +kernel), List.mem_of_getElem? (i := 510) (by decide +kernel), List.mem_of_getElem? (i := 511) (by decide +kernel)⟩
theorem lw_p11 : lw_okq (⟨"ArchiveDesk$Packer", "gatherCodes", "(II)I"⟩, 14) := ⟨⟨by decide +kernel, by decide +kernel⟩, List.mem_of_getElem? (i := 149) (by decide +kernel), List.mem_of_getElem? (i := 516) (by decide +kernel), List.mem_of_getElem? (i := 517) (by decide +kernel)⟩
theorem lw_p12 : lw_okq (⟨"ArchiveDesk$CopyFinder", "sameBytes", "(III)I"⟩, 6) := ⟨⟨by decide +kernel, by decide +kernel⟩, List.mem_of_getElem? (i := 168) (by decide +kernel), List.mem_of_getElem? (i := 524) (by decide +kernel), List.mem_of_getElem? (i := 525) (by decide +kernel)⟩
theorem lw_p13 : lw_okq (⟨"ArchiveDesk$Merger", "sortLeaves", "(LArchiveDesk$Tree;)V"⟩, 8) := ⟨⟨by decide +kernel, by decide +kernel⟩, List.mem_of_getElem? (i := 193) (by decide +kernel), List.mem_of_getElem? (i := 550) (by decide +kernel), List.mem_of_getElem? (i := 551) (by decide +kernel)⟩
theorem lw_p14 : lw_okq (⟨"ArchiveDesk$Merger", "insertLeaf", "(I)V"⟩, 8) := ⟨⟨by decide +kernel, by decide +kernel⟩, List.mem_of_getElem? (i := 193) (by decide +kernel), List.mem_of_getElem? (i := 559) (by decide +kernel), List.mem_of_getElem? (i := 560) (by decide +kernel)⟩
theorem lw_p15 : lw_okq (⟨"ArchiveDesk$Merger", "merge", "(I)V"⟩, 8) := ⟨⟨by decide +kernel, by decide +kernel⟩, List.mem_of_getElem? (i := 193) (by decide +kernel), List.mem_of_getElem? (i := 564) (by decide +kernel), List.mem_of_getElem? (i := 565) (by decide +kernel)⟩
def lw_privs_1 : List (MethodName × Nat) := [(⟨"ArchiveDesk", "isOnTape", "(I)Z"⟩, 5), (⟨"ArchiveDesk$Unpacker", "wantsMore", "()Z"⟩, 7), (⟨"ArchiveDesk$Unpacker", "unpackBlock", "()I"⟩, 7), (⟨"ArchiveDesk$Unpacker", "takeTree", "(II)I"⟩, 7), (⟨"ArchiveDesk$Unpacker", "takeAlone", "(LArchiveDesk$Tree;I)I"⟩, 7), (⟨"ArchiveDesk$Unpacker", "takeLengthsByT", "(I)I"⟩, 7), (⟨"ArchiveDesk$Unpacker", "takeLengths", "(LArchiveDesk$Tree;IZ)I"⟩, 7), (⟨"ArchiveDesk$Tree", "number", "()V"⟩, 8), (⟨"ArchiveDesk$Unpacker", "unpackCode", "()I"⟩, 7), (⟨"ArchiveDesk$Unpacker", "copy", "(II)I"⟩, 7), (⟨"ArchiveDesk$CopyFinder", "chainOf", "(I)I"⟩, 6), (⟨"ArchiveDesk$Packer", "gatherCodes", "(II)I"⟩, 14), (⟨"ArchiveDesk$CopyFinder", "sameBytes", "(III)I"⟩, 6), (⟨"ArchiveDesk$Merger", "sortLeaves", "(LArchiveDesk$Tree;)V"⟩, 8), (⟨"ArchiveDesk$Merger", "insertLeaf", "(I)V"⟩, 8), (⟨"ArchiveDesk$Merger", "merge", "(I)V"⟩, 8)]
theorem lw_r1 : ∀ q ∈ lw_privs_1, lw_okq q := List.forall_mem_cons.mpr ⟨lw_p0, List.forall_mem_cons.mpr ⟨lw_p1, List.forall_mem_cons.mpr ⟨lw_p2, List.forall_mem_cons.mpr ⟨lw_p3, List.forall_mem_cons.mpr ⟨lw_p4, List.forall_mem_cons.mpr ⟨lw_p5, List.forall_mem_cons.mpr ⟨lw_p6, List.forall_mem_cons.mpr ⟨lw_p7, List.forall_mem_cons.mpr ⟨lw_p8, List.forall_mem_cons.mpr ⟨lw_p9, List.forall_mem_cons.mpr ⟨lw_p10, List.forall_mem_cons.mpr ⟨lw_p11, List.forall_mem_cons.mpr ⟨lw_p12, List.forall_mem_cons.mpr ⟨lw_p13, List.forall_mem_cons.mpr ⟨lw_p14, List.forall_mem_cons.mpr ⟨lw_p15, fun _ h => absurd h List.not_mem_nil⟩⟩⟩⟩⟩⟩⟩⟩⟩⟩⟩⟩⟩⟩⟩⟩
theorem lw_p16 : lw_okq (⟨"ArchiveDesk$Merger", "takeLeast", "()I"⟩, 8) := ⟨⟨by decide +kernel, by decide +kernel⟩, List.mem_of_getElem? (i := 193) (by decide +kernel), List.mem_of_getElem? (i := 568) (by decide +kernel), List.mem_of_getElem? (i := 569) (by decide +kernel)⟩
theorem lw_p17 : lw_okq (⟨"ArchiveDesk$Merger", "measure", "(LArchiveDesk$Tree;)V"⟩, 8) := ⟨⟨by decide +kernel, by decide +kernel⟩, List.mem_of_getElem? (i := 193) (by decide +kernel), List.mem_of_getElem? (i := 572) (by decide +kernel), List.mem_of_getElem? (i := 573) (by decide +kernel)⟩
theorem lw_p18 : lw_okq (⟨"ArchiveDesk$Packer", "gatherTellers", "()V"⟩, 14) := ⟨⟨by decide +kernel, by decide +kernel⟩, List.mem_of_getElem? (i := 149) (by decide +kernel), List.mem_of_getElem? (i := 578) (by decide +kernel), List.mem_of_getElem? (i := 579) (by decide +kernel)⟩
theorem lw_p19 : lw_okq (⟨"ArchiveDesk$Packer", "addTeller", "(II)V"⟩, 14) := ⟨⟨by decide +kernel, by decide +kernel⟩, List.mem_of_getElem? (i := 149) (by decide +kernel), List.mem_of_getElem? (i := 595) (by decide +kernel), List.mem_of_getElem? (i := 596) (by decide +kernel)⟩
theorem lw_p20 : lw_okq (⟨"ArchiveDesk$Packer", "addZeros", "(I)V"⟩, 14) := ⟨⟨by decide +kernel, by decide +kernel⟩, List.mem_of_getElem? (i := 149) (by decide +kernel), List.mem_of_getElem? (i := 599) (by decide +kernel), List.mem_of_getElem? (i := 600) (by decide +kernel)⟩
theorem lw_p21 : lw_okq (⟨"ArchiveDesk$Packer", "packBlock", "()V"⟩, 14) := ⟨⟨by decide +kernel, by decide +kernel⟩, List.mem_of_getElem? (i := 149) (by decide +kernel), List.mem_of_getElem? (i := 603) (by decide +kernel), List.mem_of_getElem? (i := 604) (by decide +kernel)⟩
theorem lw_p22 : lw_okq (⟨"ArchiveDesk$Packer", "tellTree", "(LArchiveDesk$Tree;IZ)V"⟩, 14) := ⟨⟨by decide +kernel, by decide +kernel⟩, List.mem_of_getElem? (i := 149) (by decide +kernel), List.mem_of_getElem? (i := 616) (by decide +kernel), List.mem_of_getElem? (i := 617) (by decide +kernel)⟩
theorem lw_p23 : lw_okq (⟨"ArchiveDesk$Packer", "tellTreeC", "()V"⟩, 14) := ⟨⟨by decide +kernel, by decide +kernel⟩, List.mem_of_getElem? (i := 149) (by decide +kernel), List.mem_of_getElem? (i := 632) (by decide +kernel), List.mem_of_getElem? (i := 633) (by decide +kernel)⟩
theorem lw_p24 : lw_okq (⟨"ArchiveDesk$Packer", "packDistance", "(I)V"⟩, 14) := ⟨⟨by decide +kernel, by decide +kernel⟩, List.mem_of_getElem? (i := 149) (by decide +kernel), List.mem_of_getElem? (i := 647) (by decide +kernel), List.mem_of_getElem? (i := 648) (by decide +kernel)⟩
theorem lw_p25 : lw_okq (⟨"ArchiveDeskModel", "begin", "()V"⟩, 23) := ⟨⟨by decide +kernel, by decide +kernel⟩, List.mem_of_getElem? (i := 694) (by decide +kernel), List.mem_of_getElem? (i := 795) (by decide +kernel), List.mem_of_getElem? (i := 796) (by decide +kernel)⟩
theorem lw_p26 : lw_okq (⟨"ArchiveDeskModel", "clearTrees", "()V"⟩, 23) := ⟨⟨by decide +kernel, by decide +kernel⟩, List.mem_of_getElem? (i := 694) (by decide +kernel), List.mem_of_getElem? (i := 799) (by decide +kernel), List.mem_of_getElem? (i := 800) (by decide +kernel)⟩
theorem lw_p27 : lw_okq (⟨"ArchiveDeskModel", "take", "(I)I"⟩, 23) := ⟨⟨by decide +kernel, by decide +kernel⟩, List.mem_of_getElem? (i := 694) (by decide +kernel), List.mem_of_getElem? (i := 803) (by decide +kernel), List.mem_of_getElem? (i := 804) (by decide +kernel)⟩
theorem lw_p28 : lw_okq (⟨"ArchiveDeskModel", "fails", "(I)V"⟩, 23) := ⟨⟨by decide +kernel, by decide +kernel⟩, List.mem_of_getElem? (i := 694) (by decide +kernel), List.mem_of_getElem? (i := 807) (by decide +kernel), List.mem_of_getElem? (i := 808) (by decide +kernel)⟩
theorem lw_p29 : lw_okq (⟨"ArchiveDeskModel", "small", "(II)V"⟩, 23) := ⟨⟨by decide +kernel, by decide +kernel⟩, List.mem_of_getElem? (i := 694) (by decide +kernel), List.mem_of_getElem? (i := 811) (by decide +kernel), List.mem_of_getElem? (i := 812) (by decide +kernel)⟩
theorem lw_p30 : lw_okq (⟨"ArchiveDeskModel", "many", "(II)I"⟩, 23) := ⟨⟨by decide +kernel, by decide +kernel⟩, List.mem_of_getElem? (i := 694) (by decide +kernel), List.mem_of_getElem? (i := 815) (by decide +kernel), List.mem_of_getElem? (i := 816) (by decide +kernel)⟩
theorem lw_p31 : lw_okq (⟨"ArchiveDeskModel", "complete", "(I)V"⟩, 23) := ⟨⟨by decide +kernel, by decide +kernel⟩, List.mem_of_getElem? (i := 694) (by decide +kernel), List.mem_of_getElem? (i := 822) (by decide +kernel), List.mem_of_getElem? (i := 823) (by decide +kernel)⟩
def lw_privs_2 : List (MethodName × Nat) := [(⟨"ArchiveDesk$Merger", "takeLeast", "()I"⟩, 8), (⟨"ArchiveDesk$Merger", "measure", "(LArchiveDesk$Tree;)V"⟩, 8), (⟨"ArchiveDesk$Packer", "gatherTellers", "()V"⟩, 14), (⟨"ArchiveDesk$Packer", "addTeller", "(II)V"⟩, 14), (⟨"ArchiveDesk$Packer", "addZeros", "(I)V"⟩, 14), (⟨"ArchiveDesk$Packer", "packBlock", "()V"⟩, 14), (⟨"ArchiveDesk$Packer", "tellTree", "(LArchiveDesk$Tree;IZ)V"⟩, 14), (⟨"ArchiveDesk$Packer", "tellTreeC", "()V"⟩, 14), (⟨"ArchiveDesk$Packer", "packDistance", "(I)V"⟩, 14), (⟨"ArchiveDeskModel", "begin", "()V"⟩, 23), (⟨"ArchiveDeskModel", "clearTrees", "()V"⟩, 23), (⟨"ArchiveDeskModel", "take", "(I)I"⟩, 23), (⟨"ArchiveDeskModel", "fails", "(I)V"⟩, 23), (⟨"ArchiveDeskModel", "small", "(II)V"⟩, 23), (⟨"ArchiveDeskModel", "many", "(II)I"⟩, 23), (⟨"ArchiveDeskModel", "complete", "(I)V"⟩, 23)]
theorem lw_r2 : ∀ q ∈ lw_privs_2, lw_okq q := List.forall_mem_cons.mpr ⟨lw_p16, List.forall_mem_cons.mpr ⟨lw_p17, List.forall_mem_cons.mpr ⟨lw_p18, List.forall_mem_cons.mpr ⟨lw_p19, List.forall_mem_cons.mpr ⟨lw_p20, List.forall_mem_cons.mpr ⟨lw_p21, List.forall_mem_cons.mpr ⟨lw_p22, List.forall_mem_cons.mpr ⟨lw_p23, List.forall_mem_cons.mpr ⟨lw_p24, List.forall_mem_cons.mpr ⟨lw_p25, List.forall_mem_cons.mpr ⟨lw_p26, List.forall_mem_cons.mpr ⟨lw_p27, List.forall_mem_cons.mpr ⟨lw_p28, List.forall_mem_cons.mpr ⟨lw_p29, List.forall_mem_cons.mpr ⟨lw_p30, List.forall_mem_cons.mpr ⟨lw_p31, fun _ h => absurd h List.not_mem_nil⟩⟩⟩⟩⟩⟩⟩⟩⟩⟩⟩⟩⟩⟩⟩⟩
theorem lw_p32 : lw_okq (⟨"ArchiveDeskModel", "number", "(I)V"⟩, 23) := ⟨⟨by decide +kernel, by decide +kernel⟩, List.mem_of_getElem? (i := 694) (by decide +kernel), List.mem_of_getElem? (i := 827) (by decide +kernel), List.mem_of_getElem? (i := 828) (by decide +kernel)⟩
theorem lw_p33 : lw_okq (⟨"ArchiveDeskModel", "great", "()V"⟩, 23) := ⟨⟨by decide +kernel, by decide +kernel⟩, List.mem_of_getElem? (i := 694) (by decide +kernel), List.mem_of_getElem? (i := 831) (by decide +kernel), List.mem_of_getElem? (i := 832) (by decide +kernel)⟩
theorem lw_p34 : lw_okq (⟨"ArchiveDeskModel", "symbol", "(I)I"⟩, 23) := ⟨⟨by decide +kernel, by decide +kernel⟩, List.mem_of_getElem? (i := 694) (by decide +kernel), List.mem_of_getElem? (i := 835) (by decide +kernel), List.mem_of_getElem? (i := 836) (by decide +kernel)⟩
theorem lw_p35 : lw_okq (⟨"ArchiveDeskModel", "one", "(I)V"⟩, 23) := ⟨⟨by decide +kernel, by decide +kernel⟩, List.mem_of_getElem? (i := 694) (by decide +kernel), List.mem_of_getElem? (i := 839) (by decide +kernel), List.mem_of_getElem? (i := 840) (by decide +kernel)⟩
theorem lw_p36 : lw_okq (⟨"ArchiveDeskModel", "cut", "(I)I"⟩, 23) := ⟨⟨by decide +kernel, by decide +kernel⟩, List.mem_of_getElem? (i := 694) (by decide +kernel), List.mem_of_getElem? (i := 847) (by decide +kernel), List.mem_of_getElem? (i := 848) (by decide +kernel)⟩
theorem lw_p37 : lw_okq (⟨"ArchiveDeskModel", "same", "(III)I"⟩, 23) := ⟨⟨by decide +kernel, by decide +kernel⟩, List.mem_of_getElem? (i := 694) (by decide +kernel), List.mem_of_getElem? (i := 851) (by decide +kernel), List.mem_of_getElem? (i := 852) (by decide +kernel)⟩
theorem lw_p38 : lw_okq (⟨"ArchiveDeskModel", "block", "(II)V"⟩, 23) := ⟨⟨by decide +kernel, by decide +kernel⟩, List.mem_of_getElem? (i := 694) (by decide +kernel), List.mem_of_getElem? (i := 855) (by decide +kernel), List.mem_of_getElem? (i := 856) (by decide +kernel)⟩
theorem lw_p39 : lw_okq (⟨"ArchiveDeskModel", "clearTimes", "()V"⟩, 23) := ⟨⟨by decide +kernel, by decide +kernel⟩, List.mem_of_getElem? (i := 694) (by decide +kernel), List.mem_of_getElem? (i := 859) (by decide +kernel), List.mem_of_getElem? (i := 860) (by decide +kernel)⟩
theorem lw_p40 : lw_okq (⟨"ArchiveDeskModel", "merge", "(I)V"⟩, 23) := ⟨⟨by decide +kernel, by decide +kernel⟩, List.mem_of_getElem? (i := 694) (by decide +kernel), List.mem_of_getElem? (i := 863) (by decide +kernel), List.mem_of_getElem? (i := 864) (by decide +kernel)⟩
theorem lw_p41 : lw_okq (⟨"ArchiveDeskModel", "least", "(I)I"⟩, 23) := ⟨⟨by decide +kernel, by decide +kernel⟩, List.mem_of_getElem? (i := 694) (by decide +kernel), List.mem_of_getElem? (i := 867) (by decide +kernel), List.mem_of_getElem? (i := 868) (by decide +kernel)⟩
theorem lw_p42 : lw_okq (⟨"ArchiveDeskModel", "give", "(II)V"⟩, 23) := ⟨⟨by decide +kernel, by decide +kernel⟩, List.mem_of_getElem? (i := 694) (by decide +kernel), List.mem_of_getElem? (i := 874) (by decide +kernel), List.mem_of_getElem? (i := 875) (by decide +kernel)⟩
theorem lw_p43 : lw_okq (⟨"ArchiveDeskModel", "giveSmall", "(II)V"⟩, 23) := ⟨⟨by decide +kernel, by decide +kernel⟩, List.mem_of_getElem? (i := 694) (by decide +kernel), List.mem_of_getElem? (i := 878) (by decide +kernel), List.mem_of_getElem? (i := 879) (by decide +kernel)⟩
theorem lw_p44 : lw_okq (⟨"ArchiveDeskModel", "last", "(I)I"⟩, 23) := ⟨⟨by decide +kernel, by decide +kernel⟩, List.mem_of_getElem? (i := 694) (by decide +kernel), List.mem_of_getElem? (i := 882) (by decide +kernel), List.mem_of_getElem? (i := 883) (by decide +kernel)⟩
theorem lw_p45 : lw_okq (⟨"ArchiveDeskModel", "tellAll", "()V"⟩, 23) := ⟨⟨by decide +kernel, by decide +kernel⟩, List.mem_of_getElem? (i := 694) (by decide +kernel), List.mem_of_getElem? (i := 886) (by decide +kernel), List.mem_of_getElem? (i := 887) (by decide +kernel)⟩
theorem lw_p46 : lw_okq (⟨"ArchiveDeskModel", "tell", "(II)V"⟩, 23) := ⟨⟨by decide +kernel, by decide +kernel⟩, List.mem_of_getElem? (i := 694) (by decide +kernel), List.mem_of_getElem? (i := 890) (by decide +kernel), List.mem_of_getElem? (i := 891) (by decide +kernel)⟩
theorem lw_p47 : lw_okq (⟨"ArchiveDeskModel", "giveSymbol", "(II)V"⟩, 23) := ⟨⟨by decide +kernel, by decide +kernel⟩, List.mem_of_getElem? (i := 694) (by decide +kernel), List.mem_of_getElem? (i := 894) (by decide +kernel), List.mem_of_getElem? (i := 895) (by decide +kernel)⟩
def lw_privs_3 : List (MethodName × Nat) := [(⟨"ArchiveDeskModel", "number", "(I)V"⟩, 23), (⟨"ArchiveDeskModel", "great", "()V"⟩, 23), (⟨"ArchiveDeskModel", "symbol", "(I)I"⟩, 23), (⟨"ArchiveDeskModel", "one", "(I)V"⟩, 23), (⟨"ArchiveDeskModel", "cut", "(I)I"⟩, 23), (⟨"ArchiveDeskModel", "same", "(III)I"⟩, 23), (⟨"ArchiveDeskModel", "block", "(II)V"⟩, 23), (⟨"ArchiveDeskModel", "clearTimes", "()V"⟩, 23), (⟨"ArchiveDeskModel", "merge", "(I)V"⟩, 23), (⟨"ArchiveDeskModel", "least", "(I)I"⟩, 23), (⟨"ArchiveDeskModel", "give", "(II)V"⟩, 23), (⟨"ArchiveDeskModel", "giveSmall", "(II)V"⟩, 23), (⟨"ArchiveDeskModel", "last", "(I)I"⟩, 23), (⟨"ArchiveDeskModel", "tellAll", "()V"⟩, 23), (⟨"ArchiveDeskModel", "tell", "(II)V"⟩, 23), (⟨"ArchiveDeskModel", "giveSymbol", "(II)V"⟩, 23)]
theorem lw_r3 : ∀ q ∈ lw_privs_3, lw_okq q := List.forall_mem_cons.mpr ⟨lw_p32, List.forall_mem_cons.mpr ⟨lw_p33, List.forall_mem_cons.mpr ⟨lw_p34, List.forall_mem_cons.mpr ⟨lw_p35, List.forall_mem_cons.mpr ⟨lw_p36, List.forall_mem_cons.mpr ⟨lw_p37, List.forall_mem_cons.mpr ⟨lw_p38, List.forall_mem_cons.mpr ⟨lw_p39, List.forall_mem_cons.mpr ⟨lw_p40, List.forall_mem_cons.mpr ⟨lw_p41, List.forall_mem_cons.mpr ⟨lw_p42, List.forall_mem_cons.mpr ⟨lw_p43, List.forall_mem_cons.mpr ⟨lw_p44, List.forall_mem_cons.mpr ⟨lw_p45, List.forall_mem_cons.mpr ⟨lw_p46, List.forall_mem_cons.mpr ⟨lw_p47, fun _ h => absurd h List.not_mem_nil⟩⟩⟩⟩⟩⟩⟩⟩⟩⟩⟩⟩⟩⟩⟩⟩
def lw_privs : List (MethodName × Nat) := lw_privs_1 ++ (lw_privs_2 ++ (lw_privs_3))
def lw_tbl : List Cond := k2_sels lw_privs ++ tables_1
theorem lw_privs_ok : ∀ q ∈ lw_privs, lw_okq q := by
  show ∀ q ∈ lw_privs_1 ++ (lw_privs_2 ++ (lw_privs_3)), lw_okq q
  exact List.forall_mem_append.mpr ⟨lw_r1, List.forall_mem_append.mpr ⟨lw_r2, lw_r3⟩⟩
end
section
def RX0 : String := "ArchiveDesk$Account"
def TX0 : u_T := fun k => match k with
  | 0 => ("ArchiveDesk$Account", "treeT", "LArchiveDesk$Tree;", true)
  | 1 => ("ArchiveDesk$Account", "treeC", "LArchiveDesk$Tree;", true)
  | 2 => ("ArchiveDesk$Account", "treeP", "LArchiveDesk$Tree;", true)
  | 3 => ("ArchiveDesk$Account", "opened", "Z", false)
  | 4 => ("ArchiveDesk$Account", "blocks", "I", false)
  | 5 => ("ArchiveDesk$Account", "codes", "I", false)
  | 6 => ("ArchiveDesk$Account", "copies", "I", false)
  | _ => ("ArchiveDesk$Account", "bits", "I", false)
def tyX0 : Nat → FieldType := fun k => match k with
  | 0 => .object "ArchiveDesk$Tree"
  | 1 => .object "ArchiveDesk$Tree"
  | 2 => .object "ArchiveDesk$Tree"
  | 3 => .boolean
  | 4 => .int
  | 5 => .int
  | 6 => .int
  | _ => .int
theorem nmX0 : ∀ a, a < 8 → ∀ b, b < 8 → a ≠ b → (TX0 a).2.1 ≠ (TX0 b).2.1 := by decide +kernel
theorem tyX0_ok : ∀ k, k < 8 → parseFieldDescriptor (TX0 k).2.2.1 = some (tyX0 k) := by decide +kernel
abbrev cX0_init : ByteArray := prog_2_method_1_code
def yX0_init : MethodName := ⟨RX0, "<init>", "()V"⟩
abbrev cX0_open : ByteArray := prog_2_method_2_code
def yX0_open : MethodName := ⟨RX0, "open", "()V"⟩
abbrev cX0_beginBlock : ByteArray := prog_2_method_3_code
def yX0_beginBlock : MethodName := ⟨RX0, "beginBlock", "()V"⟩
abbrev cX0_countByte : ByteArray := prog_2_method_4_code
def yX0_countByte : MethodName := ⟨RX0, "countByte", "()V"⟩
abbrev cX0_countCopy : ByteArray := prog_2_method_5_code
def yX0_countCopy : MethodName := ⟨RX0, "countCopy", "()V"⟩
abbrev cX0_close : ByteArray := prog_2_method_6_code
def yX0_close : MethodName := ⟨RX0, "close", "(I)V"⟩
abbrev cX0_hasBlock : ByteArray := prog_2_method_7_code
def yX0_hasBlock : MethodName := ⟨RX0, "hasBlock", "()Z"⟩
abbrev cX0_tree : ByteArray := prog_2_method_8_code
def yX0_tree : MethodName := ⟨RX0, "tree", "(I)LArchiveDesk$Tree;"⟩
abbrev cX0_number : ByteArray := prog_2_method_9_code
def yX0_number : MethodName := ⟨RX0, "number", "(I)I"⟩
def RX1 : String := "ArchiveDesk$BitSink"
def TX1 : u_T := fun k => match k with
  | 0 => ("ArchiveDesk$BitSink", "row", "LArchiveDesk$ByteRow;", true)
  | _ => ("ArchiveDesk$BitSink", "given", "I", false)
def tyX1 : Nat → FieldType := fun k => match k with
  | 0 => .object "ArchiveDesk$ByteRow"
  | _ => .int
theorem nmX1 : ∀ a, a < 2 → ∀ b, b < 2 → a ≠ b → (TX1 a).2.1 ≠ (TX1 b).2.1 := by decide +kernel
theorem tyX1_ok : ∀ k, k < 2 → parseFieldDescriptor (TX1 k).2.2.1 = some (tyX1 k) := by decide +kernel
abbrev cX1_init : ByteArray := prog_3_method_1_code
def yX1_init : MethodName := ⟨RX1, "<init>", "(LArchiveDesk$ByteRow;)V"⟩
abbrev cX1_open : ByteArray := prog_3_method_2_code
def yX1_open : MethodName := ⟨RX1, "open", "()V"⟩
abbrev cX1_given : ByteArray := prog_3_method_3_code
def yX1_given : MethodName := ⟨RX1, "given", "()I"⟩
abbrev cX1_give : ByteArray := prog_3_method_4_code
def yX1_give : MethodName := ⟨RX1, "give", "(II)V"⟩
abbrev cX1_giveSymbol : ByteArray := prog_3_method_5_code
def yX1_giveSymbol : MethodName := ⟨RX1, "giveSymbol", "(LArchiveDesk$Tree;I)V"⟩
abbrev cX1_giveLength : ByteArray := prog_3_method_6_code
def yX1_giveLength : MethodName := ⟨RX1, "giveLength", "(I)V"⟩
abbrev cX1_giveAlone : ByteArray := prog_3_method_7_code
def yX1_giveAlone : MethodName := ⟨RX1, "giveAlone", "(II)V"⟩
def RX2 : String := "ArchiveDesk$BitSource"
def TX2 : u_T := fun k => match k with
  | 0 => ("ArchiveDesk$BitSource", "row", "LArchiveDesk$ByteRow;", true)
  | 1 => ("ArchiveDesk$BitSource", "end", "I", false)
  | _ => ("ArchiveDesk$BitSource", "taken", "I", false)
def tyX2 : Nat → FieldType := fun k => match k with
  | 0 => .object "ArchiveDesk$ByteRow"
  | 1 => .int
  | _ => .int
theorem nmX2 : ∀ a, a < 3 → ∀ b, b < 3 → a ≠ b → (TX2 a).2.1 ≠ (TX2 b).2.1 := by decide +kernel
theorem tyX2_ok : ∀ k, k < 3 → parseFieldDescriptor (TX2 k).2.2.1 = some (tyX2 k) := by decide +kernel
abbrev cX2_init : ByteArray := prog_4_method_1_code
def yX2_init : MethodName := ⟨RX2, "<init>", "(LArchiveDesk$ByteRow;)V"⟩
abbrev cX2_open : ByteArray := prog_4_method_2_code
def yX2_open : MethodName := ⟨RX2, "open", "(I)V"⟩
abbrev cX2_taken : ByteArray := prog_4_method_3_code
def yX2_taken : MethodName := ⟨RX2, "taken", "()I"⟩
abbrev cX2_take : ByteArray := prog_4_method_4_code
def yX2_take : MethodName := ⟨RX2, "take", "(I)I"⟩
abbrev cX2_takeSymbol : ByteArray := prog_4_method_5_code
def yX2_takeSymbol : MethodName := ⟨RX2, "takeSymbol", "(LArchiveDesk$Tree;)I"⟩
abbrev cX2_takeLength : ByteArray := prog_4_method_6_code
def yX2_takeLength : MethodName := ⟨RX2, "takeLength", "()I"⟩
abbrev cX2_takeDistance : ByteArray := prog_4_method_7_code
def yX2_takeDistance : MethodName := ⟨RX2, "takeDistance", "(LArchiveDesk$Tree;)I"⟩
def RX3 : String := "ArchiveDesk$ByteRow"
def TX3 : u_T := fun k => match k with
  | 0 => ("ArchiveDesk$ByteRow", "bytes", "[I", true)
  | _ => ("ArchiveDesk$ByteRow", "count", "I", false)
def tyX3 : Nat → FieldType := fun k => match k with
  | 0 => .array .int
  | _ => .int
theorem nmX3 : ∀ a, a < 2 → ∀ b, b < 2 → a ≠ b → (TX3 a).2.1 ≠ (TX3 b).2.1 := by decide +kernel
theorem tyX3_ok : ∀ k, k < 2 → parseFieldDescriptor (TX3 k).2.2.1 = some (tyX3 k) := by decide +kernel
abbrev cX3_init : ByteArray := prog_5_method_1_code
def yX3_init : MethodName := ⟨RX3, "<init>", "(I)V"⟩
abbrev cX3_count : ByteArray := prog_5_method_2_code
def yX3_count : MethodName := ⟨RX3, "count", "()I"⟩
abbrev cX3_hasRoomFor : ByteArray := prog_5_method_3_code
def yX3_hasRoomFor : MethodName := ⟨RX3, "hasRoomFor", "(I)Z"⟩
abbrev cX3_has : ByteArray := prog_5_method_4_code
def yX3_has : MethodName := ⟨RX3, "has", "(I)Z"⟩
abbrev cX3_at : ByteArray := prog_5_method_5_code
def yX3_at : MethodName := ⟨RX3, "at", "(I)I"⟩
abbrev cX3_change : ByteArray := prog_5_method_6_code
def yX3_change : MethodName := ⟨RX3, "change", "(II)V"⟩
abbrev cX3_add : ByteArray := prog_5_method_7_code
def yX3_add : MethodName := ⟨RX3, "add", "(I)V"⟩
abbrev cX3_mixIntoLast : ByteArray := prog_5_method_8_code
def yX3_mixIntoLast : MethodName := ⟨RX3, "mixIntoLast", "(I)V"⟩
abbrev cX3_addWord : ByteArray := prog_5_method_9_code
def yX3_addWord : MethodName := ⟨RX3, "addWord", "(I)V"⟩
abbrev cX3_empty : ByteArray := prog_5_method_10_code
def yX3_empty : MethodName := ⟨RX3, "empty", "()V"⟩
abbrev cX3_become : ByteArray := prog_5_method_11_code
def yX3_become : MethodName := ⟨RX3, "become", "(LArchiveDesk$ByteRow;)V"⟩
def RX4 : String := "ArchiveDesk$CopyFinder"
def TX4 : u_T := fun k => match k with
  | 0 => ("ArchiveDesk$CopyFinder", "row", "LArchiveDesk$ByteRow;", true)
  | 1 => ("ArchiveDesk$CopyFinder", "latest", "[I", true)
  | 2 => ("ArchiveDesk$CopyFinder", "earlier", "[I", true)
  | 3 => ("ArchiveDesk$CopyFinder", "end", "I", false)
  | 4 => ("ArchiveDesk$CopyFinder", "length", "I", false)
  | _ => ("ArchiveDesk$CopyFinder", "distance", "I", false)
def tyX4 : Nat → FieldType := fun k => match k with
  | 0 => .object "ArchiveDesk$ByteRow"
  | 1 => .array .int
  | 2 => .array .int
  | 3 => .int
  | 4 => .int
  | _ => .int
theorem nmX4 : ∀ a, a < 6 → ∀ b, b < 6 → a ≠ b → (TX4 a).2.1 ≠ (TX4 b).2.1 := by decide +kernel
theorem tyX4_ok : ∀ k, k < 6 → parseFieldDescriptor (TX4 k).2.2.1 = some (tyX4 k) := by decide +kernel
abbrev cX4_init : ByteArray := prog_6_method_1_code
def yX4_init : MethodName := ⟨RX4, "<init>", "(LArchiveDesk$ByteRow;I)V"⟩
abbrev cX4_open : ByteArray := prog_6_method_2_code
def yX4_open : MethodName := ⟨RX4, "open", "(I)V"⟩
abbrev cX4_chainOf : ByteArray := prog_6_method_3_code
def yX4_chainOf : MethodName := ⟨RX4, "chainOf", "(I)I"⟩
abbrev cX4_find : ByteArray := prog_6_method_4_code
def yX4_find : MethodName := ⟨RX4, "find", "(I)Z"⟩
abbrev cX4_sameBytes : ByteArray := prog_6_method_5_code
def yX4_sameBytes : MethodName := ⟨RX4, "sameBytes", "(III)I"⟩
abbrev cX4_foundLength : ByteArray := prog_6_method_6_code
def yX4_foundLength : MethodName := ⟨RX4, "foundLength", "()I"⟩
abbrev cX4_foundDistance : ByteArray := prog_6_method_7_code
def yX4_foundDistance : MethodName := ⟨RX4, "foundDistance", "()I"⟩
def RX5 : String := "ArchiveDesk$Merger"
def TX5 : u_T := fun k => match k with
  | 0 => ("ArchiveDesk$Merger", "leaves", "[I", true)
  | 1 => ("ArchiveDesk$Merger", "weights", "[I", true)
  | 2 => ("ArchiveDesk$Merger", "parents", "[I", true)
  | 3 => ("ArchiveDesk$Merger", "depths", "[I", true)
  | 4 => ("ArchiveDesk$Merger", "leafCount", "I", false)
  | 5 => ("ArchiveDesk$Merger", "nextLeaf", "I", false)
  | 6 => ("ArchiveDesk$Merger", "nextMerged", "I", false)
  | _ => ("ArchiveDesk$Merger", "nodeCount", "I", false)
def tyX5 : Nat → FieldType := fun k => match k with
  | 0 => .array .int
  | 1 => .array .int
  | 2 => .array .int
  | 3 => .array .int
  | 4 => .int
  | 5 => .int
  | 6 => .int
  | _ => .int
theorem nmX5 : ∀ a, a < 8 → ∀ b, b < 8 → a ≠ b → (TX5 a).2.1 ≠ (TX5 b).2.1 := by decide +kernel
theorem tyX5_ok : ∀ k, k < 8 → parseFieldDescriptor (TX5 k).2.2.1 = some (tyX5 k) := by decide +kernel
abbrev cX5_init : ByteArray := prog_7_method_1_code
def yX5_init : MethodName := ⟨RX5, "<init>", "(I)V"⟩
abbrev cX5_shape : ByteArray := prog_7_method_2_code
def yX5_shape : MethodName := ⟨RX5, "shape", "(LArchiveDesk$Tree;)V"⟩
abbrev cX5_sortLeaves : ByteArray := prog_7_method_3_code
def yX5_sortLeaves : MethodName := ⟨RX5, "sortLeaves", "(LArchiveDesk$Tree;)V"⟩
abbrev cX5_insertLeaf : ByteArray := prog_7_method_4_code
def yX5_insertLeaf : MethodName := ⟨RX5, "insertLeaf", "(I)V"⟩
abbrev cX5_merge : ByteArray := prog_7_method_5_code
def yX5_merge : MethodName := ⟨RX5, "merge", "(I)V"⟩
abbrev cX5_takeLeast : ByteArray := prog_7_method_6_code
def yX5_takeLeast : MethodName := ⟨RX5, "takeLeast", "()I"⟩
abbrev cX5_measure : ByteArray := prog_7_method_7_code
def yX5_measure : MethodName := ⟨RX5, "measure", "(LArchiveDesk$Tree;)V"⟩
def RX6 : String := "ArchiveDesk$Packer"
def TX6 : u_T := fun k => match k with
  | 0 => ("ArchiveDesk$Packer", "tape", "LArchiveDesk$ByteRow;", true)
  | 1 => ("ArchiveDesk$Packer", "sink", "LArchiveDesk$BitSink;", true)
  | 2 => ("ArchiveDesk$Packer", "account", "LArchiveDesk$Account;", true)
  | 3 => ("ArchiveDesk$Packer", "finder", "LArchiveDesk$CopyFinder;", true)
  | 4 => ("ArchiveDesk$Packer", "merger", "LArchiveDesk$Merger;", true)
  | 5 => ("ArchiveDesk$Packer", "treeT", "LArchiveDesk$Tree;", true)
  | 6 => ("ArchiveDesk$Packer", "treeC", "LArchiveDesk$Tree;", true)
  | 7 => ("ArchiveDesk$Packer", "treeP", "LArchiveDesk$Tree;", true)
  | 8 => ("ArchiveDesk$Packer", "symbols", "[I", true)
  | 9 => ("ArchiveDesk$Packer", "distances", "[I", true)
  | 10 => ("ArchiveDesk$Packer", "codeCount", "I", false)
  | 11 => ("ArchiveDesk$Packer", "tellers", "[I", true)
  | 12 => ("ArchiveDesk$Packer", "extras", "[I", true)
  | _ => ("ArchiveDesk$Packer", "tellerCount", "I", false)
def tyX6 : Nat → FieldType := fun k => match k with
  | 0 => .object "ArchiveDesk$ByteRow"
  | 1 => .object "ArchiveDesk$BitSink"
  | 2 => .object "ArchiveDesk$Account"
  | 3 => .object "ArchiveDesk$CopyFinder"
  | 4 => .object "ArchiveDesk$Merger"
  | 5 => .object "ArchiveDesk$Tree"
  | 6 => .object "ArchiveDesk$Tree"
  | 7 => .object "ArchiveDesk$Tree"
  | 8 => .array .int
  | 9 => .array .int
  | 10 => .int
  | 11 => .array .int
  | 12 => .array .int
  | _ => .int
theorem nmX6 : ∀ a, a < 14 → ∀ b, b < 14 → a ≠ b → (TX6 a).2.1 ≠ (TX6 b).2.1 := by decide +kernel
theorem tyX6_ok : ∀ k, k < 14 → parseFieldDescriptor (TX6 k).2.2.1 = some (tyX6 k) := by decide +kernel
abbrev cX6_init : ByteArray := prog_8_method_1_code
def yX6_init : MethodName := ⟨RX6, "<init>", "(LArchiveDesk$ByteRow;LArchiveDesk$ByteRow;LArchiveDesk$Account;)V"⟩
abbrev cX6_pack : ByteArray := prog_8_method_2_code
def yX6_pack : MethodName := ⟨RX6, "pack", "(I)V"⟩
abbrev cX6_gatherCodes : ByteArray := prog_8_method_3_code
def yX6_gatherCodes : MethodName := ⟨RX6, "gatherCodes", "(II)I"⟩
abbrev cX6_gatherTellers : ByteArray := prog_8_method_4_code
def yX6_gatherTellers : MethodName := ⟨RX6, "gatherTellers", "()V"⟩
abbrev cX6_addZeros : ByteArray := prog_8_method_5_code
def yX6_addZeros : MethodName := ⟨RX6, "addZeros", "(I)V"⟩
abbrev cX6_addTeller : ByteArray := prog_8_method_6_code
def yX6_addTeller : MethodName := ⟨RX6, "addTeller", "(II)V"⟩
abbrev cX6_packBlock : ByteArray := prog_8_method_7_code
def yX6_packBlock : MethodName := ⟨RX6, "packBlock", "()V"⟩
abbrev cX6_tellTree : ByteArray := prog_8_method_8_code
def yX6_tellTree : MethodName := ⟨RX6, "tellTree", "(LArchiveDesk$Tree;IZ)V"⟩
abbrev cX6_tellTreeC : ByteArray := prog_8_method_9_code
def yX6_tellTreeC : MethodName := ⟨RX6, "tellTreeC", "()V"⟩
abbrev cX6_packDistance : ByteArray := prog_8_method_10_code
def yX6_packDistance : MethodName := ⟨RX6, "packDistance", "(I)V"⟩
abbrev cX6_distanceSymbol : ByteArray := prog_8_method_11_code
def yX6_distanceSymbol : MethodName := ⟨RX6, "distanceSymbol", "(I)I"⟩
def RX7 : String := "ArchiveDesk$Tree"
def TX7 : u_T := fun k => match k with
  | 0 => ("ArchiveDesk$Tree", "lengths", "[I", true)
  | 1 => ("ArchiveDesk$Tree", "codes", "[I", true)
  | 2 => ("ArchiveDesk$Tree", "uses", "[I", true)
  | 3 => ("ArchiveDesk$Tree", "order", "[I", true)
  | 4 => ("ArchiveDesk$Tree", "counts", "[I", true)
  | 5 => ("ArchiveDesk$Tree", "firstCodes", "[I", true)
  | 6 => ("ArchiveDesk$Tree", "firstPlaces", "[I", true)
  | _ => ("ArchiveDesk$Tree", "alone", "I", false)
def tyX7 : Nat → FieldType := fun k => match k with
  | 0 => .array .int
  | 1 => .array .int
  | 2 => .array .int
  | 3 => .array .int
  | 4 => .array .int
  | 5 => .array .int
  | 6 => .array .int
  | _ => .int
theorem nmX7 : ∀ a, a < 8 → ∀ b, b < 8 → a ≠ b → (TX7 a).2.1 ≠ (TX7 b).2.1 := by decide +kernel
theorem tyX7_ok : ∀ k, k < 8 → parseFieldDescriptor (TX7 k).2.2.1 = some (tyX7 k) := by decide +kernel
abbrev cX7_init : ByteArray := prog_9_method_1_code
def yX7_init : MethodName := ⟨RX7, "<init>", "(I)V"⟩
abbrev cX7_wipe : ByteArray := prog_9_method_2_code
def yX7_wipe : MethodName := ⟨RX7, "wipe", "()V"⟩
abbrev cX7_symbols : ByteArray := prog_9_method_3_code
def yX7_symbols : MethodName := ⟨RX7, "symbols", "()I"⟩
abbrev cX7_has : ByteArray := prog_9_method_4_code
def yX7_has : MethodName := ⟨RX7, "has", "(I)Z"⟩
abbrev cX7_lengthOf : ByteArray := prog_9_method_5_code
def yX7_lengthOf : MethodName := ⟨RX7, "lengthOf", "(I)I"⟩
abbrev cX7_codeOf : ByteArray := prog_9_method_6_code
def yX7_codeOf : MethodName := ⟨RX7, "codeOf", "(I)I"⟩
abbrev cX7_usesOf : ByteArray := prog_9_method_7_code
def yX7_usesOf : MethodName := ⟨RX7, "usesOf", "(I)I"⟩
abbrev cX7_alone : ByteArray := prog_9_method_8_code
def yX7_alone : MethodName := ⟨RX7, "alone", "()I"⟩
abbrev cX7_isAlone : ByteArray := prog_9_method_9_code
def yX7_isAlone : MethodName := ⟨RX7, "isAlone", "()Z"⟩
abbrev cX7_use : ByteArray := prog_9_method_10_code
def yX7_use : MethodName := ⟨RX7, "use", "(I)V"⟩
abbrev cX7_setAlone : ByteArray := prog_9_method_11_code
def yX7_setAlone : MethodName := ⟨RX7, "setAlone", "(I)V"⟩
abbrev cX7_setLength : ByteArray := prog_9_method_12_code
def yX7_setLength : MethodName := ⟨RX7, "setLength", "(II)V"⟩
abbrev cX7_lengthsInUse : ByteArray := prog_9_method_13_code
def yX7_lengthsInUse : MethodName := ⟨RX7, "lengthsInUse", "()I"⟩
abbrev cX7_zerosFrom : ByteArray := prog_9_method_14_code
def yX7_zerosFrom : MethodName := ⟨RX7, "zerosFrom", "(II)I"⟩
abbrev cX7_settle : ByteArray := prog_9_method_15_code
def yX7_settle : MethodName := ⟨RX7, "settle", "()Z"⟩
abbrev cX7_number : ByteArray := prog_9_method_16_code
def yX7_number : MethodName := ⟨RX7, "number", "()V"⟩
abbrev cX7_symbolOf : ByteArray := prog_9_method_17_code
def yX7_symbolOf : MethodName := ⟨RX7, "symbolOf", "(II)I"⟩
def RX8 : String := "ArchiveDesk$Unpacker"
def TX8 : u_T := fun k => match k with
  | 0 => ("ArchiveDesk$Unpacker", "source", "LArchiveDesk$BitSource;", true)
  | 1 => ("ArchiveDesk$Unpacker", "product", "LArchiveDesk$ByteRow;", true)
  | 2 => ("ArchiveDesk$Unpacker", "account", "LArchiveDesk$Account;", true)
  | 3 => ("ArchiveDesk$Unpacker", "treeT", "LArchiveDesk$Tree;", true)
  | 4 => ("ArchiveDesk$Unpacker", "treeC", "LArchiveDesk$Tree;", true)
  | 5 => ("ArchiveDesk$Unpacker", "treeP", "LArchiveDesk$Tree;", true)
  | _ => ("ArchiveDesk$Unpacker", "wanted", "I", false)
def tyX8 : Nat → FieldType := fun k => match k with
  | 0 => .object "ArchiveDesk$BitSource"
  | 1 => .object "ArchiveDesk$ByteRow"
  | 2 => .object "ArchiveDesk$Account"
  | 3 => .object "ArchiveDesk$Tree"
  | 4 => .object "ArchiveDesk$Tree"
  | 5 => .object "ArchiveDesk$Tree"
  | _ => .int
theorem nmX8 : ∀ a, a < 7 → ∀ b, b < 7 → a ≠ b → (TX8 a).2.1 ≠ (TX8 b).2.1 := by decide +kernel
theorem tyX8_ok : ∀ k, k < 7 → parseFieldDescriptor (TX8 k).2.2.1 = some (tyX8 k) := by decide +kernel
abbrev cX8_init : ByteArray := prog_10_method_1_code
def yX8_init : MethodName := ⟨RX8, "<init>", "(LArchiveDesk$ByteRow;LArchiveDesk$ByteRow;LArchiveDesk$Account;)V"⟩
abbrev cX8_unpack : ByteArray := prog_10_method_2_code
def yX8_unpack : MethodName := ⟨RX8, "unpack", "(II)I"⟩
abbrev cX8_wantsMore : ByteArray := prog_10_method_3_code
def yX8_wantsMore : MethodName := ⟨RX8, "wantsMore", "()Z"⟩
abbrev cX8_unpackBlock : ByteArray := prog_10_method_4_code
def yX8_unpackBlock : MethodName := ⟨RX8, "unpackBlock", "()I"⟩
abbrev cX8_takeTree : ByteArray := prog_10_method_5_code
def yX8_takeTree : MethodName := ⟨RX8, "takeTree", "(II)I"⟩
abbrev cX8_takeAlone : ByteArray := prog_10_method_6_code
def yX8_takeAlone : MethodName := ⟨RX8, "takeAlone", "(LArchiveDesk$Tree;I)I"⟩
abbrev cX8_takeLengths : ByteArray := prog_10_method_7_code
def yX8_takeLengths : MethodName := ⟨RX8, "takeLengths", "(LArchiveDesk$Tree;IZ)I"⟩
abbrev cX8_takeLengthsByT : ByteArray := prog_10_method_8_code
def yX8_takeLengthsByT : MethodName := ⟨RX8, "takeLengthsByT", "(I)I"⟩
abbrev cX8_unpackCode : ByteArray := prog_10_method_9_code
def yX8_unpackCode : MethodName := ⟨RX8, "unpackCode", "()I"⟩
abbrev cX8_copy : ByteArray := prog_10_method_10_code
def yX8_copy : MethodName := ⟨RX8, "copy", "(II)I"⟩
def RX9 : String := "ArchiveDesk"
def TX9 : u_T := fun k => match k with
  | 0 => ("ArchiveDesk", "tape", "LArchiveDesk$ByteRow;", true)
  | 1 => ("ArchiveDesk", "product", "LArchiveDesk$ByteRow;", true)
  | 2 => ("ArchiveDesk", "account", "LArchiveDesk$Account;", true)
  | 3 => ("ArchiveDesk", "unpacker", "LArchiveDesk$Unpacker;", true)
  | _ => ("ArchiveDesk", "packer", "LArchiveDesk$Packer;", true)
def tyX9 : Nat → FieldType := fun k => match k with
  | 0 => .object "ArchiveDesk$ByteRow"
  | 1 => .object "ArchiveDesk$ByteRow"
  | 2 => .object "ArchiveDesk$Account"
  | 3 => .object "ArchiveDesk$Unpacker"
  | _ => .object "ArchiveDesk$Packer"
theorem nmX9 : ∀ a, a < 5 → ∀ b, b < 5 → a ≠ b → (TX9 a).2.1 ≠ (TX9 b).2.1 := by decide +kernel
theorem tyX9_ok : ∀ k, k < 5 → parseFieldDescriptor (TX9 k).2.2.1 = some (tyX9 k) := by decide +kernel
abbrev cX9_init : ByteArray := prog_1_method_1_code
def yX9_init : MethodName := ⟨RX9, "<init>", "()V"⟩
abbrev cX9_feed : ByteArray := prog_1_method_2_code
def yX9_feed : MethodName := ⟨RX9, "feed", "(IIIII)I"⟩
abbrev cX9_fill : ByteArray := prog_1_method_3_code
def yX9_fill : MethodName := ⟨RX9, "fill", "(II)I"⟩
abbrev cX9_peek : ByteArray := prog_1_method_4_code
def yX9_peek : MethodName := ⟨RX9, "peek", "(I)I"⟩
abbrev cX9_poke : ByteArray := prog_1_method_5_code
def yX9_poke : MethodName := ⟨RX9, "poke", "(II)Z"⟩
abbrev cX9_clear : ByteArray := prog_1_method_6_code
def yX9_clear : MethodName := ⟨RX9, "clear", "()V"⟩
abbrev cX9_read : ByteArray := prog_1_method_7_code
def yX9_read : MethodName := ⟨RX9, "read", "(II)I"⟩
abbrev cX9_write : ByteArray := prog_1_method_8_code
def yX9_write : MethodName := ⟨RX9, "write", "(I)I"⟩
abbrev cX9_back : ByteArray := prog_1_method_9_code
def yX9_back : MethodName := ⟨RX9, "back", "()I"⟩
abbrev cX9_made : ByteArray := prog_1_method_10_code
def yX9_made : MethodName := ⟨RX9, "made", "()I"⟩
abbrev cX9_out : ByteArray := prog_1_method_11_code
def yX9_out : MethodName := ⟨RX9, "out", "(I)I"⟩
abbrev cX9_told : ByteArray := prog_1_method_12_code
def yX9_told : MethodName := ⟨RX9, "told", "(I)I"⟩
abbrev cX9_length : ByteArray := prog_1_method_13_code
def yX9_length : MethodName := ⟨RX9, "length", "(II)I"⟩
abbrev cX9_isOnTape : ByteArray := prog_1_method_14_code
def yX9_isOnTape : MethodName := ⟨RX9, "isOnTape", "(I)Z"⟩
abbrev cX9_isByte : ByteArray := prog_1_method_15_code
def yX9_isByte : MethodName := ⟨RX9, "isByte", "(I)Z"⟩
abbrev cX9_bitsBehind : ByteArray := prog_1_method_16_code
def yX9_bitsBehind : MethodName := ⟨RX9, "bitsBehind", "(I)I"⟩
abbrev cX9_leastOf : ByteArray := prog_1_method_17_code
def yX9_leastOf : MethodName := ⟨RX9, "leastOf", "(I)I"⟩
def RX10 : String := "ArchiveDeskModel"
def TX10 : u_T := fun k => match k with
  | 0 => ("ArchiveDeskModel", "tape", "[I", true)
  | 1 => ("ArchiveDeskModel", "count", "I", false)
  | 2 => ("ArchiveDeskModel", "out", "[I", true)
  | 3 => ("ArchiveDeskModel", "made", "I", false)
  | 4 => ("ArchiveDeskModel", "lengths", "[I", true)
  | 5 => ("ArchiveDeskModel", "codes", "[I", true)
  | 6 => ("ArchiveDeskModel", "alone", "[I", true)
  | 7 => ("ArchiveDeskModel", "told", "Z", false)
  | 8 => ("ArchiveDeskModel", "blocks", "I", false)
  | 9 => ("ArchiveDeskModel", "allCodes", "I", false)
  | 10 => ("ArchiveDeskModel", "copies", "I", false)
  | 11 => ("ArchiveDeskModel", "bits", "I", false)
  | 12 => ("ArchiveDeskModel", "ends", "I", false)
  | 13 => ("ArchiveDeskModel", "fault", "I", false)
  | 14 => ("ArchiveDeskModel", "code", "[I", true)
  | 15 => ("ArchiveDeskModel", "distance", "[I", true)
  | 16 => ("ArchiveDeskModel", "weights", "[I", true)
  | 17 => ("ArchiveDeskModel", "above", "[I", true)
  | 18 => ("ArchiveDeskModel", "isNode", "[Z", true)
  | 19 => ("ArchiveDeskModel", "times", "[I", true)
  | 20 => ("ArchiveDeskModel", "tells", "[I", true)
  | 21 => ("ArchiveDeskModel", "extra", "[I", true)
  | _ => ("ArchiveDeskModel", "tellCount", "I", false)
def tyX10 : Nat → FieldType := fun k => match k with
  | 0 => .array .int
  | 1 => .int
  | 2 => .array .int
  | 3 => .int
  | 4 => .array .int
  | 5 => .array .int
  | 6 => .array .int
  | 7 => .boolean
  | 8 => .int
  | 9 => .int
  | 10 => .int
  | 11 => .int
  | 12 => .int
  | 13 => .int
  | 14 => .array .int
  | 15 => .array .int
  | 16 => .array .int
  | 17 => .array .int
  | 18 => .array .boolean
  | 19 => .array .int
  | 20 => .array .int
  | 21 => .array .int
  | _ => .int
theorem nmX10 : ∀ a, a < 23 → ∀ b, b < 23 → a ≠ b → (TX10 a).2.1 ≠ (TX10 b).2.1 := by decide +kernel
theorem tyX10_ok : ∀ k, k < 23 → parseFieldDescriptor (TX10 k).2.2.1 = some (tyX10 k) := by decide +kernel
abbrev cX10_init : ByteArray := prog_12_method_1_code
def yX10_init : MethodName := ⟨RX10, "<init>", "()V"⟩
abbrev cX10_feed : ByteArray := prog_12_method_2_code
def yX10_feed : MethodName := ⟨RX10, "feed", "(IIIII)I"⟩
abbrev cX10_fill : ByteArray := prog_12_method_3_code
def yX10_fill : MethodName := ⟨RX10, "fill", "(II)I"⟩
abbrev cX10_peek : ByteArray := prog_12_method_4_code
def yX10_peek : MethodName := ⟨RX10, "peek", "(I)I"⟩
abbrev cX10_poke : ByteArray := prog_12_method_5_code
def yX10_poke : MethodName := ⟨RX10, "poke", "(II)Z"⟩
abbrev cX10_clear : ByteArray := prog_12_method_6_code
def yX10_clear : MethodName := ⟨RX10, "clear", "()V"⟩
abbrev cX10_begin : ByteArray := prog_12_method_7_code
def yX10_begin : MethodName := ⟨RX10, "begin", "()V"⟩
abbrev cX10_clearTrees : ByteArray := prog_12_method_8_code
def yX10_clearTrees : MethodName := ⟨RX10, "clearTrees", "()V"⟩
abbrev cX10_symbols : ByteArray := prog_12_method_9_code
def yX10_symbols : MethodName := ⟨RX10, "symbols", "(I)I"⟩
abbrev cX10_number : ByteArray := prog_12_method_10_code
def yX10_number : MethodName := ⟨RX10, "number", "(I)V"⟩
abbrev cX10_fails : ByteArray := prog_12_method_11_code
def yX10_fails : MethodName := ⟨RX10, "fails", "(I)V"⟩
abbrev cX10_take : ByteArray := prog_12_method_12_code
def yX10_take : MethodName := ⟨RX10, "take", "(I)I"⟩
abbrev cX10_symbol : ByteArray := prog_12_method_13_code
def yX10_symbol : MethodName := ⟨RX10, "symbol", "(I)I"⟩
abbrev cX10_complete : ByteArray := prog_12_method_14_code
def yX10_complete : MethodName := ⟨RX10, "complete", "(I)V"⟩
abbrev cX10_many : ByteArray := prog_12_method_15_code
def yX10_many : MethodName := ⟨RX10, "many", "(II)I"⟩
abbrev cX10_small : ByteArray := prog_12_method_16_code
def yX10_small : MethodName := ⟨RX10, "small", "(II)V"⟩
abbrev cX10_great : ByteArray := prog_12_method_17_code
def yX10_great : MethodName := ⟨RX10, "great", "()V"⟩
abbrev cX10_one : ByteArray := prog_12_method_18_code
def yX10_one : MethodName := ⟨RX10, "one", "(I)V"⟩
abbrev cX10_read : ByteArray := prog_12_method_19_code
def yX10_read : MethodName := ⟨RX10, "read", "(II)I"⟩
abbrev cX10_give : ByteArray := prog_12_method_20_code
def yX10_give : MethodName := ⟨RX10, "give", "(II)V"⟩
abbrev cX10_same : ByteArray := prog_12_method_21_code
def yX10_same : MethodName := ⟨RX10, "same", "(III)I"⟩
abbrev cX10_cut : ByteArray := prog_12_method_22_code
def yX10_cut : MethodName := ⟨RX10, "cut", "(I)I"⟩
abbrev cX10_least : ByteArray := prog_12_method_23_code
def yX10_least : MethodName := ⟨RX10, "least", "(I)I"⟩
abbrev cX10_merge : ByteArray := prog_12_method_24_code
def yX10_merge : MethodName := ⟨RX10, "merge", "(I)V"⟩
abbrev cX10_clearTimes : ByteArray := prog_12_method_25_code
def yX10_clearTimes : MethodName := ⟨RX10, "clearTimes", "()V"⟩
abbrev cX10_rank : ByteArray := prog_12_method_26_code
def yX10_rank : MethodName := ⟨RX10, "rank", "(I)I"⟩
abbrev cX10_last : ByteArray := prog_12_method_27_code
def yX10_last : MethodName := ⟨RX10, "last", "(I)I"⟩
abbrev cX10_tell : ByteArray := prog_12_method_28_code
def yX10_tell : MethodName := ⟨RX10, "tell", "(II)V"⟩
abbrev cX10_tellAll : ByteArray := prog_12_method_29_code
def yX10_tellAll : MethodName := ⟨RX10, "tellAll", "()V"⟩
abbrev cX10_giveSmall : ByteArray := prog_12_method_30_code
def yX10_giveSmall : MethodName := ⟨RX10, "giveSmall", "(II)V"⟩
abbrev cX10_giveSymbol : ByteArray := prog_12_method_31_code
def yX10_giveSymbol : MethodName := ⟨RX10, "giveSymbol", "(II)V"⟩
abbrev cX10_block : ByteArray := prog_12_method_32_code
def yX10_block : MethodName := ⟨RX10, "block", "(II)V"⟩
abbrev cX10_write : ByteArray := prog_12_method_33_code
def yX10_write : MethodName := ⟨RX10, "write", "(I)I"⟩
abbrev cX10_back : ByteArray := prog_12_method_34_code
def yX10_back : MethodName := ⟨RX10, "back", "()I"⟩
abbrev cX10_made : ByteArray := prog_12_method_35_code
def yX10_made : MethodName := ⟨RX10, "made", "()I"⟩
abbrev cX10_out : ByteArray := prog_12_method_36_code
def yX10_out : MethodName := ⟨RX10, "out", "(I)I"⟩
abbrev cX10_told : ByteArray := prog_12_method_37_code
def yX10_told : MethodName := ⟨RX10, "told", "(I)I"⟩
abbrev cX10_length : ByteArray := prog_12_method_38_code
def yX10_length : MethodName := ⟨RX10, "length", "(II)I"⟩
def RJ9 : String := "java/lang/Math"
abbrev cJ9_min_7cf53 : ByteArray := prog_13_method_69_code
def yJ9_min_7cf53 : MethodName := ⟨RJ9, "min", "(II)I"⟩
def RJ10 : String := "java/lang/System"
def RJ7 : String := "java/util/Arrays"
abbrev cJ7_fill_53178 : ByteArray := prog_15_method_103_code
def yJ7_fill_53178 : MethodName := ⟨RJ7, "fill", "([II)V"⟩
def RL : String := "ArchiveDeskLaw"
abbrev cL_law : ByteArray := code
def yL_law : MethodName := ⟨RL, "law", "([I)Z"⟩
abbrev vwCl : List vw_C := [(RX0, TX0, 8), (RX1, TX1, 2), (RX2, TX2, 3), (RX3, TX3, 2), (RX4, TX4, 6), (RX5, TX5, 8), (RX6, TX6, 14), (RX7, TX7, 8), (RX8, TX8, 7), (RX9, TX9, 5), (RX10, TX10, 23)]
end
section
theorem dX0_init_0 : decode cX0_init 0 = .ok (.aload_n 0, 1) := by decide +kernel
theorem dX0_init_1 : decode cX0_init 1 = .ok (.invokespecial 3, 3) := by decide +kernel
theorem dX0_init_4 : decode cX0_init 4 = .ok (.aload_n 0, 1) := by decide +kernel
theorem dX0_init_5 : decode cX0_init 5 = .ok (.new 9, 3) := by decide +kernel
theorem dX0_init_8 : decode cX0_init 8 = .ok (.dup, 1) := by decide +kernel
theorem dX0_init_9 : decode cX0_init 9 = .ok (.bipush 19, 2) := by decide +kernel
theorem dX0_init_11 : decode cX0_init 11 = .ok (.invokespecial 11, 3) := by decide +kernel
theorem dX0_init_14 : decode cX0_init 14 = .ok (.putfield 14, 3) := by decide +kernel
theorem dX0_init_17 : decode cX0_init 17 = .ok (.aload_n 0, 1) := by decide +kernel
theorem dX0_init_18 : decode cX0_init 18 = .ok (.new 9, 3) := by decide +kernel
theorem dX0_init_21 : decode cX0_init 21 = .ok (.dup, 1) := by decide +kernel
theorem dX0_init_22 : decode cX0_init 22 = .ok (.sipush 510, 3) := by decide +kernel
theorem dX0_init_25 : decode cX0_init 25 = .ok (.invokespecial 11, 3) := by decide +kernel
theorem dX0_init_28 : decode cX0_init 28 = .ok (.putfield 20, 3) := by decide +kernel
theorem dX0_init_31 : decode cX0_init 31 = .ok (.aload_n 0, 1) := by decide +kernel
theorem dX0_init_32 : decode cX0_init 32 = .ok (.new 9, 3) := by decide +kernel
theorem dX0_init_35 : decode cX0_init 35 = .ok (.dup, 1) := by decide +kernel
theorem dX0_init_36 : decode cX0_init 36 = .ok (.bipush 14, 2) := by decide +kernel
theorem dX0_init_38 : decode cX0_init 38 = .ok (.invokespecial 11, 3) := by decide +kernel
theorem dX0_init_41 : decode cX0_init 41 = .ok (.putfield 23, 3) := by decide +kernel
theorem dX0_init_44 : decode cX0_init 44 = .ok (.aload_n 0, 1) := by decide +kernel
theorem dX0_init_45 : decode cX0_init 45 = .ok (.iconst 0, 1) := by decide +kernel
theorem dX0_init_46 : decode cX0_init 46 = .ok (.putfield 26, 3) := by decide +kernel
theorem dX0_init_49 : decode cX0_init 49 = .ok (.aload_n 0, 1) := by decide +kernel
theorem dX0_init_50 : decode cX0_init 50 = .ok (.iconst 0, 1) := by decide +kernel
theorem dX0_init_51 : decode cX0_init 51 = .ok (.putfield 30, 3) := by decide +kernel
theorem dX0_init_54 : decode cX0_init 54 = .ok (.aload_n 0, 1) := by decide +kernel
theorem dX0_init_55 : decode cX0_init 55 = .ok (.iconst 0, 1) := by decide +kernel
theorem dX0_init_56 : decode cX0_init 56 = .ok (.putfield 34, 3) := by decide +kernel
theorem dX0_init_59 : decode cX0_init 59 = .ok (.aload_n 0, 1) := by decide +kernel
theorem dX0_init_60 : decode cX0_init 60 = .ok (.iconst 0, 1) := by decide +kernel
theorem dX0_init_61 : decode cX0_init 61 = .ok (.putfield 37, 3) := by decide +kernel
theorem dX0_init_64 : decode cX0_init 64 = .ok (.aload_n 0, 1) := by decide +kernel
theorem dX0_init_65 : decode cX0_init 65 = .ok (.iconst 0, 1) := by decide +kernel
theorem dX0_init_66 : decode cX0_init 66 = .ok (.putfield 40, 3) := by decide +kernel
theorem dX0_init_69 : decode cX0_init 69 = .ok (.return_, 1) := by decide +kernel
theorem dX0_open_0 : decode cX0_open 0 = .ok (.aload_n 0, 1) := by decide +kernel
theorem dX0_open_1 : decode cX0_open 1 = .ok (.iconst 1, 1) := by decide +kernel
theorem dX0_open_2 : decode cX0_open 2 = .ok (.putfield 26, 3) := by decide +kernel
theorem dX0_open_5 : decode cX0_open 5 = .ok (.aload_n 0, 1) := by decide +kernel
theorem dX0_open_6 : decode cX0_open 6 = .ok (.iconst 0, 1) := by decide +kernel
theorem dX0_open_7 : decode cX0_open 7 = .ok (.putfield 30, 3) := by decide +kernel
theorem dX0_open_10 : decode cX0_open 10 = .ok (.aload_n 0, 1) := by decide +kernel
theorem dX0_open_11 : decode cX0_open 11 = .ok (.iconst 0, 1) := by decide +kernel
theorem dX0_open_12 : decode cX0_open 12 = .ok (.putfield 34, 3) := by decide +kernel
theorem dX0_open_15 : decode cX0_open 15 = .ok (.aload_n 0, 1) := by decide +kernel
theorem dX0_open_16 : decode cX0_open 16 = .ok (.iconst 0, 1) := by decide +kernel
theorem dX0_open_17 : decode cX0_open 17 = .ok (.putfield 37, 3) := by decide +kernel
theorem dX0_open_20 : decode cX0_open 20 = .ok (.aload_n 0, 1) := by decide +kernel
theorem dX0_open_21 : decode cX0_open 21 = .ok (.iconst 0, 1) := by decide +kernel
theorem dX0_open_22 : decode cX0_open 22 = .ok (.putfield 40, 3) := by decide +kernel
theorem dX0_open_25 : decode cX0_open 25 = .ok (.return_, 1) := by decide +kernel
theorem dX0_beginBlock_0 : decode cX0_beginBlock 0 = .ok (.aload_n 0, 1) := by decide +kernel
theorem dX0_beginBlock_1 : decode cX0_beginBlock 1 = .ok (.dup, 1) := by decide +kernel
theorem dX0_beginBlock_2 : decode cX0_beginBlock 2 = .ok (.getfield 30, 3) := by decide +kernel
theorem dX0_beginBlock_5 : decode cX0_beginBlock 5 = .ok (.iconst 1, 1) := by decide +kernel
theorem dX0_beginBlock_6 : decode cX0_beginBlock 6 = .ok (.iadd, 1) := by decide +kernel
theorem dX0_beginBlock_7 : decode cX0_beginBlock 7 = .ok (.putfield 30, 3) := by decide +kernel
theorem dX0_beginBlock_10 : decode cX0_beginBlock 10 = .ok (.aload_n 0, 1) := by decide +kernel
theorem dX0_beginBlock_11 : decode cX0_beginBlock 11 = .ok (.getfield 14, 3) := by decide +kernel
theorem dX0_beginBlock_14 : decode cX0_beginBlock 14 = .ok (.invokevirtual 43, 3) := by decide +kernel
theorem dX0_beginBlock_17 : decode cX0_beginBlock 17 = .ok (.aload_n 0, 1) := by decide +kernel
theorem dX0_beginBlock_18 : decode cX0_beginBlock 18 = .ok (.getfield 20, 3) := by decide +kernel
theorem dX0_beginBlock_21 : decode cX0_beginBlock 21 = .ok (.invokevirtual 43, 3) := by decide +kernel
theorem dX0_beginBlock_24 : decode cX0_beginBlock 24 = .ok (.aload_n 0, 1) := by decide +kernel
theorem dX0_beginBlock_25 : decode cX0_beginBlock 25 = .ok (.getfield 23, 3) := by decide +kernel
theorem dX0_beginBlock_28 : decode cX0_beginBlock 28 = .ok (.invokevirtual 43, 3) := by decide +kernel
theorem dX0_beginBlock_31 : decode cX0_beginBlock 31 = .ok (.return_, 1) := by decide +kernel
theorem dX0_countByte_0 : decode cX0_countByte 0 = .ok (.aload_n 0, 1) := by decide +kernel
theorem dX0_countByte_1 : decode cX0_countByte 1 = .ok (.dup, 1) := by decide +kernel
theorem dX0_countByte_2 : decode cX0_countByte 2 = .ok (.getfield 34, 3) := by decide +kernel
theorem dX0_countByte_5 : decode cX0_countByte 5 = .ok (.iconst 1, 1) := by decide +kernel
theorem dX0_countByte_6 : decode cX0_countByte 6 = .ok (.iadd, 1) := by decide +kernel
theorem dX0_countByte_7 : decode cX0_countByte 7 = .ok (.putfield 34, 3) := by decide +kernel
theorem dX0_countByte_10 : decode cX0_countByte 10 = .ok (.return_, 1) := by decide +kernel
theorem dX0_countCopy_0 : decode cX0_countCopy 0 = .ok (.aload_n 0, 1) := by decide +kernel
theorem dX0_countCopy_1 : decode cX0_countCopy 1 = .ok (.dup, 1) := by decide +kernel
theorem dX0_countCopy_2 : decode cX0_countCopy 2 = .ok (.getfield 34, 3) := by decide +kernel
theorem dX0_countCopy_5 : decode cX0_countCopy 5 = .ok (.iconst 1, 1) := by decide +kernel
theorem dX0_countCopy_6 : decode cX0_countCopy 6 = .ok (.iadd, 1) := by decide +kernel
theorem dX0_countCopy_7 : decode cX0_countCopy 7 = .ok (.putfield 34, 3) := by decide +kernel
theorem dX0_countCopy_10 : decode cX0_countCopy 10 = .ok (.aload_n 0, 1) := by decide +kernel
theorem dX0_countCopy_11 : decode cX0_countCopy 11 = .ok (.dup, 1) := by decide +kernel
theorem dX0_countCopy_12 : decode cX0_countCopy 12 = .ok (.getfield 37, 3) := by decide +kernel
theorem dX0_countCopy_15 : decode cX0_countCopy 15 = .ok (.iconst 1, 1) := by decide +kernel
theorem dX0_countCopy_16 : decode cX0_countCopy 16 = .ok (.iadd, 1) := by decide +kernel
theorem dX0_countCopy_17 : decode cX0_countCopy 17 = .ok (.putfield 37, 3) := by decide +kernel
theorem dX0_countCopy_20 : decode cX0_countCopy 20 = .ok (.return_, 1) := by decide +kernel
theorem dX0_close_0 : decode cX0_close 0 = .ok (.aload_n 0, 1) := by decide +kernel
theorem dX0_close_1 : decode cX0_close 1 = .ok (.iload_n 1, 1) := by decide +kernel
theorem dX0_close_2 : decode cX0_close 2 = .ok (.putfield 40, 3) := by decide +kernel
theorem dX0_close_5 : decode cX0_close 5 = .ok (.return_, 1) := by decide +kernel
theorem dX0_hasBlock_0 : decode cX0_hasBlock 0 = .ok (.aload_n 0, 1) := by decide +kernel
theorem dX0_hasBlock_1 : decode cX0_hasBlock 1 = .ok (.getfield 30, 3) := by decide +kernel
theorem dX0_hasBlock_4 : decode cX0_hasBlock 4 = .ok (.ifCond .le 7, 3) := by decide +kernel
theorem dX0_hasBlock_7 : decode cX0_hasBlock 7 = .ok (.iconst 1, 1) := by decide +kernel
theorem dX0_hasBlock_8 : decode cX0_hasBlock 8 = .ok (.goto 4, 3) := by decide +kernel
theorem dX0_hasBlock_11 : decode cX0_hasBlock 11 = .ok (.iconst 0, 1) := by decide +kernel
theorem dX0_hasBlock_12 : decode cX0_hasBlock 12 = .ok (.ireturn, 1) := by decide +kernel
theorem dX0_tree_0 : decode cX0_tree 0 = .ok (.iload_n 1, 1) := by decide +kernel
theorem dX0_tree_1 : decode cX0_tree 1 = .ok (.ifCond .ne 10, 3) := by decide +kernel
theorem dX0_tree_4 : decode cX0_tree 4 = .ok (.aload_n 0, 1) := by decide +kernel
theorem dX0_tree_5 : decode cX0_tree 5 = .ok (.getfield 14, 3) := by decide +kernel
theorem dX0_tree_8 : decode cX0_tree 8 = .ok (.goto 19, 3) := by decide +kernel
theorem dX0_tree_11 : decode cX0_tree 11 = .ok (.iload_n 1, 1) := by decide +kernel
theorem dX0_tree_12 : decode cX0_tree 12 = .ok (.iconst 1, 1) := by decide +kernel
theorem dX0_tree_13 : decode cX0_tree 13 = .ok (.if_icmp .ne 10, 3) := by decide +kernel
theorem dX0_tree_16 : decode cX0_tree 16 = .ok (.aload_n 0, 1) := by decide +kernel
theorem dX0_tree_17 : decode cX0_tree 17 = .ok (.getfield 20, 3) := by decide +kernel
theorem dX0_tree_20 : decode cX0_tree 20 = .ok (.goto 7, 3) := by decide +kernel
theorem dX0_tree_23 : decode cX0_tree 23 = .ok (.aload_n 0, 1) := by decide +kernel
theorem dX0_tree_24 : decode cX0_tree 24 = .ok (.getfield 23, 3) := by decide +kernel
theorem dX0_tree_27 : decode cX0_tree 27 = .ok (.areturn, 1) := by decide +kernel
theorem dX0_number_0 : decode cX0_number 0 = .ok (.aload_n 0, 1) := by decide +kernel
theorem dX0_number_1 : decode cX0_number 1 = .ok (.getfield 26, 3) := by decide +kernel
theorem dX0_number_4 : decode cX0_number 4 = .ok (.ifCond .ne 5, 3) := by decide +kernel
theorem dX0_number_7 : decode cX0_number 7 = .ok (.iconst (-1), 1) := by decide +kernel
theorem dX0_number_8 : decode cX0_number 8 = .ok (.ireturn, 1) := by decide +kernel
theorem dX0_number_9 : decode cX0_number 9 = .ok (.iload_n 1, 1) := by decide +kernel
theorem dX0_number_10 : decode cX0_number 10 = .ok (.tableswitch 50 0 3 #[30, 35, 40, 45], 30) := by decide +kernel
theorem dX0_number_40 : decode cX0_number 40 = .ok (.aload_n 0, 1) := by decide +kernel
theorem dX0_number_41 : decode cX0_number 41 = .ok (.getfield 30, 3) := by decide +kernel
theorem dX0_number_44 : decode cX0_number 44 = .ok (.ireturn, 1) := by decide +kernel
theorem dX0_number_45 : decode cX0_number 45 = .ok (.aload_n 0, 1) := by decide +kernel
theorem dX0_number_46 : decode cX0_number 46 = .ok (.getfield 34, 3) := by decide +kernel
theorem dX0_number_49 : decode cX0_number 49 = .ok (.ireturn, 1) := by decide +kernel
theorem dX0_number_50 : decode cX0_number 50 = .ok (.aload_n 0, 1) := by decide +kernel
theorem dX0_number_51 : decode cX0_number 51 = .ok (.getfield 37, 3) := by decide +kernel
theorem dX0_number_54 : decode cX0_number 54 = .ok (.ireturn, 1) := by decide +kernel
theorem dX0_number_55 : decode cX0_number 55 = .ok (.aload_n 0, 1) := by decide +kernel
theorem dX0_number_56 : decode cX0_number 56 = .ok (.getfield 40, 3) := by decide +kernel
theorem dX0_number_59 : decode cX0_number 59 = .ok (.ireturn, 1) := by decide +kernel
theorem dX0_number_60 : decode cX0_number 60 = .ok (.iconst (-1), 1) := by decide +kernel
theorem dX0_number_61 : decode cX0_number 61 = .ok (.ireturn, 1) := by decide +kernel
theorem dX1_init_0 : decode cX1_init 0 = .ok (.aload_n 0, 1) := by decide +kernel
theorem dX1_init_1 : decode cX1_init 1 = .ok (.invokespecial 3, 3) := by decide +kernel
theorem dX1_init_4 : decode cX1_init 4 = .ok (.aload_n 0, 1) := by decide +kernel
theorem dX1_init_5 : decode cX1_init 5 = .ok (.aload_n 1, 1) := by decide +kernel
theorem dX1_init_6 : decode cX1_init 6 = .ok (.putfield 9, 3) := by decide +kernel
theorem dX1_init_9 : decode cX1_init 9 = .ok (.aload_n 0, 1) := by decide +kernel
theorem dX1_init_10 : decode cX1_init 10 = .ok (.iconst 0, 1) := by decide +kernel
theorem dX1_init_11 : decode cX1_init 11 = .ok (.putfield 15, 3) := by decide +kernel
theorem dX1_init_14 : decode cX1_init 14 = .ok (.return_, 1) := by decide +kernel
theorem dX1_open_0 : decode cX1_open 0 = .ok (.aload_n 0, 1) := by decide +kernel
theorem dX1_open_1 : decode cX1_open 1 = .ok (.getfield 9, 3) := by decide +kernel
theorem dX1_open_4 : decode cX1_open 4 = .ok (.invokevirtual 19, 3) := by decide +kernel
theorem dX1_open_7 : decode cX1_open 7 = .ok (.aload_n 0, 1) := by decide +kernel
theorem dX1_open_8 : decode cX1_open 8 = .ok (.iconst 0, 1) := by decide +kernel
theorem dX1_open_9 : decode cX1_open 9 = .ok (.putfield 15, 3) := by decide +kernel
theorem dX1_open_12 : decode cX1_open 12 = .ok (.return_, 1) := by decide +kernel
theorem dX1_given_0 : decode cX1_given 0 = .ok (.aload_n 0, 1) := by decide +kernel
theorem dX1_given_1 : decode cX1_given 1 = .ok (.getfield 15, 3) := by decide +kernel
theorem dX1_given_4 : decode cX1_given 4 = .ok (.ireturn, 1) := by decide +kernel
theorem dX1_give_0 : decode cX1_give 0 = .ok (.iload_n 2, 1) := by decide +kernel
theorem dX1_give_1 : decode cX1_give 1 = .ok (.iconst 1, 1) := by decide +kernel
theorem dX1_give_2 : decode cX1_give 2 = .ok (.isub, 1) := by decide +kernel
theorem dX1_give_3 : decode cX1_give 3 = .ok (.istore_n 3, 1) := by decide +kernel
theorem dX1_give_4 : decode cX1_give 4 = .ok (.iload_n 3, 1) := by decide +kernel
theorem dX1_give_5 : decode cX1_give 5 = .ok (.ifCond .lt 60, 3) := by decide +kernel
theorem dX1_give_8 : decode cX1_give 8 = .ok (.aload_n 0, 1) := by decide +kernel
theorem dX1_give_9 : decode cX1_give 9 = .ok (.getfield 15, 3) := by decide +kernel
theorem dX1_give_12 : decode cX1_give 12 = .ok (.bipush 7, 2) := by decide +kernel
theorem dX1_give_14 : decode cX1_give 14 = .ok (.iand, 1) := by decide +kernel
theorem dX1_give_15 : decode cX1_give 15 = .ok (.ifCond .ne 11, 3) := by decide +kernel
theorem dX1_give_18 : decode cX1_give 18 = .ok (.aload_n 0, 1) := by decide +kernel
theorem dX1_give_19 : decode cX1_give 19 = .ok (.getfield 9, 3) := by decide +kernel
theorem dX1_give_22 : decode cX1_give 22 = .ok (.iconst 0, 1) := by decide +kernel
theorem dX1_give_23 : decode cX1_give 23 = .ok (.invokevirtual 24, 3) := by decide +kernel
theorem dX1_give_26 : decode cX1_give 26 = .ok (.aload_n 0, 1) := by decide +kernel
theorem dX1_give_27 : decode cX1_give 27 = .ok (.getfield 9, 3) := by decide +kernel
theorem dX1_give_30 : decode cX1_give 30 = .ok (.iload_n 1, 1) := by decide +kernel
theorem dX1_give_31 : decode cX1_give 31 = .ok (.iload_n 3, 1) := by decide +kernel
theorem dX1_give_32 : decode cX1_give 32 = .ok (.ishr, 1) := by decide +kernel
theorem dX1_give_33 : decode cX1_give 33 = .ok (.iconst 1, 1) := by decide +kernel
theorem dX1_give_34 : decode cX1_give 34 = .ok (.iand, 1) := by decide +kernel
theorem dX1_give_35 : decode cX1_give 35 = .ok (.bipush 7, 2) := by decide +kernel
theorem dX1_give_37 : decode cX1_give 37 = .ok (.aload_n 0, 1) := by decide +kernel
theorem dX1_give_38 : decode cX1_give 38 = .ok (.getfield 15, 3) := by decide +kernel
theorem dX1_give_41 : decode cX1_give 41 = .ok (.bipush 7, 2) := by decide +kernel
theorem dX1_give_43 : decode cX1_give 43 = .ok (.iand, 1) := by decide +kernel
theorem dX1_give_44 : decode cX1_give 44 = .ok (.isub, 1) := by decide +kernel
theorem dX1_give_45 : decode cX1_give 45 = .ok (.ishl, 1) := by decide +kernel
theorem dX1_give_46 : decode cX1_give 46 = .ok (.invokevirtual 28, 3) := by decide +kernel
theorem dX1_give_49 : decode cX1_give 49 = .ok (.aload_n 0, 1) := by decide +kernel
theorem dX1_give_50 : decode cX1_give 50 = .ok (.dup, 1) := by decide +kernel
theorem dX1_give_51 : decode cX1_give 51 = .ok (.getfield 15, 3) := by decide +kernel
theorem dX1_give_54 : decode cX1_give 54 = .ok (.iconst 1, 1) := by decide +kernel
theorem dX1_give_55 : decode cX1_give 55 = .ok (.iadd, 1) := by decide +kernel
theorem dX1_give_56 : decode cX1_give 56 = .ok (.putfield 15, 3) := by decide +kernel
theorem dX1_give_59 : decode cX1_give 59 = .ok (.iinc 3 (-1), 3) := by decide +kernel
theorem dX1_give_62 : decode cX1_give 62 = .ok (.goto (-58), 3) := by decide +kernel
theorem dX1_give_65 : decode cX1_give 65 = .ok (.return_, 1) := by decide +kernel
theorem dX1_giveSymbol_0 : decode cX1_giveSymbol 0 = .ok (.aload_n 1, 1) := by decide +kernel
theorem dX1_giveSymbol_1 : decode cX1_giveSymbol 1 = .ok (.invokevirtual 31, 3) := by decide +kernel
theorem dX1_giveSymbol_4 : decode cX1_giveSymbol 4 = .ok (.ifCond .ne 17, 3) := by decide +kernel
theorem dX1_giveSymbol_7 : decode cX1_giveSymbol 7 = .ok (.aload_n 0, 1) := by decide +kernel
theorem dX1_giveSymbol_8 : decode cX1_giveSymbol 8 = .ok (.aload_n 1, 1) := by decide +kernel
theorem dX1_giveSymbol_9 : decode cX1_giveSymbol 9 = .ok (.iload_n 2, 1) := by decide +kernel
theorem dX1_giveSymbol_10 : decode cX1_giveSymbol 10 = .ok (.invokevirtual 37, 3) := by decide +kernel
theorem dX1_giveSymbol_13 : decode cX1_giveSymbol 13 = .ok (.aload_n 1, 1) := by decide +kernel
theorem dX1_giveSymbol_14 : decode cX1_giveSymbol 14 = .ok (.iload_n 2, 1) := by decide +kernel
theorem dX1_giveSymbol_15 : decode cX1_giveSymbol 15 = .ok (.invokevirtual 41, 3) := by decide +kernel
theorem dX1_giveSymbol_18 : decode cX1_giveSymbol 18 = .ok (.invokevirtual 44, 3) := by decide +kernel
theorem dX1_giveSymbol_21 : decode cX1_giveSymbol 21 = .ok (.return_, 1) := by decide +kernel
theorem dX1_giveLength_0 : decode cX1_giveLength 0 = .ok (.aload_n 0, 1) := by decide +kernel
theorem dX1_giveLength_1 : decode cX1_giveLength 1 = .ok (.iload_n 1, 1) := by decide +kernel
theorem dX1_giveLength_2 : decode cX1_giveLength 2 = .ok (.bipush 7, 2) := by decide +kernel
theorem dX1_giveLength_4 : decode cX1_giveLength 4 = .ok (.invokestatic 48, 3) := by decide +kernel
theorem dX1_giveLength_7 : decode cX1_giveLength 7 = .ok (.iconst 3, 1) := by decide +kernel
theorem dX1_giveLength_8 : decode cX1_giveLength 8 = .ok (.invokevirtual 44, 3) := by decide +kernel
theorem dX1_giveLength_11 : decode cX1_giveLength 11 = .ok (.iload_n 1, 1) := by decide +kernel
theorem dX1_giveLength_12 : decode cX1_giveLength 12 = .ok (.bipush 7, 2) := by decide +kernel
theorem dX1_giveLength_14 : decode cX1_giveLength 14 = .ok (.if_icmp .lt 29, 3) := by decide +kernel
theorem dX1_giveLength_17 : decode cX1_giveLength 17 = .ok (.bipush 7, 2) := by decide +kernel
theorem dX1_giveLength_19 : decode cX1_giveLength 19 = .ok (.istore_n 2, 1) := by decide +kernel
theorem dX1_giveLength_20 : decode cX1_giveLength 20 = .ok (.iload_n 2, 1) := by decide +kernel
theorem dX1_giveLength_21 : decode cX1_giveLength 21 = .ok (.iload_n 1, 1) := by decide +kernel
theorem dX1_giveLength_22 : decode cX1_giveLength 22 = .ok (.if_icmp .ge 15, 3) := by decide +kernel
theorem dX1_giveLength_25 : decode cX1_giveLength 25 = .ok (.aload_n 0, 1) := by decide +kernel
theorem dX1_giveLength_26 : decode cX1_giveLength 26 = .ok (.iconst 1, 1) := by decide +kernel
theorem dX1_giveLength_27 : decode cX1_giveLength 27 = .ok (.iconst 1, 1) := by decide +kernel
theorem dX1_giveLength_28 : decode cX1_giveLength 28 = .ok (.invokevirtual 44, 3) := by decide +kernel
theorem dX1_giveLength_31 : decode cX1_giveLength 31 = .ok (.iinc 2 1, 3) := by decide +kernel
theorem dX1_giveLength_34 : decode cX1_giveLength 34 = .ok (.goto (-14), 3) := by decide +kernel
theorem dX1_giveLength_37 : decode cX1_giveLength 37 = .ok (.aload_n 0, 1) := by decide +kernel
theorem dX1_giveLength_38 : decode cX1_giveLength 38 = .ok (.iconst 0, 1) := by decide +kernel
theorem dX1_giveLength_39 : decode cX1_giveLength 39 = .ok (.iconst 1, 1) := by decide +kernel
theorem dX1_giveLength_40 : decode cX1_giveLength 40 = .ok (.invokevirtual 44, 3) := by decide +kernel
theorem dX1_giveLength_43 : decode cX1_giveLength 43 = .ok (.return_, 1) := by decide +kernel
theorem dX1_giveAlone_0 : decode cX1_giveAlone 0 = .ok (.aload_n 0, 1) := by decide +kernel
theorem dX1_giveAlone_1 : decode cX1_giveAlone 1 = .ok (.iconst 0, 1) := by decide +kernel
theorem dX1_giveAlone_2 : decode cX1_giveAlone 2 = .ok (.iload_n 2, 1) := by decide +kernel
theorem dX1_giveAlone_3 : decode cX1_giveAlone 3 = .ok (.invokevirtual 44, 3) := by decide +kernel
theorem dX1_giveAlone_6 : decode cX1_giveAlone 6 = .ok (.aload_n 0, 1) := by decide +kernel
theorem dX1_giveAlone_7 : decode cX1_giveAlone 7 = .ok (.iload_n 1, 1) := by decide +kernel
theorem dX1_giveAlone_8 : decode cX1_giveAlone 8 = .ok (.iload_n 2, 1) := by decide +kernel
theorem dX1_giveAlone_9 : decode cX1_giveAlone 9 = .ok (.invokevirtual 44, 3) := by decide +kernel
theorem dX1_giveAlone_12 : decode cX1_giveAlone 12 = .ok (.return_, 1) := by decide +kernel
theorem dX2_init_0 : decode cX2_init 0 = .ok (.aload_n 0, 1) := by decide +kernel
theorem dX2_init_1 : decode cX2_init 1 = .ok (.invokespecial 3, 3) := by decide +kernel
theorem dX2_init_4 : decode cX2_init 4 = .ok (.aload_n 0, 1) := by decide +kernel
theorem dX2_init_5 : decode cX2_init 5 = .ok (.aload_n 1, 1) := by decide +kernel
theorem dX2_init_6 : decode cX2_init 6 = .ok (.putfield 9, 3) := by decide +kernel
theorem dX2_init_9 : decode cX2_init 9 = .ok (.aload_n 0, 1) := by decide +kernel
theorem dX2_init_10 : decode cX2_init 10 = .ok (.iconst 0, 1) := by decide +kernel
theorem dX2_init_11 : decode cX2_init 11 = .ok (.putfield 15, 3) := by decide +kernel
theorem dX2_init_14 : decode cX2_init 14 = .ok (.aload_n 0, 1) := by decide +kernel
theorem dX2_init_15 : decode cX2_init 15 = .ok (.iconst 0, 1) := by decide +kernel
theorem dX2_init_16 : decode cX2_init 16 = .ok (.putfield 19, 3) := by decide +kernel
theorem dX2_init_19 : decode cX2_init 19 = .ok (.return_, 1) := by decide +kernel
theorem dX2_open_0 : decode cX2_open 0 = .ok (.aload_n 0, 1) := by decide +kernel
theorem dX2_open_1 : decode cX2_open 1 = .ok (.bipush 8, 2) := by decide +kernel
theorem dX2_open_3 : decode cX2_open 3 = .ok (.iload_n 1, 1) := by decide +kernel
theorem dX2_open_4 : decode cX2_open 4 = .ok (.aload_n 0, 1) := by decide +kernel
theorem dX2_open_5 : decode cX2_open 5 = .ok (.getfield 9, 3) := by decide +kernel
theorem dX2_open_8 : decode cX2_open 8 = .ok (.invokevirtual 22, 3) := by decide +kernel
theorem dX2_open_11 : decode cX2_open 11 = .ok (.invokestatic 28, 3) := by decide +kernel
theorem dX2_open_14 : decode cX2_open 14 = .ok (.imul, 1) := by decide +kernel
theorem dX2_open_15 : decode cX2_open 15 = .ok (.putfield 15, 3) := by decide +kernel
theorem dX2_open_18 : decode cX2_open 18 = .ok (.aload_n 0, 1) := by decide +kernel
theorem dX2_open_19 : decode cX2_open 19 = .ok (.iconst 0, 1) := by decide +kernel
theorem dX2_open_20 : decode cX2_open 20 = .ok (.putfield 19, 3) := by decide +kernel
theorem dX2_open_23 : decode cX2_open 23 = .ok (.return_, 1) := by decide +kernel
theorem dX2_taken_0 : decode cX2_taken 0 = .ok (.aload_n 0, 1) := by decide +kernel
theorem dX2_taken_1 : decode cX2_taken 1 = .ok (.getfield 19, 3) := by decide +kernel
theorem dX2_taken_4 : decode cX2_taken 4 = .ok (.ireturn, 1) := by decide +kernel
theorem dX2_take_0 : decode cX2_take 0 = .ok (.iload_n 1, 1) := by decide +kernel
theorem dX2_take_1 : decode cX2_take 1 = .ok (.aload_n 0, 1) := by decide +kernel
theorem dX2_take_2 : decode cX2_take 2 = .ok (.getfield 15, 3) := by decide +kernel
theorem dX2_take_5 : decode cX2_take 5 = .ok (.aload_n 0, 1) := by decide +kernel
theorem dX2_take_6 : decode cX2_take 6 = .ok (.getfield 19, 3) := by decide +kernel
theorem dX2_take_9 : decode cX2_take 9 = .ok (.isub, 1) := by decide +kernel
theorem dX2_take_10 : decode cX2_take 10 = .ok (.if_icmp .le 13, 3) := by decide +kernel
theorem dX2_take_13 : decode cX2_take 13 = .ok (.aload_n 0, 1) := by decide +kernel
theorem dX2_take_14 : decode cX2_take 14 = .ok (.aload_n 0, 1) := by decide +kernel
theorem dX2_take_15 : decode cX2_take 15 = .ok (.getfield 15, 3) := by decide +kernel
theorem dX2_take_18 : decode cX2_take 18 = .ok (.putfield 19, 3) := by decide +kernel
theorem dX2_take_21 : decode cX2_take 21 = .ok (.iconst (-1), 1) := by decide +kernel
theorem dX2_take_22 : decode cX2_take 22 = .ok (.ireturn, 1) := by decide +kernel
theorem dX2_take_23 : decode cX2_take 23 = .ok (.iconst 0, 1) := by decide +kernel
theorem dX2_take_24 : decode cX2_take 24 = .ok (.istore_n 2, 1) := by decide +kernel
theorem dX2_take_25 : decode cX2_take 25 = .ok (.iconst 0, 1) := by decide +kernel
theorem dX2_take_26 : decode cX2_take 26 = .ok (.istore_n 3, 1) := by decide +kernel
theorem dX2_take_27 : decode cX2_take 27 = .ok (.iload_n 3, 1) := by decide +kernel
theorem dX2_take_28 : decode cX2_take 28 = .ok (.iload_n 1, 1) := by decide +kernel
theorem dX2_take_29 : decode cX2_take 29 = .ok (.if_icmp .ge 51, 3) := by decide +kernel
theorem dX2_take_32 : decode cX2_take 32 = .ok (.iload_n 2, 1) := by decide +kernel
theorem dX2_take_33 : decode cX2_take 33 = .ok (.iconst 1, 1) := by decide +kernel
theorem dX2_take_34 : decode cX2_take 34 = .ok (.ishl, 1) := by decide +kernel
theorem dX2_take_35 : decode cX2_take 35 = .ok (.aload_n 0, 1) := by decide +kernel
theorem dX2_take_36 : decode cX2_take 36 = .ok (.getfield 9, 3) := by decide +kernel
theorem dX2_take_39 : decode cX2_take 39 = .ok (.getfield 34, 3) := by decide +kernel
theorem dX2_take_42 : decode cX2_take 42 = .ok (.aload_n 0, 1) := by decide +kernel
theorem dX2_take_43 : decode cX2_take 43 = .ok (.getfield 19, 3) := by decide +kernel
theorem dX2_take_46 : decode cX2_take 46 = .ok (.iconst 3, 1) := by decide +kernel
theorem dX2_take_47 : decode cX2_take 47 = .ok (.ishr, 1) := by decide +kernel
theorem dX2_take_48 : decode cX2_take 48 = .ok (.iaload, 1) := by decide +kernel
theorem dX2_take_49 : decode cX2_take 49 = .ok (.bipush 7, 2) := by decide +kernel
theorem dX2_take_51 : decode cX2_take 51 = .ok (.aload_n 0, 1) := by decide +kernel
theorem dX2_take_52 : decode cX2_take 52 = .ok (.getfield 19, 3) := by decide +kernel
theorem dX2_take_55 : decode cX2_take 55 = .ok (.bipush 7, 2) := by decide +kernel
theorem dX2_take_57 : decode cX2_take 57 = .ok (.iand, 1) := by decide +kernel
theorem dX2_take_58 : decode cX2_take 58 = .ok (.isub, 1) := by decide +kernel
theorem dX2_take_59 : decode cX2_take 59 = .ok (.ishr, 1) := by decide +kernel
theorem dX2_take_60 : decode cX2_take 60 = .ok (.iconst 1, 1) := by decide +kernel
theorem dX2_take_61 : decode cX2_take 61 = .ok (.iand, 1) := by decide +kernel
theorem dX2_take_62 : decode cX2_take 62 = .ok (.ior, 1) := by decide +kernel
theorem dX2_take_63 : decode cX2_take 63 = .ok (.istore_n 2, 1) := by decide +kernel
theorem dX2_take_64 : decode cX2_take 64 = .ok (.aload_n 0, 1) := by decide +kernel
theorem dX2_take_65 : decode cX2_take 65 = .ok (.dup, 1) := by decide +kernel
theorem dX2_take_66 : decode cX2_take 66 = .ok (.getfield 19, 3) := by decide +kernel
theorem dX2_take_69 : decode cX2_take 69 = .ok (.iconst 1, 1) := by decide +kernel
theorem dX2_take_70 : decode cX2_take 70 = .ok (.iadd, 1) := by decide +kernel
theorem dX2_take_71 : decode cX2_take 71 = .ok (.putfield 19, 3) := by decide +kernel
theorem dX2_take_74 : decode cX2_take 74 = .ok (.iinc 3 1, 3) := by decide +kernel
theorem dX2_take_77 : decode cX2_take 77 = .ok (.goto (-50), 3) := by decide +kernel
theorem dX2_take_80 : decode cX2_take 80 = .ok (.iload_n 2, 1) := by decide +kernel
theorem dX2_take_81 : decode cX2_take 81 = .ok (.ireturn, 1) := by decide +kernel
theorem dX2_takeSymbol_0 : decode cX2_takeSymbol 0 = .ok (.aload_n 1, 1) := by decide +kernel
theorem dX2_takeSymbol_1 : decode cX2_takeSymbol 1 = .ok (.invokevirtual 38, 3) := by decide +kernel
theorem dX2_takeSymbol_4 : decode cX2_takeSymbol 4 = .ok (.ifCond .eq 8, 3) := by decide +kernel
theorem dX2_takeSymbol_7 : decode cX2_takeSymbol 7 = .ok (.aload_n 1, 1) := by decide +kernel
theorem dX2_takeSymbol_8 : decode cX2_takeSymbol 8 = .ok (.invokevirtual 44, 3) := by decide +kernel
theorem dX2_takeSymbol_11 : decode cX2_takeSymbol 11 = .ok (.ireturn, 1) := by decide +kernel
theorem dX2_takeSymbol_12 : decode cX2_takeSymbol 12 = .ok (.iconst 0, 1) := by decide +kernel
theorem dX2_takeSymbol_13 : decode cX2_takeSymbol 13 = .ok (.istore_n 2, 1) := by decide +kernel
theorem dX2_takeSymbol_14 : decode cX2_takeSymbol 14 = .ok (.iconst 1, 1) := by decide +kernel
theorem dX2_takeSymbol_15 : decode cX2_takeSymbol 15 = .ok (.istore_n 3, 1) := by decide +kernel
theorem dX2_takeSymbol_16 : decode cX2_takeSymbol 16 = .ok (.iload_n 3, 1) := by decide +kernel
theorem dX2_takeSymbol_17 : decode cX2_takeSymbol 17 = .ok (.bipush 16, 2) := by decide +kernel
theorem dX2_takeSymbol_19 : decode cX2_takeSymbol 19 = .ok (.if_icmp .gt 48, 3) := by decide +kernel
theorem dX2_takeSymbol_22 : decode cX2_takeSymbol 22 = .ok (.aload_n 0, 1) := by decide +kernel
theorem dX2_takeSymbol_23 : decode cX2_takeSymbol 23 = .ok (.iconst 1, 1) := by decide +kernel
theorem dX2_takeSymbol_24 : decode cX2_takeSymbol 24 = .ok (.invokevirtual 47, 3) := by decide +kernel
theorem dX2_takeSymbol_27 : decode cX2_takeSymbol 27 = .ok (.istore 4, 2) := by decide +kernel
theorem dX2_takeSymbol_29 : decode cX2_takeSymbol 29 = .ok (.iload 4, 2) := by decide +kernel
theorem dX2_takeSymbol_31 : decode cX2_takeSymbol 31 = .ok (.iconst (-1), 1) := by decide +kernel
theorem dX2_takeSymbol_32 : decode cX2_takeSymbol 32 = .ok (.if_icmp .ne 5, 3) := by decide +kernel
theorem dX2_takeSymbol_35 : decode cX2_takeSymbol 35 = .ok (.iconst (-1), 1) := by decide +kernel
theorem dX2_takeSymbol_36 : decode cX2_takeSymbol 36 = .ok (.ireturn, 1) := by decide +kernel
theorem dX2_takeSymbol_37 : decode cX2_takeSymbol 37 = .ok (.iload_n 2, 1) := by decide +kernel
theorem dX2_takeSymbol_38 : decode cX2_takeSymbol 38 = .ok (.iconst 1, 1) := by decide +kernel
theorem dX2_takeSymbol_39 : decode cX2_takeSymbol 39 = .ok (.ishl, 1) := by decide +kernel
theorem dX2_takeSymbol_40 : decode cX2_takeSymbol 40 = .ok (.iload 4, 2) := by decide +kernel
theorem dX2_takeSymbol_42 : decode cX2_takeSymbol 42 = .ok (.ior, 1) := by decide +kernel
theorem dX2_takeSymbol_43 : decode cX2_takeSymbol 43 = .ok (.istore_n 2, 1) := by decide +kernel
theorem dX2_takeSymbol_44 : decode cX2_takeSymbol 44 = .ok (.aload_n 1, 1) := by decide +kernel
theorem dX2_takeSymbol_45 : decode cX2_takeSymbol 45 = .ok (.iload_n 2, 1) := by decide +kernel
theorem dX2_takeSymbol_46 : decode cX2_takeSymbol 46 = .ok (.iload_n 3, 1) := by decide +kernel
theorem dX2_takeSymbol_47 : decode cX2_takeSymbol 47 = .ok (.invokevirtual 51, 3) := by decide +kernel
theorem dX2_takeSymbol_50 : decode cX2_takeSymbol 50 = .ok (.istore 5, 2) := by decide +kernel
theorem dX2_takeSymbol_52 : decode cX2_takeSymbol 52 = .ok (.iload 5, 2) := by decide +kernel
theorem dX2_takeSymbol_54 : decode cX2_takeSymbol 54 = .ok (.iconst (-1), 1) := by decide +kernel
theorem dX2_takeSymbol_55 : decode cX2_takeSymbol 55 = .ok (.if_icmp .eq 6, 3) := by decide +kernel
theorem dX2_takeSymbol_58 : decode cX2_takeSymbol 58 = .ok (.iload 5, 2) := by decide +kernel
theorem dX2_takeSymbol_60 : decode cX2_takeSymbol 60 = .ok (.ireturn, 1) := by decide +kernel
theorem dX2_takeSymbol_61 : decode cX2_takeSymbol 61 = .ok (.iinc 3 1, 3) := by decide +kernel
theorem dX2_takeSymbol_64 : decode cX2_takeSymbol 64 = .ok (.goto (-48), 3) := by decide +kernel
theorem dX2_takeSymbol_67 : decode cX2_takeSymbol 67 = .ok (.iconst (-1), 1) := by decide +kernel
theorem dX2_takeSymbol_68 : decode cX2_takeSymbol 68 = .ok (.ireturn, 1) := by decide +kernel
theorem dX2_takeLength_0 : decode cX2_takeLength 0 = .ok (.aload_n 0, 1) := by decide +kernel
theorem dX2_takeLength_1 : decode cX2_takeLength 1 = .ok (.iconst 3, 1) := by decide +kernel
theorem dX2_takeLength_2 : decode cX2_takeLength 2 = .ok (.invokevirtual 47, 3) := by decide +kernel
theorem dX2_takeLength_5 : decode cX2_takeLength 5 = .ok (.istore_n 1, 1) := by decide +kernel
theorem dX2_takeLength_6 : decode cX2_takeLength 6 = .ok (.iload_n 1, 1) := by decide +kernel
theorem dX2_takeLength_7 : decode cX2_takeLength 7 = .ok (.bipush 7, 2) := by decide +kernel
theorem dX2_takeLength_9 : decode cX2_takeLength 9 = .ok (.if_icmp .eq 5, 3) := by decide +kernel
theorem dX2_takeLength_12 : decode cX2_takeLength 12 = .ok (.iload_n 1, 1) := by decide +kernel
theorem dX2_takeLength_13 : decode cX2_takeLength 13 = .ok (.ireturn, 1) := by decide +kernel
theorem dX2_takeLength_14 : decode cX2_takeLength 14 = .ok (.iload_n 1, 1) := by decide +kernel
theorem dX2_takeLength_15 : decode cX2_takeLength 15 = .ok (.bipush 16, 2) := by decide +kernel
theorem dX2_takeLength_17 : decode cX2_takeLength 17 = .ok (.if_icmp .gt 28, 3) := by decide +kernel
theorem dX2_takeLength_20 : decode cX2_takeLength 20 = .ok (.aload_n 0, 1) := by decide +kernel
theorem dX2_takeLength_21 : decode cX2_takeLength 21 = .ok (.iconst 1, 1) := by decide +kernel
theorem dX2_takeLength_22 : decode cX2_takeLength 22 = .ok (.invokevirtual 47, 3) := by decide +kernel
theorem dX2_takeLength_25 : decode cX2_takeLength 25 = .ok (.istore_n 2, 1) := by decide +kernel
theorem dX2_takeLength_26 : decode cX2_takeLength 26 = .ok (.iload_n 2, 1) := by decide +kernel
theorem dX2_takeLength_27 : decode cX2_takeLength 27 = .ok (.iconst (-1), 1) := by decide +kernel
theorem dX2_takeLength_28 : decode cX2_takeLength 28 = .ok (.if_icmp .ne 5, 3) := by decide +kernel
theorem dX2_takeLength_31 : decode cX2_takeLength 31 = .ok (.iconst (-1), 1) := by decide +kernel
theorem dX2_takeLength_32 : decode cX2_takeLength 32 = .ok (.ireturn, 1) := by decide +kernel
theorem dX2_takeLength_33 : decode cX2_takeLength 33 = .ok (.iload_n 2, 1) := by decide +kernel
theorem dX2_takeLength_34 : decode cX2_takeLength 34 = .ok (.ifCond .ne 5, 3) := by decide +kernel
theorem dX2_takeLength_37 : decode cX2_takeLength 37 = .ok (.iload_n 1, 1) := by decide +kernel
theorem dX2_takeLength_38 : decode cX2_takeLength 38 = .ok (.ireturn, 1) := by decide +kernel
theorem dX2_takeLength_39 : decode cX2_takeLength 39 = .ok (.iinc 1 1, 3) := by decide +kernel
theorem dX2_takeLength_42 : decode cX2_takeLength 42 = .ok (.goto (-28), 3) := by decide +kernel
theorem dX2_takeLength_45 : decode cX2_takeLength 45 = .ok (.iload_n 1, 1) := by decide +kernel
theorem dX2_takeLength_46 : decode cX2_takeLength 46 = .ok (.ireturn, 1) := by decide +kernel
theorem dX2_takeDistance_0 : decode cX2_takeDistance 0 = .ok (.aload_n 0, 1) := by decide +kernel
theorem dX2_takeDistance_1 : decode cX2_takeDistance 1 = .ok (.aload_n 1, 1) := by decide +kernel
theorem dX2_takeDistance_2 : decode cX2_takeDistance 2 = .ok (.invokevirtual 54, 3) := by decide +kernel
theorem dX2_takeDistance_5 : decode cX2_takeDistance 5 = .ok (.istore_n 2, 1) := by decide +kernel
theorem dX2_takeDistance_6 : decode cX2_takeDistance 6 = .ok (.iload_n 2, 1) := by decide +kernel
theorem dX2_takeDistance_7 : decode cX2_takeDistance 7 = .ok (.iconst (-1), 1) := by decide +kernel
theorem dX2_takeDistance_8 : decode cX2_takeDistance 8 = .ok (.if_icmp .ne 5, 3) := by decide +kernel
theorem dX2_takeDistance_11 : decode cX2_takeDistance 11 = .ok (.iconst (-1), 1) := by decide +kernel
theorem dX2_takeDistance_12 : decode cX2_takeDistance 12 = .ok (.ireturn, 1) := by decide +kernel
theorem dX2_takeDistance_13 : decode cX2_takeDistance 13 = .ok (.iload_n 2, 1) := by decide +kernel
theorem dX2_takeDistance_14 : decode cX2_takeDistance 14 = .ok (.ifCond .ne 5, 3) := by decide +kernel
theorem dX2_takeDistance_17 : decode cX2_takeDistance 17 = .ok (.iconst 1, 1) := by decide +kernel
theorem dX2_takeDistance_18 : decode cX2_takeDistance 18 = .ok (.ireturn, 1) := by decide +kernel
theorem dX2_takeDistance_19 : decode cX2_takeDistance 19 = .ok (.aload_n 0, 1) := by decide +kernel
theorem dX2_takeDistance_20 : decode cX2_takeDistance 20 = .ok (.iload_n 2, 1) := by decide +kernel
theorem dX2_takeDistance_21 : decode cX2_takeDistance 21 = .ok (.iconst 1, 1) := by decide +kernel
theorem dX2_takeDistance_22 : decode cX2_takeDistance 22 = .ok (.isub, 1) := by decide +kernel
theorem dX2_takeDistance_23 : decode cX2_takeDistance 23 = .ok (.invokevirtual 47, 3) := by decide +kernel
theorem dX2_takeDistance_26 : decode cX2_takeDistance 26 = .ok (.istore_n 3, 1) := by decide +kernel
theorem dX2_takeDistance_27 : decode cX2_takeDistance 27 = .ok (.iload_n 3, 1) := by decide +kernel
theorem dX2_takeDistance_28 : decode cX2_takeDistance 28 = .ok (.iconst (-1), 1) := by decide +kernel
theorem dX2_takeDistance_29 : decode cX2_takeDistance 29 = .ok (.if_icmp .ne 7, 3) := by decide +kernel
theorem dX2_takeDistance_32 : decode cX2_takeDistance 32 = .ok (.iconst (-1), 1) := by decide +kernel
theorem dX2_takeDistance_33 : decode cX2_takeDistance 33 = .ok (.goto 12, 3) := by decide +kernel
theorem dX2_takeDistance_36 : decode cX2_takeDistance 36 = .ok (.iconst 1, 1) := by decide +kernel
theorem dX2_takeDistance_37 : decode cX2_takeDistance 37 = .ok (.iload_n 2, 1) := by decide +kernel
theorem dX2_takeDistance_38 : decode cX2_takeDistance 38 = .ok (.iconst 1, 1) := by decide +kernel
theorem dX2_takeDistance_39 : decode cX2_takeDistance 39 = .ok (.isub, 1) := by decide +kernel
theorem dX2_takeDistance_40 : decode cX2_takeDistance 40 = .ok (.ishl, 1) := by decide +kernel
theorem dX2_takeDistance_41 : decode cX2_takeDistance 41 = .ok (.iload_n 3, 1) := by decide +kernel
theorem dX2_takeDistance_42 : decode cX2_takeDistance 42 = .ok (.iadd, 1) := by decide +kernel
theorem dX2_takeDistance_43 : decode cX2_takeDistance 43 = .ok (.iconst 1, 1) := by decide +kernel
theorem dX2_takeDistance_44 : decode cX2_takeDistance 44 = .ok (.iadd, 1) := by decide +kernel
theorem dX2_takeDistance_45 : decode cX2_takeDistance 45 = .ok (.ireturn, 1) := by decide +kernel
theorem dX3_init_0 : decode cX3_init 0 = .ok (.aload_n 0, 1) := by decide +kernel
theorem dX3_init_1 : decode cX3_init 1 = .ok (.invokespecial 3, 3) := by decide +kernel
theorem dX3_init_4 : decode cX3_init 4 = .ok (.aload_n 0, 1) := by decide +kernel
theorem dX3_init_5 : decode cX3_init 5 = .ok (.iload_n 1, 1) := by decide +kernel
theorem dX3_init_6 : decode cX3_init 6 = .ok (.newarray .int, 2) := by decide +kernel
theorem dX3_init_8 : decode cX3_init 8 = .ok (.putfield 9, 3) := by decide +kernel
theorem dX3_init_11 : decode cX3_init 11 = .ok (.aload_n 0, 1) := by decide +kernel
theorem dX3_init_12 : decode cX3_init 12 = .ok (.iconst 0, 1) := by decide +kernel
theorem dX3_init_13 : decode cX3_init 13 = .ok (.putfield 15, 3) := by decide +kernel
theorem dX3_init_16 : decode cX3_init 16 = .ok (.return_, 1) := by decide +kernel
theorem dX3_count_0 : decode cX3_count 0 = .ok (.aload_n 0, 1) := by decide +kernel
theorem dX3_count_1 : decode cX3_count 1 = .ok (.getfield 15, 3) := by decide +kernel
theorem dX3_count_4 : decode cX3_count 4 = .ok (.ireturn, 1) := by decide +kernel
theorem dX3_hasRoomFor_0 : decode cX3_hasRoomFor 0 = .ok (.iload_n 1, 1) := by decide +kernel
theorem dX3_hasRoomFor_1 : decode cX3_hasRoomFor 1 = .ok (.aload_n 0, 1) := by decide +kernel
theorem dX3_hasRoomFor_2 : decode cX3_hasRoomFor 2 = .ok (.getfield 9, 3) := by decide +kernel
theorem dX3_hasRoomFor_5 : decode cX3_hasRoomFor 5 = .ok (.arraylength, 1) := by decide +kernel
theorem dX3_hasRoomFor_6 : decode cX3_hasRoomFor 6 = .ok (.aload_n 0, 1) := by decide +kernel
theorem dX3_hasRoomFor_7 : decode cX3_hasRoomFor 7 = .ok (.getfield 15, 3) := by decide +kernel
theorem dX3_hasRoomFor_10 : decode cX3_hasRoomFor 10 = .ok (.isub, 1) := by decide +kernel
theorem dX3_hasRoomFor_11 : decode cX3_hasRoomFor 11 = .ok (.if_icmp .gt 7, 3) := by decide +kernel
theorem dX3_hasRoomFor_14 : decode cX3_hasRoomFor 14 = .ok (.iconst 1, 1) := by decide +kernel
theorem dX3_hasRoomFor_15 : decode cX3_hasRoomFor 15 = .ok (.goto 4, 3) := by decide +kernel
theorem dX3_hasRoomFor_18 : decode cX3_hasRoomFor 18 = .ok (.iconst 0, 1) := by decide +kernel
theorem dX3_hasRoomFor_19 : decode cX3_hasRoomFor 19 = .ok (.ireturn, 1) := by decide +kernel
theorem dX3_has_0 : decode cX3_has 0 = .ok (.iload_n 1, 1) := by decide +kernel
theorem dX3_has_1 : decode cX3_has 1 = .ok (.ifCond .lt 15, 3) := by decide +kernel
theorem dX3_has_4 : decode cX3_has 4 = .ok (.iload_n 1, 1) := by decide +kernel
theorem dX3_has_5 : decode cX3_has 5 = .ok (.aload_n 0, 1) := by decide +kernel
theorem dX3_has_6 : decode cX3_has 6 = .ok (.getfield 15, 3) := by decide +kernel
theorem dX3_has_9 : decode cX3_has 9 = .ok (.if_icmp .ge 7, 3) := by decide +kernel
theorem dX3_has_12 : decode cX3_has 12 = .ok (.iconst 1, 1) := by decide +kernel
theorem dX3_has_13 : decode cX3_has 13 = .ok (.goto 4, 3) := by decide +kernel
theorem dX3_has_16 : decode cX3_has 16 = .ok (.iconst 0, 1) := by decide +kernel
theorem dX3_has_17 : decode cX3_has 17 = .ok (.ireturn, 1) := by decide +kernel
theorem dX3_at_0 : decode cX3_at 0 = .ok (.aload_n 0, 1) := by decide +kernel
theorem dX3_at_1 : decode cX3_at 1 = .ok (.iload_n 1, 1) := by decide +kernel
theorem dX3_at_2 : decode cX3_at 2 = .ok (.invokevirtual 19, 3) := by decide +kernel
theorem dX3_at_5 : decode cX3_at 5 = .ok (.ifCond .eq 12, 3) := by decide +kernel
theorem dX3_at_8 : decode cX3_at 8 = .ok (.aload_n 0, 1) := by decide +kernel
theorem dX3_at_9 : decode cX3_at 9 = .ok (.getfield 9, 3) := by decide +kernel
theorem dX3_at_12 : decode cX3_at 12 = .ok (.iload_n 1, 1) := by decide +kernel
theorem dX3_at_13 : decode cX3_at 13 = .ok (.iaload, 1) := by decide +kernel
theorem dX3_at_14 : decode cX3_at 14 = .ok (.goto 4, 3) := by decide +kernel
theorem dX3_at_17 : decode cX3_at 17 = .ok (.iconst (-1), 1) := by decide +kernel
theorem dX3_at_18 : decode cX3_at 18 = .ok (.ireturn, 1) := by decide +kernel
theorem dX3_change_0 : decode cX3_change 0 = .ok (.aload_n 0, 1) := by decide +kernel
theorem dX3_change_1 : decode cX3_change 1 = .ok (.iload_n 1, 1) := by decide +kernel
theorem dX3_change_2 : decode cX3_change 2 = .ok (.invokevirtual 19, 3) := by decide +kernel
theorem dX3_change_5 : decode cX3_change 5 = .ok (.ifCond .eq 10, 3) := by decide +kernel
theorem dX3_change_8 : decode cX3_change 8 = .ok (.aload_n 0, 1) := by decide +kernel
theorem dX3_change_9 : decode cX3_change 9 = .ok (.getfield 9, 3) := by decide +kernel
theorem dX3_change_12 : decode cX3_change 12 = .ok (.iload_n 1, 1) := by decide +kernel
theorem dX3_change_13 : decode cX3_change 13 = .ok (.iload_n 2, 1) := by decide +kernel
theorem dX3_change_14 : decode cX3_change 14 = .ok (.iastore, 1) := by decide +kernel
theorem dX3_change_15 : decode cX3_change 15 = .ok (.return_, 1) := by decide +kernel
theorem dX3_add_0 : decode cX3_add 0 = .ok (.aload_n 0, 1) := by decide +kernel
theorem dX3_add_1 : decode cX3_add 1 = .ok (.getfield 15, 3) := by decide +kernel
theorem dX3_add_4 : decode cX3_add 4 = .ok (.aload_n 0, 1) := by decide +kernel
theorem dX3_add_5 : decode cX3_add 5 = .ok (.getfield 9, 3) := by decide +kernel
theorem dX3_add_8 : decode cX3_add 8 = .ok (.arraylength, 1) := by decide +kernel
theorem dX3_add_9 : decode cX3_add 9 = .ok (.if_icmp .ge 23, 3) := by decide +kernel
theorem dX3_add_12 : decode cX3_add 12 = .ok (.aload_n 0, 1) := by decide +kernel
theorem dX3_add_13 : decode cX3_add 13 = .ok (.getfield 9, 3) := by decide +kernel
theorem dX3_add_16 : decode cX3_add 16 = .ok (.aload_n 0, 1) := by decide +kernel
theorem dX3_add_17 : decode cX3_add 17 = .ok (.getfield 15, 3) := by decide +kernel
theorem dX3_add_20 : decode cX3_add 20 = .ok (.iload_n 1, 1) := by decide +kernel
theorem dX3_add_21 : decode cX3_add 21 = .ok (.iastore, 1) := by decide +kernel
theorem dX3_add_22 : decode cX3_add 22 = .ok (.aload_n 0, 1) := by decide +kernel
theorem dX3_add_23 : decode cX3_add 23 = .ok (.dup, 1) := by decide +kernel
theorem dX3_add_24 : decode cX3_add 24 = .ok (.getfield 15, 3) := by decide +kernel
theorem dX3_add_27 : decode cX3_add 27 = .ok (.iconst 1, 1) := by decide +kernel
theorem dX3_add_28 : decode cX3_add 28 = .ok (.iadd, 1) := by decide +kernel
theorem dX3_add_29 : decode cX3_add 29 = .ok (.putfield 15, 3) := by decide +kernel
theorem dX3_add_32 : decode cX3_add 32 = .ok (.return_, 1) := by decide +kernel
theorem dX3_mixIntoLast_0 : decode cX3_mixIntoLast 0 = .ok (.aload_n 0, 1) := by decide +kernel
theorem dX3_mixIntoLast_1 : decode cX3_mixIntoLast 1 = .ok (.getfield 15, 3) := by decide +kernel
theorem dX3_mixIntoLast_4 : decode cX3_mixIntoLast 4 = .ok (.ifCond .le 18, 3) := by decide +kernel
theorem dX3_mixIntoLast_7 : decode cX3_mixIntoLast 7 = .ok (.aload_n 0, 1) := by decide +kernel
theorem dX3_mixIntoLast_8 : decode cX3_mixIntoLast 8 = .ok (.getfield 9, 3) := by decide +kernel
theorem dX3_mixIntoLast_11 : decode cX3_mixIntoLast 11 = .ok (.aload_n 0, 1) := by decide +kernel
theorem dX3_mixIntoLast_12 : decode cX3_mixIntoLast 12 = .ok (.getfield 15, 3) := by decide +kernel
theorem dX3_mixIntoLast_15 : decode cX3_mixIntoLast 15 = .ok (.iconst 1, 1) := by decide +kernel
theorem dX3_mixIntoLast_16 : decode cX3_mixIntoLast 16 = .ok (.isub, 1) := by decide +kernel
theorem dX3_mixIntoLast_17 : decode cX3_mixIntoLast 17 = .ok (.dup2, 1) := by decide +kernel
theorem dX3_mixIntoLast_18 : decode cX3_mixIntoLast 18 = .ok (.iaload, 1) := by decide +kernel
theorem dX3_mixIntoLast_19 : decode cX3_mixIntoLast 19 = .ok (.iload_n 1, 1) := by decide +kernel
theorem dX3_mixIntoLast_20 : decode cX3_mixIntoLast 20 = .ok (.ior, 1) := by decide +kernel
theorem dX3_mixIntoLast_21 : decode cX3_mixIntoLast 21 = .ok (.iastore, 1) := by decide +kernel
theorem dX3_mixIntoLast_22 : decode cX3_mixIntoLast 22 = .ok (.return_, 1) := by decide +kernel
theorem dX3_addWord_0 : decode cX3_addWord 0 = .ok (.bipush 24, 2) := by decide +kernel
theorem dX3_addWord_2 : decode cX3_addWord 2 = .ok (.istore_n 2, 1) := by decide +kernel
theorem dX3_addWord_3 : decode cX3_addWord 3 = .ok (.iload_n 2, 1) := by decide +kernel
theorem dX3_addWord_4 : decode cX3_addWord 4 = .ok (.ifCond .lt 20, 3) := by decide +kernel
theorem dX3_addWord_7 : decode cX3_addWord 7 = .ok (.aload_n 0, 1) := by decide +kernel
theorem dX3_addWord_8 : decode cX3_addWord 8 = .ok (.iload_n 1, 1) := by decide +kernel
theorem dX3_addWord_9 : decode cX3_addWord 9 = .ok (.iload_n 2, 1) := by decide +kernel
theorem dX3_addWord_10 : decode cX3_addWord 10 = .ok (.ishr, 1) := by decide +kernel
theorem dX3_addWord_11 : decode cX3_addWord 11 = .ok (.sipush 255, 3) := by decide +kernel
theorem dX3_addWord_14 : decode cX3_addWord 14 = .ok (.iand, 1) := by decide +kernel
theorem dX3_addWord_15 : decode cX3_addWord 15 = .ok (.invokevirtual 23, 3) := by decide +kernel
theorem dX3_addWord_18 : decode cX3_addWord 18 = .ok (.iinc 2 (-8), 3) := by decide +kernel
theorem dX3_addWord_21 : decode cX3_addWord 21 = .ok (.goto (-18), 3) := by decide +kernel
theorem dX3_addWord_24 : decode cX3_addWord 24 = .ok (.return_, 1) := by decide +kernel
theorem dX3_empty_0 : decode cX3_empty 0 = .ok (.aload_n 0, 1) := by decide +kernel
theorem dX3_empty_1 : decode cX3_empty 1 = .ok (.iconst 0, 1) := by decide +kernel
theorem dX3_empty_2 : decode cX3_empty 2 = .ok (.putfield 15, 3) := by decide +kernel
theorem dX3_empty_5 : decode cX3_empty 5 = .ok (.return_, 1) := by decide +kernel
theorem dX3_become_0 : decode cX3_become 0 = .ok (.aload_n 0, 1) := by decide +kernel
theorem dX3_become_1 : decode cX3_become 1 = .ok (.aload_n 1, 1) := by decide +kernel
theorem dX3_become_2 : decode cX3_become 2 = .ok (.getfield 15, 3) := by decide +kernel
theorem dX3_become_5 : decode cX3_become 5 = .ok (.aload_n 0, 1) := by decide +kernel
theorem dX3_become_6 : decode cX3_become 6 = .ok (.getfield 9, 3) := by decide +kernel
theorem dX3_become_9 : decode cX3_become 9 = .ok (.arraylength, 1) := by decide +kernel
theorem dX3_become_10 : decode cX3_become 10 = .ok (.invokestatic 27, 3) := by decide +kernel
theorem dX3_become_13 : decode cX3_become 13 = .ok (.putfield 15, 3) := by decide +kernel
theorem dX3_become_16 : decode cX3_become 16 = .ok (.aload_n 1, 1) := by decide +kernel
theorem dX3_become_17 : decode cX3_become 17 = .ok (.getfield 9, 3) := by decide +kernel
theorem dX3_become_20 : decode cX3_become 20 = .ok (.iconst 0, 1) := by decide +kernel
theorem dX3_become_21 : decode cX3_become 21 = .ok (.aload_n 0, 1) := by decide +kernel
theorem dX3_become_22 : decode cX3_become 22 = .ok (.getfield 9, 3) := by decide +kernel
theorem dX3_become_25 : decode cX3_become 25 = .ok (.iconst 0, 1) := by decide +kernel
theorem dX3_become_26 : decode cX3_become 26 = .ok (.aload_n 0, 1) := by decide +kernel
theorem dX3_become_27 : decode cX3_become 27 = .ok (.getfield 15, 3) := by decide +kernel
theorem dX3_become_30 : decode cX3_become 30 = .ok (.invokestatic 33, 3) := by decide +kernel
theorem dX3_become_33 : decode cX3_become 33 = .ok (.return_, 1) := by decide +kernel
theorem dX4_init_0 : decode cX4_init 0 = .ok (.aload_n 0, 1) := by decide +kernel
theorem dX4_init_1 : decode cX4_init 1 = .ok (.invokespecial 3, 3) := by decide +kernel
theorem dX4_init_4 : decode cX4_init 4 = .ok (.aload_n 0, 1) := by decide +kernel
theorem dX4_init_5 : decode cX4_init 5 = .ok (.aload_n 1, 1) := by decide +kernel
theorem dX4_init_6 : decode cX4_init 6 = .ok (.putfield 9, 3) := by decide +kernel
theorem dX4_init_9 : decode cX4_init 9 = .ok (.aload_n 0, 1) := by decide +kernel
theorem dX4_init_10 : decode cX4_init 10 = .ok (.sipush 4096, 3) := by decide +kernel
theorem dX4_init_13 : decode cX4_init 13 = .ok (.newarray .int, 2) := by decide +kernel
theorem dX4_init_15 : decode cX4_init 15 = .ok (.putfield 15, 3) := by decide +kernel
theorem dX4_init_18 : decode cX4_init 18 = .ok (.aload_n 0, 1) := by decide +kernel
theorem dX4_init_19 : decode cX4_init 19 = .ok (.iload_n 2, 1) := by decide +kernel
theorem dX4_init_20 : decode cX4_init 20 = .ok (.newarray .int, 2) := by decide +kernel
theorem dX4_init_22 : decode cX4_init 22 = .ok (.putfield 19, 3) := by decide +kernel
theorem dX4_init_25 : decode cX4_init 25 = .ok (.aload_n 0, 1) := by decide +kernel
theorem dX4_init_26 : decode cX4_init 26 = .ok (.iconst 0, 1) := by decide +kernel
theorem dX4_init_27 : decode cX4_init 27 = .ok (.putfield 22, 3) := by decide +kernel
theorem dX4_init_30 : decode cX4_init 30 = .ok (.aload_n 0, 1) := by decide +kernel
theorem dX4_init_31 : decode cX4_init 31 = .ok (.iconst 0, 1) := by decide +kernel
theorem dX4_init_32 : decode cX4_init 32 = .ok (.putfield 26, 3) := by decide +kernel
theorem dX4_init_35 : decode cX4_init 35 = .ok (.aload_n 0, 1) := by decide +kernel
theorem dX4_init_36 : decode cX4_init 36 = .ok (.iconst 0, 1) := by decide +kernel
theorem dX4_init_37 : decode cX4_init 37 = .ok (.putfield 29, 3) := by decide +kernel
theorem dX4_init_40 : decode cX4_init 40 = .ok (.return_, 1) := by decide +kernel
theorem dX4_open_0 : decode cX4_open 0 = .ok (.aload_n 0, 1) := by decide +kernel
theorem dX4_open_1 : decode cX4_open 1 = .ok (.iload_n 1, 1) := by decide +kernel
theorem dX4_open_2 : decode cX4_open 2 = .ok (.aload_n 0, 1) := by decide +kernel
theorem dX4_open_3 : decode cX4_open 3 = .ok (.getfield 19, 3) := by decide +kernel
theorem dX4_open_6 : decode cX4_open 6 = .ok (.arraylength, 1) := by decide +kernel
theorem dX4_open_7 : decode cX4_open 7 = .ok (.invokestatic 32, 3) := by decide +kernel
theorem dX4_open_10 : decode cX4_open 10 = .ok (.putfield 22, 3) := by decide +kernel
theorem dX4_open_13 : decode cX4_open 13 = .ok (.aload_n 0, 1) := by decide +kernel
theorem dX4_open_14 : decode cX4_open 14 = .ok (.getfield 15, 3) := by decide +kernel
theorem dX4_open_17 : decode cX4_open 17 = .ok (.iconst (-1), 1) := by decide +kernel
theorem dX4_open_18 : decode cX4_open 18 = .ok (.invokestatic 38, 3) := by decide +kernel
theorem dX4_open_21 : decode cX4_open 21 = .ok (.iconst 0, 1) := by decide +kernel
theorem dX4_open_22 : decode cX4_open 22 = .ok (.istore_n 2, 1) := by decide +kernel
theorem dX4_open_23 : decode cX4_open 23 = .ok (.iload_n 2, 1) := by decide +kernel
theorem dX4_open_24 : decode cX4_open 24 = .ok (.iconst 3, 1) := by decide +kernel
theorem dX4_open_25 : decode cX4_open 25 = .ok (.iadd, 1) := by decide +kernel
theorem dX4_open_26 : decode cX4_open 26 = .ok (.aload_n 0, 1) := by decide +kernel
theorem dX4_open_27 : decode cX4_open 27 = .ok (.getfield 22, 3) := by decide +kernel
theorem dX4_open_30 : decode cX4_open 30 = .ok (.if_icmp .gt 34, 3) := by decide +kernel
theorem dX4_open_33 : decode cX4_open 33 = .ok (.aload_n 0, 1) := by decide +kernel
theorem dX4_open_34 : decode cX4_open 34 = .ok (.iload_n 2, 1) := by decide +kernel
theorem dX4_open_35 : decode cX4_open 35 = .ok (.invokevirtual 44, 3) := by decide +kernel
theorem dX4_open_38 : decode cX4_open 38 = .ok (.istore_n 3, 1) := by decide +kernel
theorem dX4_open_39 : decode cX4_open 39 = .ok (.aload_n 0, 1) := by decide +kernel
theorem dX4_open_40 : decode cX4_open 40 = .ok (.getfield 19, 3) := by decide +kernel
theorem dX4_open_43 : decode cX4_open 43 = .ok (.iload_n 2, 1) := by decide +kernel
theorem dX4_open_44 : decode cX4_open 44 = .ok (.aload_n 0, 1) := by decide +kernel
theorem dX4_open_45 : decode cX4_open 45 = .ok (.getfield 15, 3) := by decide +kernel
theorem dX4_open_48 : decode cX4_open 48 = .ok (.iload_n 3, 1) := by decide +kernel
theorem dX4_open_49 : decode cX4_open 49 = .ok (.iaload, 1) := by decide +kernel
theorem dX4_open_50 : decode cX4_open 50 = .ok (.iastore, 1) := by decide +kernel
theorem dX4_open_51 : decode cX4_open 51 = .ok (.aload_n 0, 1) := by decide +kernel
theorem dX4_open_52 : decode cX4_open 52 = .ok (.getfield 15, 3) := by decide +kernel
theorem dX4_open_55 : decode cX4_open 55 = .ok (.iload_n 3, 1) := by decide +kernel
theorem dX4_open_56 : decode cX4_open 56 = .ok (.iload_n 2, 1) := by decide +kernel
theorem dX4_open_57 : decode cX4_open 57 = .ok (.iastore, 1) := by decide +kernel
theorem dX4_open_58 : decode cX4_open 58 = .ok (.iinc 2 1, 3) := by decide +kernel
theorem dX4_open_61 : decode cX4_open 61 = .ok (.goto (-38), 3) := by decide +kernel
theorem dX4_open_64 : decode cX4_open 64 = .ok (.return_, 1) := by decide +kernel
theorem dX4_chainOf_0 : decode cX4_chainOf 0 = .ok (.aload_n 0, 1) := by decide +kernel
theorem dX4_chainOf_1 : decode cX4_chainOf 1 = .ok (.getfield 9, 3) := by decide +kernel
theorem dX4_chainOf_4 : decode cX4_chainOf 4 = .ok (.iload_n 1, 1) := by decide +kernel
theorem dX4_chainOf_5 : decode cX4_chainOf 5 = .ok (.invokevirtual 48, 3) := by decide +kernel
theorem dX4_chainOf_8 : decode cX4_chainOf 8 = .ok (.sipush 961, 3) := by decide +kernel
theorem dX4_chainOf_11 : decode cX4_chainOf 11 = .ok (.imul, 1) := by decide +kernel
theorem dX4_chainOf_12 : decode cX4_chainOf 12 = .ok (.aload_n 0, 1) := by decide +kernel
theorem dX4_chainOf_13 : decode cX4_chainOf 13 = .ok (.getfield 9, 3) := by decide +kernel
theorem dX4_chainOf_16 : decode cX4_chainOf 16 = .ok (.iload_n 1, 1) := by decide +kernel
theorem dX4_chainOf_17 : decode cX4_chainOf 17 = .ok (.iconst 1, 1) := by decide +kernel
theorem dX4_chainOf_18 : decode cX4_chainOf 18 = .ok (.iadd, 1) := by decide +kernel
theorem dX4_chainOf_19 : decode cX4_chainOf 19 = .ok (.invokevirtual 48, 3) := by decide +kernel
theorem dX4_chainOf_22 : decode cX4_chainOf 22 = .ok (.bipush 31, 2) := by decide +kernel
theorem dX4_chainOf_24 : decode cX4_chainOf 24 = .ok (.imul, 1) := by decide +kernel
theorem dX4_chainOf_25 : decode cX4_chainOf 25 = .ok (.iadd, 1) := by decide +kernel
theorem dX4_chainOf_26 : decode cX4_chainOf 26 = .ok (.aload_n 0, 1) := by decide +kernel
theorem dX4_chainOf_27 : decode cX4_chainOf 27 = .ok (.getfield 9, 3) := by decide +kernel
theorem dX4_chainOf_30 : decode cX4_chainOf 30 = .ok (.iload_n 1, 1) := by decide +kernel
theorem dX4_chainOf_31 : decode cX4_chainOf 31 = .ok (.iconst 2, 1) := by decide +kernel
theorem dX4_chainOf_32 : decode cX4_chainOf 32 = .ok (.iadd, 1) := by decide +kernel
theorem dX4_chainOf_33 : decode cX4_chainOf 33 = .ok (.invokevirtual 48, 3) := by decide +kernel
theorem dX4_chainOf_36 : decode cX4_chainOf 36 = .ok (.iadd, 1) := by decide +kernel
theorem dX4_chainOf_37 : decode cX4_chainOf 37 = .ok (.sipush 4095, 3) := by decide +kernel
theorem dX4_chainOf_40 : decode cX4_chainOf 40 = .ok (.iand, 1) := by decide +kernel
theorem dX4_chainOf_41 : decode cX4_chainOf 41 = .ok (.ireturn, 1) := by decide +kernel
theorem dX4_find_0 : decode cX4_find 0 = .ok (.aload_n 0, 1) := by decide +kernel
theorem dX4_find_1 : decode cX4_find 1 = .ok (.iconst 2, 1) := by decide +kernel
theorem dX4_find_2 : decode cX4_find 2 = .ok (.putfield 26, 3) := by decide +kernel
theorem dX4_find_5 : decode cX4_find 5 = .ok (.sipush 256, 3) := by decide +kernel
theorem dX4_find_8 : decode cX4_find 8 = .ok (.aload_n 0, 1) := by decide +kernel
theorem dX4_find_9 : decode cX4_find 9 = .ok (.getfield 22, 3) := by decide +kernel
theorem dX4_find_12 : decode cX4_find 12 = .ok (.iload_n 1, 1) := by decide +kernel
theorem dX4_find_13 : decode cX4_find 13 = .ok (.isub, 1) := by decide +kernel
theorem dX4_find_14 : decode cX4_find 14 = .ok (.invokestatic 32, 3) := by decide +kernel
theorem dX4_find_17 : decode cX4_find 17 = .ok (.istore_n 2, 1) := by decide +kernel
theorem dX4_find_18 : decode cX4_find 18 = .ok (.iload_n 1, 1) := by decide +kernel
theorem dX4_find_19 : decode cX4_find 19 = .ok (.ifCond .lt 8, 3) := by decide +kernel
theorem dX4_find_22 : decode cX4_find 22 = .ok (.iload_n 2, 1) := by decide +kernel
theorem dX4_find_23 : decode cX4_find 23 = .ok (.iconst 3, 1) := by decide +kernel
theorem dX4_find_24 : decode cX4_find 24 = .ok (.if_icmp .ge 5, 3) := by decide +kernel
theorem dX4_find_27 : decode cX4_find 27 = .ok (.iconst 0, 1) := by decide +kernel
theorem dX4_find_28 : decode cX4_find 28 = .ok (.ireturn, 1) := by decide +kernel
theorem dX4_find_29 : decode cX4_find 29 = .ok (.aload_n 0, 1) := by decide +kernel
theorem dX4_find_30 : decode cX4_find 30 = .ok (.getfield 19, 3) := by decide +kernel
theorem dX4_find_33 : decode cX4_find 33 = .ok (.iload_n 1, 1) := by decide +kernel
theorem dX4_find_34 : decode cX4_find 34 = .ok (.iaload, 1) := by decide +kernel
theorem dX4_find_35 : decode cX4_find 35 = .ok (.istore_n 3, 1) := by decide +kernel
theorem dX4_find_36 : decode cX4_find 36 = .ok (.iconst 0, 1) := by decide +kernel
theorem dX4_find_37 : decode cX4_find 37 = .ok (.istore 4, 2) := by decide +kernel
theorem dX4_find_39 : decode cX4_find 39 = .ok (.iload 4, 2) := by decide +kernel
theorem dX4_find_41 : decode cX4_find 41 = .ok (.iload_n 1, 1) := by decide +kernel
theorem dX4_find_42 : decode cX4_find 42 = .ok (.if_icmp .ge 71, 3) := by decide +kernel
theorem dX4_find_45 : decode cX4_find 45 = .ok (.iload_n 3, 1) := by decide +kernel
theorem dX4_find_46 : decode cX4_find 46 = .ok (.ifCond .lt 67, 3) := by decide +kernel
theorem dX4_find_49 : decode cX4_find 49 = .ok (.aload_n 0, 1) := by decide +kernel
theorem dX4_find_50 : decode cX4_find 50 = .ok (.getfield 26, 3) := by decide +kernel
theorem dX4_find_53 : decode cX4_find 53 = .ok (.iload_n 2, 1) := by decide +kernel
theorem dX4_find_54 : decode cX4_find 54 = .ok (.if_icmp .ge 59, 3) := by decide +kernel
theorem dX4_find_57 : decode cX4_find 57 = .ok (.iload_n 1, 1) := by decide +kernel
theorem dX4_find_58 : decode cX4_find 58 = .ok (.iload_n 3, 1) := by decide +kernel
theorem dX4_find_59 : decode cX4_find 59 = .ok (.isub, 1) := by decide +kernel
theorem dX4_find_60 : decode cX4_find 60 = .ok (.sipush 8191, 3) := by decide +kernel
theorem dX4_find_63 : decode cX4_find 63 = .ok (.if_icmp .le 6, 3) := by decide +kernel
theorem dX4_find_66 : decode cX4_find 66 = .ok (.goto 47, 3) := by decide +kernel
theorem dX4_find_69 : decode cX4_find 69 = .ok (.aload_n 0, 1) := by decide +kernel
theorem dX4_find_70 : decode cX4_find 70 = .ok (.iload_n 3, 1) := by decide +kernel
theorem dX4_find_71 : decode cX4_find 71 = .ok (.iload_n 1, 1) := by decide +kernel
theorem dX4_find_72 : decode cX4_find 72 = .ok (.iload_n 2, 1) := by decide +kernel
theorem dX4_find_73 : decode cX4_find 73 = .ok (.invokevirtual 53, 3) := by decide +kernel
theorem dX4_find_76 : decode cX4_find 76 = .ok (.istore 5, 2) := by decide +kernel
theorem dX4_find_78 : decode cX4_find 78 = .ok (.iload 5, 2) := by decide +kernel
theorem dX4_find_80 : decode cX4_find 80 = .ok (.aload_n 0, 1) := by decide +kernel
theorem dX4_find_81 : decode cX4_find 81 = .ok (.getfield 26, 3) := by decide +kernel
theorem dX4_find_84 : decode cX4_find 84 = .ok (.if_icmp .le 16, 3) := by decide +kernel
theorem dX4_find_87 : decode cX4_find 87 = .ok (.aload_n 0, 1) := by decide +kernel
theorem dX4_find_88 : decode cX4_find 88 = .ok (.iload 5, 2) := by decide +kernel
theorem dX4_find_90 : decode cX4_find 90 = .ok (.putfield 26, 3) := by decide +kernel
theorem dX4_find_93 : decode cX4_find 93 = .ok (.aload_n 0, 1) := by decide +kernel
theorem dX4_find_94 : decode cX4_find 94 = .ok (.iload_n 1, 1) := by decide +kernel
theorem dX4_find_95 : decode cX4_find 95 = .ok (.iload_n 3, 1) := by decide +kernel
theorem dX4_find_96 : decode cX4_find 96 = .ok (.isub, 1) := by decide +kernel
theorem dX4_find_97 : decode cX4_find 97 = .ok (.putfield 29, 3) := by decide +kernel
theorem dX4_find_100 : decode cX4_find 100 = .ok (.aload_n 0, 1) := by decide +kernel
theorem dX4_find_101 : decode cX4_find 101 = .ok (.getfield 19, 3) := by decide +kernel
theorem dX4_find_104 : decode cX4_find 104 = .ok (.iload_n 3, 1) := by decide +kernel
theorem dX4_find_105 : decode cX4_find 105 = .ok (.iaload, 1) := by decide +kernel
theorem dX4_find_106 : decode cX4_find 106 = .ok (.istore_n 3, 1) := by decide +kernel
theorem dX4_find_107 : decode cX4_find 107 = .ok (.iinc 4 1, 3) := by decide +kernel
theorem dX4_find_110 : decode cX4_find 110 = .ok (.goto (-71), 3) := by decide +kernel
theorem dX4_find_113 : decode cX4_find 113 = .ok (.aload_n 0, 1) := by decide +kernel
theorem dX4_find_114 : decode cX4_find 114 = .ok (.getfield 26, 3) := by decide +kernel
theorem dX4_find_117 : decode cX4_find 117 = .ok (.iconst 3, 1) := by decide +kernel
theorem dX4_find_118 : decode cX4_find 118 = .ok (.if_icmp .lt 7, 3) := by decide +kernel
theorem dX4_find_121 : decode cX4_find 121 = .ok (.iconst 1, 1) := by decide +kernel
theorem dX4_find_122 : decode cX4_find 122 = .ok (.goto 4, 3) := by decide +kernel
theorem dX4_find_125 : decode cX4_find 125 = .ok (.iconst 0, 1) := by decide +kernel
theorem dX4_find_126 : decode cX4_find 126 = .ok (.ireturn, 1) := by decide +kernel
theorem dX4_sameBytes_0 : decode cX4_sameBytes 0 = .ok (.iconst 0, 1) := by decide +kernel
theorem dX4_sameBytes_1 : decode cX4_sameBytes 1 = .ok (.istore 4, 2) := by decide +kernel
theorem dX4_sameBytes_3 : decode cX4_sameBytes 3 = .ok (.iload 4, 2) := by decide +kernel
theorem dX4_sameBytes_5 : decode cX4_sameBytes 5 = .ok (.iload_n 3, 1) := by decide +kernel
theorem dX4_sameBytes_6 : decode cX4_sameBytes 6 = .ok (.if_icmp .ge 37, 3) := by decide +kernel
theorem dX4_sameBytes_9 : decode cX4_sameBytes 9 = .ok (.aload_n 0, 1) := by decide +kernel
theorem dX4_sameBytes_10 : decode cX4_sameBytes 10 = .ok (.getfield 9, 3) := by decide +kernel
theorem dX4_sameBytes_13 : decode cX4_sameBytes 13 = .ok (.iload_n 1, 1) := by decide +kernel
theorem dX4_sameBytes_14 : decode cX4_sameBytes 14 = .ok (.iload 4, 2) := by decide +kernel
theorem dX4_sameBytes_16 : decode cX4_sameBytes 16 = .ok (.iadd, 1) := by decide +kernel
theorem dX4_sameBytes_17 : decode cX4_sameBytes 17 = .ok (.invokevirtual 48, 3) := by decide +kernel
theorem dX4_sameBytes_20 : decode cX4_sameBytes 20 = .ok (.aload_n 0, 1) := by decide +kernel
theorem dX4_sameBytes_21 : decode cX4_sameBytes 21 = .ok (.getfield 9, 3) := by decide +kernel
theorem dX4_sameBytes_24 : decode cX4_sameBytes 24 = .ok (.iload_n 2, 1) := by decide +kernel
theorem dX4_sameBytes_25 : decode cX4_sameBytes 25 = .ok (.iload 4, 2) := by decide +kernel
theorem dX4_sameBytes_27 : decode cX4_sameBytes 27 = .ok (.iadd, 1) := by decide +kernel
theorem dX4_sameBytes_28 : decode cX4_sameBytes 28 = .ok (.invokevirtual 48, 3) := by decide +kernel
theorem dX4_sameBytes_31 : decode cX4_sameBytes 31 = .ok (.if_icmp .eq 6, 3) := by decide +kernel
theorem dX4_sameBytes_34 : decode cX4_sameBytes 34 = .ok (.iload 4, 2) := by decide +kernel
theorem dX4_sameBytes_36 : decode cX4_sameBytes 36 = .ok (.ireturn, 1) := by decide +kernel
theorem dX4_sameBytes_37 : decode cX4_sameBytes 37 = .ok (.iinc 4 1, 3) := by decide +kernel
theorem dX4_sameBytes_40 : decode cX4_sameBytes 40 = .ok (.goto (-37), 3) := by decide +kernel
theorem dX4_sameBytes_43 : decode cX4_sameBytes 43 = .ok (.iload_n 3, 1) := by decide +kernel
theorem dX4_sameBytes_44 : decode cX4_sameBytes 44 = .ok (.ireturn, 1) := by decide +kernel
theorem dX4_foundLength_0 : decode cX4_foundLength 0 = .ok (.aload_n 0, 1) := by decide +kernel
theorem dX4_foundLength_1 : decode cX4_foundLength 1 = .ok (.getfield 26, 3) := by decide +kernel
theorem dX4_foundLength_4 : decode cX4_foundLength 4 = .ok (.ireturn, 1) := by decide +kernel
theorem dX4_foundDistance_0 : decode cX4_foundDistance 0 = .ok (.aload_n 0, 1) := by decide +kernel
theorem dX4_foundDistance_1 : decode cX4_foundDistance 1 = .ok (.getfield 29, 3) := by decide +kernel
theorem dX4_foundDistance_4 : decode cX4_foundDistance 4 = .ok (.ireturn, 1) := by decide +kernel
theorem dX5_init_0 : decode cX5_init 0 = .ok (.aload_n 0, 1) := by decide +kernel
theorem dX5_init_1 : decode cX5_init 1 = .ok (.invokespecial 1, 3) := by decide +kernel
theorem dX5_init_4 : decode cX5_init 4 = .ok (.aload_n 0, 1) := by decide +kernel
theorem dX5_init_5 : decode cX5_init 5 = .ok (.iload_n 1, 1) := by decide +kernel
theorem dX5_init_6 : decode cX5_init 6 = .ok (.newarray .int, 2) := by decide +kernel
theorem dX5_init_8 : decode cX5_init 8 = .ok (.putfield 7, 3) := by decide +kernel
theorem dX5_init_11 : decode cX5_init 11 = .ok (.aload_n 0, 1) := by decide +kernel
theorem dX5_init_12 : decode cX5_init 12 = .ok (.iconst 2, 1) := by decide +kernel
theorem dX5_init_13 : decode cX5_init 13 = .ok (.iload_n 1, 1) := by decide +kernel
theorem dX5_init_14 : decode cX5_init 14 = .ok (.imul, 1) := by decide +kernel
theorem dX5_init_15 : decode cX5_init 15 = .ok (.newarray .int, 2) := by decide +kernel
theorem dX5_init_17 : decode cX5_init 17 = .ok (.putfield 13, 3) := by decide +kernel
theorem dX5_init_20 : decode cX5_init 20 = .ok (.aload_n 0, 1) := by decide +kernel
theorem dX5_init_21 : decode cX5_init 21 = .ok (.iconst 2, 1) := by decide +kernel
theorem dX5_init_22 : decode cX5_init 22 = .ok (.iload_n 1, 1) := by decide +kernel
theorem dX5_init_23 : decode cX5_init 23 = .ok (.imul, 1) := by decide +kernel
theorem dX5_init_24 : decode cX5_init 24 = .ok (.newarray .int, 2) := by decide +kernel
theorem dX5_init_26 : decode cX5_init 26 = .ok (.putfield 16, 3) := by decide +kernel
theorem dX5_init_29 : decode cX5_init 29 = .ok (.aload_n 0, 1) := by decide +kernel
theorem dX5_init_30 : decode cX5_init 30 = .ok (.iconst 2, 1) := by decide +kernel
theorem dX5_init_31 : decode cX5_init 31 = .ok (.iload_n 1, 1) := by decide +kernel
theorem dX5_init_32 : decode cX5_init 32 = .ok (.imul, 1) := by decide +kernel
theorem dX5_init_33 : decode cX5_init 33 = .ok (.newarray .int, 2) := by decide +kernel
theorem dX5_init_35 : decode cX5_init 35 = .ok (.putfield 19, 3) := by decide +kernel
theorem dX5_init_38 : decode cX5_init 38 = .ok (.aload_n 0, 1) := by decide +kernel
theorem dX5_init_39 : decode cX5_init 39 = .ok (.iconst 0, 1) := by decide +kernel
theorem dX5_init_40 : decode cX5_init 40 = .ok (.putfield 22, 3) := by decide +kernel
theorem dX5_init_43 : decode cX5_init 43 = .ok (.aload_n 0, 1) := by decide +kernel
theorem dX5_init_44 : decode cX5_init 44 = .ok (.iconst 0, 1) := by decide +kernel
theorem dX5_init_45 : decode cX5_init 45 = .ok (.putfield 26, 3) := by decide +kernel
theorem dX5_init_48 : decode cX5_init 48 = .ok (.aload_n 0, 1) := by decide +kernel
theorem dX5_init_49 : decode cX5_init 49 = .ok (.iconst 0, 1) := by decide +kernel
theorem dX5_init_50 : decode cX5_init 50 = .ok (.putfield 29, 3) := by decide +kernel
theorem dX5_init_53 : decode cX5_init 53 = .ok (.aload_n 0, 1) := by decide +kernel
theorem dX5_init_54 : decode cX5_init 54 = .ok (.iconst 0, 1) := by decide +kernel
theorem dX5_init_55 : decode cX5_init 55 = .ok (.putfield 32, 3) := by decide +kernel
theorem dX5_init_58 : decode cX5_init 58 = .ok (.return_, 1) := by decide +kernel
theorem dX5_shape_0 : decode cX5_shape 0 = .ok (.aload_n 0, 1) := by decide +kernel
theorem dX5_shape_1 : decode cX5_shape 1 = .ok (.aload_n 1, 1) := by decide +kernel
theorem dX5_shape_2 : decode cX5_shape 2 = .ok (.invokevirtual 35, 3) := by decide +kernel
theorem dX5_shape_5 : decode cX5_shape 5 = .ok (.aload_n 0, 1) := by decide +kernel
theorem dX5_shape_6 : decode cX5_shape 6 = .ok (.getfield 22, 3) := by decide +kernel
theorem dX5_shape_9 : decode cX5_shape 9 = .ok (.iconst 2, 1) := by decide +kernel
theorem dX5_shape_10 : decode cX5_shape 10 = .ok (.if_icmp .ge 25, 3) := by decide +kernel
theorem dX5_shape_13 : decode cX5_shape 13 = .ok (.aload_n 1, 1) := by decide +kernel
theorem dX5_shape_14 : decode cX5_shape 14 = .ok (.aload_n 0, 1) := by decide +kernel
theorem dX5_shape_15 : decode cX5_shape 15 = .ok (.getfield 22, 3) := by decide +kernel
theorem dX5_shape_18 : decode cX5_shape 18 = .ok (.ifCond .ne 7, 3) := by decide +kernel
theorem dX5_shape_21 : decode cX5_shape 21 = .ok (.iconst 0, 1) := by decide +kernel
theorem dX5_shape_22 : decode cX5_shape 22 = .ok (.goto 9, 3) := by decide +kernel
theorem dX5_shape_25 : decode cX5_shape 25 = .ok (.aload_n 0, 1) := by decide +kernel
theorem dX5_shape_26 : decode cX5_shape 26 = .ok (.getfield 7, 3) := by decide +kernel
theorem dX5_shape_29 : decode cX5_shape 29 = .ok (.iconst 0, 1) := by decide +kernel
theorem dX5_shape_30 : decode cX5_shape 30 = .ok (.iaload, 1) := by decide +kernel
theorem dX5_shape_31 : decode cX5_shape 31 = .ok (.invokevirtual 39, 3) := by decide +kernel
theorem dX5_shape_34 : decode cX5_shape 34 = .ok (.return_, 1) := by decide +kernel
theorem dX5_shape_35 : decode cX5_shape 35 = .ok (.aload_n 0, 1) := by decide +kernel
theorem dX5_shape_36 : decode cX5_shape 36 = .ok (.aload_n 1, 1) := by decide +kernel
theorem dX5_shape_37 : decode cX5_shape 37 = .ok (.invokevirtual 45, 3) := by decide +kernel
theorem dX5_shape_40 : decode cX5_shape 40 = .ok (.invokevirtual 49, 3) := by decide +kernel
theorem dX5_shape_43 : decode cX5_shape 43 = .ok (.aload_n 0, 1) := by decide +kernel
theorem dX5_shape_44 : decode cX5_shape 44 = .ok (.aload_n 1, 1) := by decide +kernel
end
section
theorem dX5_shape_45 : decode cX5_shape 45 = .ok (.invokevirtual 52, 3) := by decide +kernel
theorem dX5_shape_48 : decode cX5_shape 48 = .ok (.aload_n 1, 1) := by decide +kernel
theorem dX5_shape_49 : decode cX5_shape 49 = .ok (.invokevirtual 55, 3) := by decide +kernel
theorem dX5_shape_52 : decode cX5_shape 52 = .ok (.pop, 1) := by decide +kernel
theorem dX5_shape_53 : decode cX5_shape 53 = .ok (.return_, 1) := by decide +kernel
theorem dX5_sortLeaves_0 : decode cX5_sortLeaves 0 = .ok (.aload_n 0, 1) := by decide +kernel
theorem dX5_sortLeaves_1 : decode cX5_sortLeaves 1 = .ok (.iconst 0, 1) := by decide +kernel
theorem dX5_sortLeaves_2 : decode cX5_sortLeaves 2 = .ok (.putfield 22, 3) := by decide +kernel
theorem dX5_sortLeaves_5 : decode cX5_sortLeaves 5 = .ok (.iconst 0, 1) := by decide +kernel
theorem dX5_sortLeaves_6 : decode cX5_sortLeaves 6 = .ok (.istore_n 2, 1) := by decide +kernel
theorem dX5_sortLeaves_7 : decode cX5_sortLeaves 7 = .ok (.iload_n 2, 1) := by decide +kernel
theorem dX5_sortLeaves_8 : decode cX5_sortLeaves 8 = .ok (.aload_n 1, 1) := by decide +kernel
theorem dX5_sortLeaves_9 : decode cX5_sortLeaves 9 = .ok (.invokevirtual 45, 3) := by decide +kernel
theorem dX5_sortLeaves_12 : decode cX5_sortLeaves 12 = .ok (.if_icmp .ge 43, 3) := by decide +kernel
theorem dX5_sortLeaves_15 : decode cX5_sortLeaves 15 = .ok (.iload_n 2, 1) := by decide +kernel
theorem dX5_sortLeaves_16 : decode cX5_sortLeaves 16 = .ok (.aload_n 0, 1) := by decide +kernel
theorem dX5_sortLeaves_17 : decode cX5_sortLeaves 17 = .ok (.getfield 7, 3) := by decide +kernel
theorem dX5_sortLeaves_20 : decode cX5_sortLeaves 20 = .ok (.arraylength, 1) := by decide +kernel
theorem dX5_sortLeaves_21 : decode cX5_sortLeaves 21 = .ok (.if_icmp .ge 34, 3) := by decide +kernel
theorem dX5_sortLeaves_24 : decode cX5_sortLeaves 24 = .ok (.aload_n 0, 1) := by decide +kernel
theorem dX5_sortLeaves_25 : decode cX5_sortLeaves 25 = .ok (.getfield 13, 3) := by decide +kernel
theorem dX5_sortLeaves_28 : decode cX5_sortLeaves 28 = .ok (.iload_n 2, 1) := by decide +kernel
theorem dX5_sortLeaves_29 : decode cX5_sortLeaves 29 = .ok (.aload_n 1, 1) := by decide +kernel
theorem dX5_sortLeaves_30 : decode cX5_sortLeaves 30 = .ok (.iload_n 2, 1) := by decide +kernel
theorem dX5_sortLeaves_31 : decode cX5_sortLeaves 31 = .ok (.invokevirtual 59, 3) := by decide +kernel
theorem dX5_sortLeaves_34 : decode cX5_sortLeaves 34 = .ok (.iastore, 1) := by decide +kernel
theorem dX5_sortLeaves_35 : decode cX5_sortLeaves 35 = .ok (.aload_n 0, 1) := by decide +kernel
theorem dX5_sortLeaves_36 : decode cX5_sortLeaves 36 = .ok (.getfield 13, 3) := by decide +kernel
theorem dX5_sortLeaves_39 : decode cX5_sortLeaves 39 = .ok (.iload_n 2, 1) := by decide +kernel
theorem dX5_sortLeaves_40 : decode cX5_sortLeaves 40 = .ok (.iaload, 1) := by decide +kernel
theorem dX5_sortLeaves_41 : decode cX5_sortLeaves 41 = .ok (.ifCond .le 8, 3) := by decide +kernel
theorem dX5_sortLeaves_44 : decode cX5_sortLeaves 44 = .ok (.aload_n 0, 1) := by decide +kernel
theorem dX5_sortLeaves_45 : decode cX5_sortLeaves 45 = .ok (.iload_n 2, 1) := by decide +kernel
theorem dX5_sortLeaves_46 : decode cX5_sortLeaves 46 = .ok (.invokevirtual 63, 3) := by decide +kernel
theorem dX5_sortLeaves_49 : decode cX5_sortLeaves 49 = .ok (.iinc 2 1, 3) := by decide +kernel
theorem dX5_sortLeaves_52 : decode cX5_sortLeaves 52 = .ok (.goto (-45), 3) := by decide +kernel
theorem dX5_sortLeaves_55 : decode cX5_sortLeaves 55 = .ok (.return_, 1) := by decide +kernel
theorem dX5_insertLeaf_0 : decode cX5_insertLeaf 0 = .ok (.aload_n 0, 1) := by decide +kernel
theorem dX5_insertLeaf_1 : decode cX5_insertLeaf 1 = .ok (.getfield 22, 3) := by decide +kernel
theorem dX5_insertLeaf_4 : decode cX5_insertLeaf 4 = .ok (.istore_n 2, 1) := by decide +kernel
theorem dX5_insertLeaf_5 : decode cX5_insertLeaf 5 = .ok (.iload_n 2, 1) := by decide +kernel
theorem dX5_insertLeaf_6 : decode cX5_insertLeaf 6 = .ok (.ifCond .le 45, 3) := by decide +kernel
theorem dX5_insertLeaf_9 : decode cX5_insertLeaf 9 = .ok (.aload_n 0, 1) := by decide +kernel
theorem dX5_insertLeaf_10 : decode cX5_insertLeaf 10 = .ok (.getfield 13, 3) := by decide +kernel
theorem dX5_insertLeaf_13 : decode cX5_insertLeaf 13 = .ok (.aload_n 0, 1) := by decide +kernel
theorem dX5_insertLeaf_14 : decode cX5_insertLeaf 14 = .ok (.getfield 7, 3) := by decide +kernel
theorem dX5_insertLeaf_17 : decode cX5_insertLeaf 17 = .ok (.iload_n 2, 1) := by decide +kernel
theorem dX5_insertLeaf_18 : decode cX5_insertLeaf 18 = .ok (.iconst 1, 1) := by decide +kernel
theorem dX5_insertLeaf_19 : decode cX5_insertLeaf 19 = .ok (.isub, 1) := by decide +kernel
theorem dX5_insertLeaf_20 : decode cX5_insertLeaf 20 = .ok (.iaload, 1) := by decide +kernel
theorem dX5_insertLeaf_21 : decode cX5_insertLeaf 21 = .ok (.iaload, 1) := by decide +kernel
theorem dX5_insertLeaf_22 : decode cX5_insertLeaf 22 = .ok (.aload_n 0, 1) := by decide +kernel
theorem dX5_insertLeaf_23 : decode cX5_insertLeaf 23 = .ok (.getfield 13, 3) := by decide +kernel
theorem dX5_insertLeaf_26 : decode cX5_insertLeaf 26 = .ok (.iload_n 1, 1) := by decide +kernel
theorem dX5_insertLeaf_27 : decode cX5_insertLeaf 27 = .ok (.iaload, 1) := by decide +kernel
theorem dX5_insertLeaf_28 : decode cX5_insertLeaf 28 = .ok (.if_icmp .le 23, 3) := by decide +kernel
theorem dX5_insertLeaf_31 : decode cX5_insertLeaf 31 = .ok (.aload_n 0, 1) := by decide +kernel
theorem dX5_insertLeaf_32 : decode cX5_insertLeaf 32 = .ok (.getfield 7, 3) := by decide +kernel
theorem dX5_insertLeaf_35 : decode cX5_insertLeaf 35 = .ok (.iload_n 2, 1) := by decide +kernel
theorem dX5_insertLeaf_36 : decode cX5_insertLeaf 36 = .ok (.aload_n 0, 1) := by decide +kernel
theorem dX5_insertLeaf_37 : decode cX5_insertLeaf 37 = .ok (.getfield 7, 3) := by decide +kernel
theorem dX5_insertLeaf_40 : decode cX5_insertLeaf 40 = .ok (.iload_n 2, 1) := by decide +kernel
theorem dX5_insertLeaf_41 : decode cX5_insertLeaf 41 = .ok (.iconst 1, 1) := by decide +kernel
theorem dX5_insertLeaf_42 : decode cX5_insertLeaf 42 = .ok (.isub, 1) := by decide +kernel
theorem dX5_insertLeaf_43 : decode cX5_insertLeaf 43 = .ok (.iaload, 1) := by decide +kernel
theorem dX5_insertLeaf_44 : decode cX5_insertLeaf 44 = .ok (.iastore, 1) := by decide +kernel
theorem dX5_insertLeaf_45 : decode cX5_insertLeaf 45 = .ok (.iinc 2 (-1), 3) := by decide +kernel
theorem dX5_insertLeaf_48 : decode cX5_insertLeaf 48 = .ok (.goto (-43), 3) := by decide +kernel
theorem dX5_insertLeaf_51 : decode cX5_insertLeaf 51 = .ok (.aload_n 0, 1) := by decide +kernel
theorem dX5_insertLeaf_52 : decode cX5_insertLeaf 52 = .ok (.getfield 7, 3) := by decide +kernel
theorem dX5_insertLeaf_55 : decode cX5_insertLeaf 55 = .ok (.iload_n 2, 1) := by decide +kernel
theorem dX5_insertLeaf_56 : decode cX5_insertLeaf 56 = .ok (.iload_n 1, 1) := by decide +kernel
theorem dX5_insertLeaf_57 : decode cX5_insertLeaf 57 = .ok (.iastore, 1) := by decide +kernel
theorem dX5_insertLeaf_58 : decode cX5_insertLeaf 58 = .ok (.aload_n 0, 1) := by decide +kernel
theorem dX5_insertLeaf_59 : decode cX5_insertLeaf 59 = .ok (.dup, 1) := by decide +kernel
theorem dX5_insertLeaf_60 : decode cX5_insertLeaf 60 = .ok (.getfield 22, 3) := by decide +kernel
theorem dX5_insertLeaf_63 : decode cX5_insertLeaf 63 = .ok (.iconst 1, 1) := by decide +kernel
theorem dX5_insertLeaf_64 : decode cX5_insertLeaf 64 = .ok (.iadd, 1) := by decide +kernel
theorem dX5_insertLeaf_65 : decode cX5_insertLeaf 65 = .ok (.putfield 22, 3) := by decide +kernel
theorem dX5_insertLeaf_68 : decode cX5_insertLeaf 68 = .ok (.return_, 1) := by decide +kernel
theorem dX5_merge_0 : decode cX5_merge 0 = .ok (.aload_n 0, 1) := by decide +kernel
theorem dX5_merge_1 : decode cX5_merge 1 = .ok (.iconst 0, 1) := by decide +kernel
theorem dX5_merge_2 : decode cX5_merge 2 = .ok (.putfield 26, 3) := by decide +kernel
theorem dX5_merge_5 : decode cX5_merge 5 = .ok (.aload_n 0, 1) := by decide +kernel
theorem dX5_merge_6 : decode cX5_merge 6 = .ok (.iload_n 1, 1) := by decide +kernel
theorem dX5_merge_7 : decode cX5_merge 7 = .ok (.putfield 29, 3) := by decide +kernel
theorem dX5_merge_10 : decode cX5_merge 10 = .ok (.aload_n 0, 1) := by decide +kernel
theorem dX5_merge_11 : decode cX5_merge 11 = .ok (.iload_n 1, 1) := by decide +kernel
theorem dX5_merge_12 : decode cX5_merge 12 = .ok (.putfield 32, 3) := by decide +kernel
theorem dX5_merge_15 : decode cX5_merge 15 = .ok (.iconst 1, 1) := by decide +kernel
theorem dX5_merge_16 : decode cX5_merge 16 = .ok (.istore_n 2, 1) := by decide +kernel
theorem dX5_merge_17 : decode cX5_merge 17 = .ok (.iload_n 2, 1) := by decide +kernel
theorem dX5_merge_18 : decode cX5_merge 18 = .ok (.aload_n 0, 1) := by decide +kernel
theorem dX5_merge_19 : decode cX5_merge 19 = .ok (.getfield 22, 3) := by decide +kernel
theorem dX5_merge_22 : decode cX5_merge 22 = .ok (.if_icmp .ge 86, 3) := by decide +kernel
theorem dX5_merge_25 : decode cX5_merge 25 = .ok (.aload_n 0, 1) := by decide +kernel
theorem dX5_merge_26 : decode cX5_merge 26 = .ok (.getfield 32, 3) := by decide +kernel
theorem dX5_merge_29 : decode cX5_merge 29 = .ok (.aload_n 0, 1) := by decide +kernel
theorem dX5_merge_30 : decode cX5_merge 30 = .ok (.getfield 13, 3) := by decide +kernel
theorem dX5_merge_33 : decode cX5_merge 33 = .ok (.arraylength, 1) := by decide +kernel
theorem dX5_merge_34 : decode cX5_merge 34 = .ok (.if_icmp .ge 74, 3) := by decide +kernel
theorem dX5_merge_37 : decode cX5_merge 37 = .ok (.aload_n 0, 1) := by decide +kernel
theorem dX5_merge_38 : decode cX5_merge 38 = .ok (.invokevirtual 66, 3) := by decide +kernel
theorem dX5_merge_41 : decode cX5_merge 41 = .ok (.istore_n 3, 1) := by decide +kernel
theorem dX5_merge_42 : decode cX5_merge 42 = .ok (.aload_n 0, 1) := by decide +kernel
theorem dX5_merge_43 : decode cX5_merge 43 = .ok (.invokevirtual 66, 3) := by decide +kernel
theorem dX5_merge_46 : decode cX5_merge 46 = .ok (.istore 4, 2) := by decide +kernel
theorem dX5_merge_48 : decode cX5_merge 48 = .ok (.aload_n 0, 1) := by decide +kernel
theorem dX5_merge_49 : decode cX5_merge 49 = .ok (.getfield 13, 3) := by decide +kernel
theorem dX5_merge_52 : decode cX5_merge 52 = .ok (.aload_n 0, 1) := by decide +kernel
theorem dX5_merge_53 : decode cX5_merge 53 = .ok (.getfield 32, 3) := by decide +kernel
theorem dX5_merge_56 : decode cX5_merge 56 = .ok (.aload_n 0, 1) := by decide +kernel
theorem dX5_merge_57 : decode cX5_merge 57 = .ok (.getfield 13, 3) := by decide +kernel
theorem dX5_merge_60 : decode cX5_merge 60 = .ok (.iload_n 3, 1) := by decide +kernel
theorem dX5_merge_61 : decode cX5_merge 61 = .ok (.iaload, 1) := by decide +kernel
theorem dX5_merge_62 : decode cX5_merge 62 = .ok (.aload_n 0, 1) := by decide +kernel
theorem dX5_merge_63 : decode cX5_merge 63 = .ok (.getfield 13, 3) := by decide +kernel
theorem dX5_merge_66 : decode cX5_merge 66 = .ok (.iload 4, 2) := by decide +kernel
theorem dX5_merge_68 : decode cX5_merge 68 = .ok (.iaload, 1) := by decide +kernel
theorem dX5_merge_69 : decode cX5_merge 69 = .ok (.iadd, 1) := by decide +kernel
theorem dX5_merge_70 : decode cX5_merge 70 = .ok (.iastore, 1) := by decide +kernel
theorem dX5_merge_71 : decode cX5_merge 71 = .ok (.aload_n 0, 1) := by decide +kernel
theorem dX5_merge_72 : decode cX5_merge 72 = .ok (.getfield 16, 3) := by decide +kernel
theorem dX5_merge_75 : decode cX5_merge 75 = .ok (.iload_n 3, 1) := by decide +kernel
theorem dX5_merge_76 : decode cX5_merge 76 = .ok (.aload_n 0, 1) := by decide +kernel
theorem dX5_merge_77 : decode cX5_merge 77 = .ok (.getfield 32, 3) := by decide +kernel
theorem dX5_merge_80 : decode cX5_merge 80 = .ok (.iastore, 1) := by decide +kernel
theorem dX5_merge_81 : decode cX5_merge 81 = .ok (.aload_n 0, 1) := by decide +kernel
theorem dX5_merge_82 : decode cX5_merge 82 = .ok (.getfield 16, 3) := by decide +kernel
theorem dX5_merge_85 : decode cX5_merge 85 = .ok (.iload 4, 2) := by decide +kernel
theorem dX5_merge_87 : decode cX5_merge 87 = .ok (.aload_n 0, 1) := by decide +kernel
theorem dX5_merge_88 : decode cX5_merge 88 = .ok (.getfield 32, 3) := by decide +kernel
theorem dX5_merge_91 : decode cX5_merge 91 = .ok (.iastore, 1) := by decide +kernel
theorem dX5_merge_92 : decode cX5_merge 92 = .ok (.aload_n 0, 1) := by decide +kernel
theorem dX5_merge_93 : decode cX5_merge 93 = .ok (.dup, 1) := by decide +kernel
theorem dX5_merge_94 : decode cX5_merge 94 = .ok (.getfield 32, 3) := by decide +kernel
theorem dX5_merge_97 : decode cX5_merge 97 = .ok (.iconst 1, 1) := by decide +kernel
theorem dX5_merge_98 : decode cX5_merge 98 = .ok (.iadd, 1) := by decide +kernel
theorem dX5_merge_99 : decode cX5_merge 99 = .ok (.putfield 32, 3) := by decide +kernel
theorem dX5_merge_102 : decode cX5_merge 102 = .ok (.iinc 2 1, 3) := by decide +kernel
theorem dX5_merge_105 : decode cX5_merge 105 = .ok (.goto (-88), 3) := by decide +kernel
theorem dX5_merge_108 : decode cX5_merge 108 = .ok (.return_, 1) := by decide +kernel
theorem dX5_takeLeast_0 : decode cX5_takeLeast 0 = .ok (.aload_n 0, 1) := by decide +kernel
theorem dX5_takeLeast_1 : decode cX5_takeLeast 1 = .ok (.getfield 29, 3) := by decide +kernel
theorem dX5_takeLeast_4 : decode cX5_takeLeast 4 = .ok (.aload_n 0, 1) := by decide +kernel
theorem dX5_takeLeast_5 : decode cX5_takeLeast 5 = .ok (.getfield 32, 3) := by decide +kernel
theorem dX5_takeLeast_8 : decode cX5_takeLeast 8 = .ok (.if_icmp .ge 7, 3) := by decide +kernel
theorem dX5_takeLeast_11 : decode cX5_takeLeast 11 = .ok (.iconst 1, 1) := by decide +kernel
theorem dX5_takeLeast_12 : decode cX5_takeLeast 12 = .ok (.goto 4, 3) := by decide +kernel
theorem dX5_takeLeast_15 : decode cX5_takeLeast 15 = .ok (.iconst 0, 1) := by decide +kernel
theorem dX5_takeLeast_16 : decode cX5_takeLeast 16 = .ok (.istore_n 1, 1) := by decide +kernel
theorem dX5_takeLeast_17 : decode cX5_takeLeast 17 = .ok (.aload_n 0, 1) := by decide +kernel
theorem dX5_takeLeast_18 : decode cX5_takeLeast 18 = .ok (.getfield 26, 3) := by decide +kernel
theorem dX5_takeLeast_21 : decode cX5_takeLeast 21 = .ok (.aload_n 0, 1) := by decide +kernel
theorem dX5_takeLeast_22 : decode cX5_takeLeast 22 = .ok (.getfield 22, 3) := by decide +kernel
theorem dX5_takeLeast_25 : decode cX5_takeLeast 25 = .ok (.if_icmp .ge 7, 3) := by decide +kernel
theorem dX5_takeLeast_28 : decode cX5_takeLeast 28 = .ok (.iconst 1, 1) := by decide +kernel
theorem dX5_takeLeast_29 : decode cX5_takeLeast 29 = .ok (.goto 4, 3) := by decide +kernel
theorem dX5_takeLeast_32 : decode cX5_takeLeast 32 = .ok (.iconst 0, 1) := by decide +kernel
theorem dX5_takeLeast_33 : decode cX5_takeLeast 33 = .ok (.istore_n 2, 1) := by decide +kernel
theorem dX5_takeLeast_34 : decode cX5_takeLeast 34 = .ok (.iload_n 2, 1) := by decide +kernel
theorem dX5_takeLeast_35 : decode cX5_takeLeast 35 = .ok (.ifCond .eq 55, 3) := by decide +kernel
theorem dX5_takeLeast_38 : decode cX5_takeLeast 38 = .ok (.iload_n 1, 1) := by decide +kernel
theorem dX5_takeLeast_39 : decode cX5_takeLeast 39 = .ok (.ifCond .eq 29, 3) := by decide +kernel
theorem dX5_takeLeast_42 : decode cX5_takeLeast 42 = .ok (.aload_n 0, 1) := by decide +kernel
theorem dX5_takeLeast_43 : decode cX5_takeLeast 43 = .ok (.getfield 13, 3) := by decide +kernel
theorem dX5_takeLeast_46 : decode cX5_takeLeast 46 = .ok (.aload_n 0, 1) := by decide +kernel
theorem dX5_takeLeast_47 : decode cX5_takeLeast 47 = .ok (.getfield 7, 3) := by decide +kernel
theorem dX5_takeLeast_50 : decode cX5_takeLeast 50 = .ok (.aload_n 0, 1) := by decide +kernel
theorem dX5_takeLeast_51 : decode cX5_takeLeast 51 = .ok (.getfield 26, 3) := by decide +kernel
theorem dX5_takeLeast_54 : decode cX5_takeLeast 54 = .ok (.iaload, 1) := by decide +kernel
theorem dX5_takeLeast_55 : decode cX5_takeLeast 55 = .ok (.iaload, 1) := by decide +kernel
theorem dX5_takeLeast_56 : decode cX5_takeLeast 56 = .ok (.aload_n 0, 1) := by decide +kernel
theorem dX5_takeLeast_57 : decode cX5_takeLeast 57 = .ok (.getfield 13, 3) := by decide +kernel
theorem dX5_takeLeast_60 : decode cX5_takeLeast 60 = .ok (.aload_n 0, 1) := by decide +kernel
theorem dX5_takeLeast_61 : decode cX5_takeLeast 61 = .ok (.getfield 29, 3) := by decide +kernel
theorem dX5_takeLeast_64 : decode cX5_takeLeast 64 = .ok (.iaload, 1) := by decide +kernel
theorem dX5_takeLeast_65 : decode cX5_takeLeast 65 = .ok (.if_icmp .gt 25, 3) := by decide +kernel
theorem dX5_takeLeast_68 : decode cX5_takeLeast 68 = .ok (.aload_n 0, 1) := by decide +kernel
theorem dX5_takeLeast_69 : decode cX5_takeLeast 69 = .ok (.dup, 1) := by decide +kernel
theorem dX5_takeLeast_70 : decode cX5_takeLeast 70 = .ok (.getfield 26, 3) := by decide +kernel
theorem dX5_takeLeast_73 : decode cX5_takeLeast 73 = .ok (.iconst 1, 1) := by decide +kernel
theorem dX5_takeLeast_74 : decode cX5_takeLeast 74 = .ok (.iadd, 1) := by decide +kernel
theorem dX5_takeLeast_75 : decode cX5_takeLeast 75 = .ok (.putfield 26, 3) := by decide +kernel
theorem dX5_takeLeast_78 : decode cX5_takeLeast 78 = .ok (.aload_n 0, 1) := by decide +kernel
theorem dX5_takeLeast_79 : decode cX5_takeLeast 79 = .ok (.getfield 7, 3) := by decide +kernel
theorem dX5_takeLeast_82 : decode cX5_takeLeast 82 = .ok (.aload_n 0, 1) := by decide +kernel
theorem dX5_takeLeast_83 : decode cX5_takeLeast 83 = .ok (.getfield 26, 3) := by decide +kernel
theorem dX5_takeLeast_86 : decode cX5_takeLeast 86 = .ok (.iconst 1, 1) := by decide +kernel
theorem dX5_takeLeast_87 : decode cX5_takeLeast 87 = .ok (.isub, 1) := by decide +kernel
theorem dX5_takeLeast_88 : decode cX5_takeLeast 88 = .ok (.iaload, 1) := by decide +kernel
theorem dX5_takeLeast_89 : decode cX5_takeLeast 89 = .ok (.ireturn, 1) := by decide +kernel
theorem dX5_takeLeast_90 : decode cX5_takeLeast 90 = .ok (.aload_n 0, 1) := by decide +kernel
theorem dX5_takeLeast_91 : decode cX5_takeLeast 91 = .ok (.dup, 1) := by decide +kernel
theorem dX5_takeLeast_92 : decode cX5_takeLeast 92 = .ok (.getfield 29, 3) := by decide +kernel
theorem dX5_takeLeast_95 : decode cX5_takeLeast 95 = .ok (.iconst 1, 1) := by decide +kernel
theorem dX5_takeLeast_96 : decode cX5_takeLeast 96 = .ok (.iadd, 1) := by decide +kernel
theorem dX5_takeLeast_97 : decode cX5_takeLeast 97 = .ok (.putfield 29, 3) := by decide +kernel
theorem dX5_takeLeast_100 : decode cX5_takeLeast 100 = .ok (.aload_n 0, 1) := by decide +kernel
theorem dX5_takeLeast_101 : decode cX5_takeLeast 101 = .ok (.getfield 29, 3) := by decide +kernel
theorem dX5_takeLeast_104 : decode cX5_takeLeast 104 = .ok (.iconst 1, 1) := by decide +kernel
theorem dX5_takeLeast_105 : decode cX5_takeLeast 105 = .ok (.isub, 1) := by decide +kernel
theorem dX5_takeLeast_106 : decode cX5_takeLeast 106 = .ok (.ireturn, 1) := by decide +kernel
theorem dX5_measure_0 : decode cX5_measure 0 = .ok (.aload_n 0, 1) := by decide +kernel
theorem dX5_measure_1 : decode cX5_measure 1 = .ok (.getfield 19, 3) := by decide +kernel
theorem dX5_measure_4 : decode cX5_measure 4 = .ok (.aload_n 0, 1) := by decide +kernel
theorem dX5_measure_5 : decode cX5_measure 5 = .ok (.getfield 32, 3) := by decide +kernel
theorem dX5_measure_8 : decode cX5_measure 8 = .ok (.iconst 1, 1) := by decide +kernel
theorem dX5_measure_9 : decode cX5_measure 9 = .ok (.isub, 1) := by decide +kernel
theorem dX5_measure_10 : decode cX5_measure 10 = .ok (.iconst 0, 1) := by decide +kernel
theorem dX5_measure_11 : decode cX5_measure 11 = .ok (.iastore, 1) := by decide +kernel
theorem dX5_measure_12 : decode cX5_measure 12 = .ok (.aload_n 0, 1) := by decide +kernel
theorem dX5_measure_13 : decode cX5_measure 13 = .ok (.getfield 32, 3) := by decide +kernel
theorem dX5_measure_16 : decode cX5_measure 16 = .ok (.iconst 2, 1) := by decide +kernel
theorem dX5_measure_17 : decode cX5_measure 17 = .ok (.isub, 1) := by decide +kernel
theorem dX5_measure_18 : decode cX5_measure 18 = .ok (.istore_n 2, 1) := by decide +kernel
theorem dX5_measure_19 : decode cX5_measure 19 = .ok (.iload_n 2, 1) := by decide +kernel
theorem dX5_measure_20 : decode cX5_measure 20 = .ok (.aload_n 1, 1) := by decide +kernel
theorem dX5_measure_21 : decode cX5_measure 21 = .ok (.invokevirtual 45, 3) := by decide +kernel
theorem dX5_measure_24 : decode cX5_measure 24 = .ok (.if_icmp .lt 28, 3) := by decide +kernel
theorem dX5_measure_27 : decode cX5_measure 27 = .ok (.aload_n 0, 1) := by decide +kernel
theorem dX5_measure_28 : decode cX5_measure 28 = .ok (.getfield 19, 3) := by decide +kernel
theorem dX5_measure_31 : decode cX5_measure 31 = .ok (.iload_n 2, 1) := by decide +kernel
theorem dX5_measure_32 : decode cX5_measure 32 = .ok (.aload_n 0, 1) := by decide +kernel
theorem dX5_measure_33 : decode cX5_measure 33 = .ok (.getfield 19, 3) := by decide +kernel
theorem dX5_measure_36 : decode cX5_measure 36 = .ok (.aload_n 0, 1) := by decide +kernel
theorem dX5_measure_37 : decode cX5_measure 37 = .ok (.getfield 16, 3) := by decide +kernel
theorem dX5_measure_40 : decode cX5_measure 40 = .ok (.iload_n 2, 1) := by decide +kernel
theorem dX5_measure_41 : decode cX5_measure 41 = .ok (.iaload, 1) := by decide +kernel
theorem dX5_measure_42 : decode cX5_measure 42 = .ok (.iaload, 1) := by decide +kernel
theorem dX5_measure_43 : decode cX5_measure 43 = .ok (.iconst 1, 1) := by decide +kernel
theorem dX5_measure_44 : decode cX5_measure 44 = .ok (.iadd, 1) := by decide +kernel
theorem dX5_measure_45 : decode cX5_measure 45 = .ok (.iastore, 1) := by decide +kernel
theorem dX5_measure_46 : decode cX5_measure 46 = .ok (.iinc 2 (-1), 3) := by decide +kernel
theorem dX5_measure_49 : decode cX5_measure 49 = .ok (.goto (-30), 3) := by decide +kernel
theorem dX5_measure_52 : decode cX5_measure 52 = .ok (.iconst 0, 1) := by decide +kernel
theorem dX5_measure_53 : decode cX5_measure 53 = .ok (.istore_n 2, 1) := by decide +kernel
theorem dX5_measure_54 : decode cX5_measure 54 = .ok (.iload_n 2, 1) := by decide +kernel
theorem dX5_measure_55 : decode cX5_measure 55 = .ok (.aload_n 0, 1) := by decide +kernel
theorem dX5_measure_56 : decode cX5_measure 56 = .ok (.getfield 22, 3) := by decide +kernel
theorem dX5_measure_59 : decode cX5_measure 59 = .ok (.if_icmp .ge 37, 3) := by decide +kernel
theorem dX5_measure_62 : decode cX5_measure 62 = .ok (.aload_n 1, 1) := by decide +kernel
theorem dX5_measure_63 : decode cX5_measure 63 = .ok (.aload_n 0, 1) := by decide +kernel
theorem dX5_measure_64 : decode cX5_measure 64 = .ok (.getfield 7, 3) := by decide +kernel
theorem dX5_measure_67 : decode cX5_measure 67 = .ok (.iload_n 2, 1) := by decide +kernel
theorem dX5_measure_68 : decode cX5_measure 68 = .ok (.iaload, 1) := by decide +kernel
theorem dX5_measure_69 : decode cX5_measure 69 = .ok (.aload_n 0, 1) := by decide +kernel
theorem dX5_measure_70 : decode cX5_measure 70 = .ok (.getfield 19, 3) := by decide +kernel
theorem dX5_measure_73 : decode cX5_measure 73 = .ok (.aload_n 0, 1) := by decide +kernel
theorem dX5_measure_74 : decode cX5_measure 74 = .ok (.getfield 16, 3) := by decide +kernel
theorem dX5_measure_77 : decode cX5_measure 77 = .ok (.aload_n 0, 1) := by decide +kernel
theorem dX5_measure_78 : decode cX5_measure 78 = .ok (.getfield 7, 3) := by decide +kernel
theorem dX5_measure_81 : decode cX5_measure 81 = .ok (.iload_n 2, 1) := by decide +kernel
theorem dX5_measure_82 : decode cX5_measure 82 = .ok (.iaload, 1) := by decide +kernel
theorem dX5_measure_83 : decode cX5_measure 83 = .ok (.iaload, 1) := by decide +kernel
theorem dX5_measure_84 : decode cX5_measure 84 = .ok (.iaload, 1) := by decide +kernel
theorem dX5_measure_85 : decode cX5_measure 85 = .ok (.iconst 1, 1) := by decide +kernel
theorem dX5_measure_86 : decode cX5_measure 86 = .ok (.iadd, 1) := by decide +kernel
theorem dX5_measure_87 : decode cX5_measure 87 = .ok (.invokevirtual 69, 3) := by decide +kernel
theorem dX5_measure_90 : decode cX5_measure 90 = .ok (.iinc 2 1, 3) := by decide +kernel
theorem dX5_measure_93 : decode cX5_measure 93 = .ok (.goto (-39), 3) := by decide +kernel
theorem dX5_measure_96 : decode cX5_measure 96 = .ok (.return_, 1) := by decide +kernel
theorem dX6_init_0 : decode cX6_init 0 = .ok (.aload_n 0, 1) := by decide +kernel
theorem dX6_init_1 : decode cX6_init 1 = .ok (.invokespecial 3, 3) := by decide +kernel
theorem dX6_init_4 : decode cX6_init 4 = .ok (.aload_n 0, 1) := by decide +kernel
theorem dX6_init_5 : decode cX6_init 5 = .ok (.aload_n 1, 1) := by decide +kernel
theorem dX6_init_6 : decode cX6_init 6 = .ok (.putfield 9, 3) := by decide +kernel
theorem dX6_init_9 : decode cX6_init 9 = .ok (.aload_n 0, 1) := by decide +kernel
theorem dX6_init_10 : decode cX6_init 10 = .ok (.aload_n 3, 1) := by decide +kernel
theorem dX6_init_11 : decode cX6_init 11 = .ok (.putfield 15, 3) := by decide +kernel
theorem dX6_init_14 : decode cX6_init 14 = .ok (.aload_n 0, 1) := by decide +kernel
theorem dX6_init_15 : decode cX6_init 15 = .ok (.new 19, 3) := by decide +kernel
theorem dX6_init_18 : decode cX6_init 18 = .ok (.dup, 1) := by decide +kernel
theorem dX6_init_19 : decode cX6_init 19 = .ok (.aload_n 2, 1) := by decide +kernel
theorem dX6_init_20 : decode cX6_init 20 = .ok (.invokespecial 21, 3) := by decide +kernel
theorem dX6_init_23 : decode cX6_init 23 = .ok (.putfield 24, 3) := by decide +kernel
theorem dX6_init_26 : decode cX6_init 26 = .ok (.aload_n 0, 1) := by decide +kernel
theorem dX6_init_27 : decode cX6_init 27 = .ok (.new 28, 3) := by decide +kernel
theorem dX6_init_30 : decode cX6_init 30 = .ok (.dup, 1) := by decide +kernel
theorem dX6_init_31 : decode cX6_init 31 = .ok (.aload_n 1, 1) := by decide +kernel
theorem dX6_init_32 : decode cX6_init 32 = .ok (.sipush 4000, 3) := by decide +kernel
theorem dX6_init_35 : decode cX6_init 35 = .ok (.invokespecial 30, 3) := by decide +kernel
theorem dX6_init_38 : decode cX6_init 38 = .ok (.putfield 33, 3) := by decide +kernel
theorem dX6_init_41 : decode cX6_init 41 = .ok (.aload_n 0, 1) := by decide +kernel
theorem dX6_init_42 : decode cX6_init 42 = .ok (.new 37, 3) := by decide +kernel
theorem dX6_init_45 : decode cX6_init 45 = .ok (.dup, 1) := by decide +kernel
theorem dX6_init_46 : decode cX6_init 46 = .ok (.sipush 510, 3) := by decide +kernel
theorem dX6_init_49 : decode cX6_init 49 = .ok (.invokespecial 39, 3) := by decide +kernel
theorem dX6_init_52 : decode cX6_init 52 = .ok (.putfield 42, 3) := by decide +kernel
theorem dX6_init_55 : decode cX6_init 55 = .ok (.aload_n 0, 1) := by decide +kernel
theorem dX6_init_56 : decode cX6_init 56 = .ok (.aload_n 3, 1) := by decide +kernel
theorem dX6_init_57 : decode cX6_init 57 = .ok (.iconst 0, 1) := by decide +kernel
theorem dX6_init_58 : decode cX6_init 58 = .ok (.invokevirtual 46, 3) := by decide +kernel
theorem dX6_init_61 : decode cX6_init 61 = .ok (.putfield 52, 3) := by decide +kernel
theorem dX6_init_64 : decode cX6_init 64 = .ok (.aload_n 0, 1) := by decide +kernel
theorem dX6_init_65 : decode cX6_init 65 = .ok (.aload_n 3, 1) := by decide +kernel
theorem dX6_init_66 : decode cX6_init 66 = .ok (.iconst 1, 1) := by decide +kernel
theorem dX6_init_67 : decode cX6_init 67 = .ok (.invokevirtual 46, 3) := by decide +kernel
theorem dX6_init_70 : decode cX6_init 70 = .ok (.putfield 56, 3) := by decide +kernel
theorem dX6_init_73 : decode cX6_init 73 = .ok (.aload_n 0, 1) := by decide +kernel
theorem dX6_init_74 : decode cX6_init 74 = .ok (.aload_n 3, 1) := by decide +kernel
theorem dX6_init_75 : decode cX6_init 75 = .ok (.iconst 2, 1) := by decide +kernel
theorem dX6_init_76 : decode cX6_init 76 = .ok (.invokevirtual 46, 3) := by decide +kernel
theorem dX6_init_79 : decode cX6_init 79 = .ok (.putfield 59, 3) := by decide +kernel
theorem dX6_init_82 : decode cX6_init 82 = .ok (.aload_n 0, 1) := by decide +kernel
theorem dX6_init_83 : decode cX6_init 83 = .ok (.sipush 400, 3) := by decide +kernel
theorem dX6_init_86 : decode cX6_init 86 = .ok (.newarray .int, 2) := by decide +kernel
theorem dX6_init_88 : decode cX6_init 88 = .ok (.putfield 62, 3) := by decide +kernel
theorem dX6_init_91 : decode cX6_init 91 = .ok (.aload_n 0, 1) := by decide +kernel
theorem dX6_init_92 : decode cX6_init 92 = .ok (.sipush 400, 3) := by decide +kernel
theorem dX6_init_95 : decode cX6_init 95 = .ok (.newarray .int, 2) := by decide +kernel
theorem dX6_init_97 : decode cX6_init 97 = .ok (.putfield 66, 3) := by decide +kernel
theorem dX6_init_100 : decode cX6_init 100 = .ok (.aload_n 0, 1) := by decide +kernel
theorem dX6_init_101 : decode cX6_init 101 = .ok (.iconst 0, 1) := by decide +kernel
theorem dX6_init_102 : decode cX6_init 102 = .ok (.putfield 69, 3) := by decide +kernel
theorem dX6_init_105 : decode cX6_init 105 = .ok (.aload_n 0, 1) := by decide +kernel
theorem dX6_init_106 : decode cX6_init 106 = .ok (.sipush 510, 3) := by decide +kernel
theorem dX6_init_109 : decode cX6_init 109 = .ok (.newarray .int, 2) := by decide +kernel
theorem dX6_init_111 : decode cX6_init 111 = .ok (.putfield 73, 3) := by decide +kernel
theorem dX6_init_114 : decode cX6_init 114 = .ok (.aload_n 0, 1) := by decide +kernel
theorem dX6_init_115 : decode cX6_init 115 = .ok (.sipush 510, 3) := by decide +kernel
theorem dX6_init_118 : decode cX6_init 118 = .ok (.newarray .int, 2) := by decide +kernel
theorem dX6_init_120 : decode cX6_init 120 = .ok (.putfield 76, 3) := by decide +kernel
theorem dX6_init_123 : decode cX6_init 123 = .ok (.aload_n 0, 1) := by decide +kernel
theorem dX6_init_124 : decode cX6_init 124 = .ok (.iconst 0, 1) := by decide +kernel
theorem dX6_init_125 : decode cX6_init 125 = .ok (.putfield 79, 3) := by decide +kernel
theorem dX6_init_128 : decode cX6_init 128 = .ok (.return_, 1) := by decide +kernel
theorem dX6_pack_0 : decode cX6_pack 0 = .ok (.aload_n 0, 1) := by decide +kernel
theorem dX6_pack_1 : decode cX6_pack 1 = .ok (.getfield 24, 3) := by decide +kernel
theorem dX6_pack_4 : decode cX6_pack 4 = .ok (.invokevirtual 82, 3) := by decide +kernel
theorem dX6_pack_7 : decode cX6_pack 7 = .ok (.aload_n 0, 1) := by decide +kernel
theorem dX6_pack_8 : decode cX6_pack 8 = .ok (.getfield 15, 3) := by decide +kernel
theorem dX6_pack_11 : decode cX6_pack 11 = .ok (.invokevirtual 85, 3) := by decide +kernel
theorem dX6_pack_14 : decode cX6_pack 14 = .ok (.aload_n 0, 1) := by decide +kernel
theorem dX6_pack_15 : decode cX6_pack 15 = .ok (.getfield 33, 3) := by decide +kernel
theorem dX6_pack_18 : decode cX6_pack 18 = .ok (.iload_n 1, 1) := by decide +kernel
theorem dX6_pack_19 : decode cX6_pack 19 = .ok (.invokevirtual 86, 3) := by decide +kernel
theorem dX6_pack_22 : decode cX6_pack 22 = .ok (.iconst 0, 1) := by decide +kernel
theorem dX6_pack_23 : decode cX6_pack 23 = .ok (.istore_n 2, 1) := by decide +kernel
theorem dX6_pack_24 : decode cX6_pack 24 = .ok (.iconst 0, 1) := by decide +kernel
theorem dX6_pack_25 : decode cX6_pack 25 = .ok (.istore_n 3, 1) := by decide +kernel
theorem dX6_pack_26 : decode cX6_pack 26 = .ok (.iload_n 3, 1) := by decide +kernel
theorem dX6_pack_27 : decode cX6_pack 27 = .ok (.iload_n 1, 1) := by decide +kernel
theorem dX6_pack_28 : decode cX6_pack 28 = .ok (.if_icmp .ge 69, 3) := by decide +kernel
theorem dX6_pack_31 : decode cX6_pack 31 = .ok (.iload_n 2, 1) := by decide +kernel
theorem dX6_pack_32 : decode cX6_pack 32 = .ok (.iload_n 1, 1) := by decide +kernel
theorem dX6_pack_33 : decode cX6_pack 33 = .ok (.if_icmp .ge 64, 3) := by decide +kernel
theorem dX6_pack_36 : decode cX6_pack 36 = .ok (.aload_n 0, 1) := by decide +kernel
theorem dX6_pack_37 : decode cX6_pack 37 = .ok (.getfield 15, 3) := by decide +kernel
theorem dX6_pack_40 : decode cX6_pack 40 = .ok (.invokevirtual 88, 3) := by decide +kernel
theorem dX6_pack_43 : decode cX6_pack 43 = .ok (.aload_n 0, 1) := by decide +kernel
theorem dX6_pack_44 : decode cX6_pack 44 = .ok (.iload_n 2, 1) := by decide +kernel
theorem dX6_pack_45 : decode cX6_pack 45 = .ok (.iload_n 1, 1) := by decide +kernel
theorem dX6_pack_46 : decode cX6_pack 46 = .ok (.invokevirtual 91, 3) := by decide +kernel
theorem dX6_pack_49 : decode cX6_pack 49 = .ok (.istore_n 2, 1) := by decide +kernel
theorem dX6_pack_50 : decode cX6_pack 50 = .ok (.aload_n 0, 1) := by decide +kernel
theorem dX6_pack_51 : decode cX6_pack 51 = .ok (.getfield 42, 3) := by decide +kernel
theorem dX6_pack_54 : decode cX6_pack 54 = .ok (.aload_n 0, 1) := by decide +kernel
theorem dX6_pack_55 : decode cX6_pack 55 = .ok (.getfield 56, 3) := by decide +kernel
theorem dX6_pack_58 : decode cX6_pack 58 = .ok (.invokevirtual 95, 3) := by decide +kernel
theorem dX6_pack_61 : decode cX6_pack 61 = .ok (.aload_n 0, 1) := by decide +kernel
theorem dX6_pack_62 : decode cX6_pack 62 = .ok (.getfield 42, 3) := by decide +kernel
theorem dX6_pack_65 : decode cX6_pack 65 = .ok (.aload_n 0, 1) := by decide +kernel
theorem dX6_pack_66 : decode cX6_pack 66 = .ok (.getfield 59, 3) := by decide +kernel
theorem dX6_pack_69 : decode cX6_pack 69 = .ok (.invokevirtual 95, 3) := by decide +kernel
theorem dX6_pack_72 : decode cX6_pack 72 = .ok (.aload_n 0, 1) := by decide +kernel
theorem dX6_pack_73 : decode cX6_pack 73 = .ok (.invokevirtual 99, 3) := by decide +kernel
theorem dX6_pack_76 : decode cX6_pack 76 = .ok (.aload_n 0, 1) := by decide +kernel
theorem dX6_pack_77 : decode cX6_pack 77 = .ok (.getfield 42, 3) := by decide +kernel
theorem dX6_pack_80 : decode cX6_pack 80 = .ok (.aload_n 0, 1) := by decide +kernel
theorem dX6_pack_81 : decode cX6_pack 81 = .ok (.getfield 52, 3) := by decide +kernel
theorem dX6_pack_84 : decode cX6_pack 84 = .ok (.invokevirtual 95, 3) := by decide +kernel
theorem dX6_pack_87 : decode cX6_pack 87 = .ok (.aload_n 0, 1) := by decide +kernel
theorem dX6_pack_88 : decode cX6_pack 88 = .ok (.invokevirtual 102, 3) := by decide +kernel
theorem dX6_pack_91 : decode cX6_pack 91 = .ok (.iinc 3 1, 3) := by decide +kernel
theorem dX6_pack_94 : decode cX6_pack 94 = .ok (.goto (-68), 3) := by decide +kernel
theorem dX6_pack_97 : decode cX6_pack 97 = .ok (.aload_n 0, 1) := by decide +kernel
theorem dX6_pack_98 : decode cX6_pack 98 = .ok (.getfield 15, 3) := by decide +kernel
theorem dX6_pack_101 : decode cX6_pack 101 = .ok (.aload_n 0, 1) := by decide +kernel
theorem dX6_pack_102 : decode cX6_pack 102 = .ok (.getfield 24, 3) := by decide +kernel
theorem dX6_pack_105 : decode cX6_pack 105 = .ok (.invokevirtual 105, 3) := by decide +kernel
theorem dX6_pack_108 : decode cX6_pack 108 = .ok (.invokevirtual 109, 3) := by decide +kernel
theorem dX6_pack_111 : decode cX6_pack 111 = .ok (.return_, 1) := by decide +kernel
theorem dX6_gatherCodes_0 : decode cX6_gatherCodes 0 = .ok (.iload_n 1, 1) := by decide +kernel
theorem dX6_gatherCodes_1 : decode cX6_gatherCodes 1 = .ok (.istore_n 3, 1) := by decide +kernel
theorem dX6_gatherCodes_2 : decode cX6_gatherCodes 2 = .ok (.aload_n 0, 1) := by decide +kernel
theorem dX6_gatherCodes_3 : decode cX6_gatherCodes 3 = .ok (.iconst 0, 1) := by decide +kernel
theorem dX6_gatherCodes_4 : decode cX6_gatherCodes 4 = .ok (.putfield 69, 3) := by decide +kernel
theorem dX6_gatherCodes_7 : decode cX6_gatherCodes 7 = .ok (.iconst 0, 1) := by decide +kernel
theorem dX6_gatherCodes_8 : decode cX6_gatherCodes 8 = .ok (.istore 4, 2) := by decide +kernel
theorem dX6_gatherCodes_10 : decode cX6_gatherCodes 10 = .ok (.iload 4, 2) := by decide +kernel
theorem dX6_gatherCodes_12 : decode cX6_gatherCodes 12 = .ok (.sipush 400, 3) := by decide +kernel
theorem dX6_gatherCodes_15 : decode cX6_gatherCodes 15 = .ok (.if_icmp .ge 143, 3) := by decide +kernel
theorem dX6_gatherCodes_18 : decode cX6_gatherCodes 18 = .ok (.iload_n 3, 1) := by decide +kernel
theorem dX6_gatherCodes_19 : decode cX6_gatherCodes 19 = .ok (.iload_n 2, 1) := by decide +kernel
theorem dX6_gatherCodes_20 : decode cX6_gatherCodes 20 = .ok (.if_icmp .ge 138, 3) := by decide +kernel
theorem dX6_gatherCodes_23 : decode cX6_gatherCodes 23 = .ok (.aload_n 0, 1) := by decide +kernel
theorem dX6_gatherCodes_24 : decode cX6_gatherCodes 24 = .ok (.getfield 33, 3) := by decide +kernel
theorem dX6_gatherCodes_27 : decode cX6_gatherCodes 27 = .ok (.iload_n 3, 1) := by decide +kernel
theorem dX6_gatherCodes_28 : decode cX6_gatherCodes 28 = .ok (.invokevirtual 112, 3) := by decide +kernel
theorem dX6_gatherCodes_31 : decode cX6_gatherCodes 31 = .ok (.ifCond .eq 72, 3) := by decide +kernel
theorem dX6_gatherCodes_34 : decode cX6_gatherCodes 34 = .ok (.aload_n 0, 1) := by decide +kernel
theorem dX6_gatherCodes_35 : decode cX6_gatherCodes 35 = .ok (.getfield 62, 3) := by decide +kernel
theorem dX6_gatherCodes_38 : decode cX6_gatherCodes 38 = .ok (.iload 4, 2) := by decide +kernel
theorem dX6_gatherCodes_40 : decode cX6_gatherCodes 40 = .ok (.aload_n 0, 1) := by decide +kernel
theorem dX6_gatherCodes_41 : decode cX6_gatherCodes 41 = .ok (.getfield 33, 3) := by decide +kernel
theorem dX6_gatherCodes_44 : decode cX6_gatherCodes 44 = .ok (.invokevirtual 116, 3) := by decide +kernel
theorem dX6_gatherCodes_47 : decode cX6_gatherCodes 47 = .ok (.sipush 253, 3) := by decide +kernel
theorem dX6_gatherCodes_50 : decode cX6_gatherCodes 50 = .ok (.iadd, 1) := by decide +kernel
theorem dX6_gatherCodes_51 : decode cX6_gatherCodes 51 = .ok (.iastore, 1) := by decide +kernel
theorem dX6_gatherCodes_52 : decode cX6_gatherCodes 52 = .ok (.aload_n 0, 1) := by decide +kernel
theorem dX6_gatherCodes_53 : decode cX6_gatherCodes 53 = .ok (.getfield 66, 3) := by decide +kernel
theorem dX6_gatherCodes_56 : decode cX6_gatherCodes 56 = .ok (.iload 4, 2) := by decide +kernel
theorem dX6_gatherCodes_58 : decode cX6_gatherCodes 58 = .ok (.aload_n 0, 1) := by decide +kernel
theorem dX6_gatherCodes_59 : decode cX6_gatherCodes 59 = .ok (.getfield 33, 3) := by decide +kernel
theorem dX6_gatherCodes_62 : decode cX6_gatherCodes 62 = .ok (.invokevirtual 119, 3) := by decide +kernel
theorem dX6_gatherCodes_65 : decode cX6_gatherCodes 65 = .ok (.iastore, 1) := by decide +kernel
theorem dX6_gatherCodes_66 : decode cX6_gatherCodes 66 = .ok (.iload_n 3, 1) := by decide +kernel
theorem dX6_gatherCodes_67 : decode cX6_gatherCodes 67 = .ok (.aload_n 0, 1) := by decide +kernel
theorem dX6_gatherCodes_68 : decode cX6_gatherCodes 68 = .ok (.getfield 33, 3) := by decide +kernel
theorem dX6_gatherCodes_71 : decode cX6_gatherCodes 71 = .ok (.invokevirtual 116, 3) := by decide +kernel
theorem dX6_gatherCodes_74 : decode cX6_gatherCodes 74 = .ok (.iadd, 1) := by decide +kernel
theorem dX6_gatherCodes_75 : decode cX6_gatherCodes 75 = .ok (.istore_n 3, 1) := by decide +kernel
theorem dX6_gatherCodes_76 : decode cX6_gatherCodes 76 = .ok (.aload_n 0, 1) := by decide +kernel
theorem dX6_gatherCodes_77 : decode cX6_gatherCodes 77 = .ok (.getfield 59, 3) := by decide +kernel
theorem dX6_gatherCodes_80 : decode cX6_gatherCodes 80 = .ok (.aload_n 0, 1) := by decide +kernel
theorem dX6_gatherCodes_81 : decode cX6_gatherCodes 81 = .ok (.getfield 66, 3) := by decide +kernel
theorem dX6_gatherCodes_84 : decode cX6_gatherCodes 84 = .ok (.iload 4, 2) := by decide +kernel
theorem dX6_gatherCodes_86 : decode cX6_gatherCodes 86 = .ok (.iaload, 1) := by decide +kernel
theorem dX6_gatherCodes_87 : decode cX6_gatherCodes 87 = .ok (.invokestatic 122, 3) := by decide +kernel
theorem dX6_gatherCodes_90 : decode cX6_gatherCodes 90 = .ok (.invokevirtual 126, 3) := by decide +kernel
theorem dX6_gatherCodes_93 : decode cX6_gatherCodes 93 = .ok (.aload_n 0, 1) := by decide +kernel
theorem dX6_gatherCodes_94 : decode cX6_gatherCodes 94 = .ok (.getfield 15, 3) := by decide +kernel
theorem dX6_gatherCodes_97 : decode cX6_gatherCodes 97 = .ok (.invokevirtual 131, 3) := by decide +kernel
theorem dX6_gatherCodes_100 : decode cX6_gatherCodes 100 = .ok (.goto 28, 3) := by decide +kernel
theorem dX6_gatherCodes_103 : decode cX6_gatherCodes 103 = .ok (.aload_n 0, 1) := by decide +kernel
theorem dX6_gatherCodes_104 : decode cX6_gatherCodes 104 = .ok (.getfield 62, 3) := by decide +kernel
theorem dX6_gatherCodes_107 : decode cX6_gatherCodes 107 = .ok (.iload 4, 2) := by decide +kernel
theorem dX6_gatherCodes_109 : decode cX6_gatherCodes 109 = .ok (.aload_n 0, 1) := by decide +kernel
theorem dX6_gatherCodes_110 : decode cX6_gatherCodes 110 = .ok (.getfield 9, 3) := by decide +kernel
theorem dX6_gatherCodes_113 : decode cX6_gatherCodes 113 = .ok (.iload_n 3, 1) := by decide +kernel
theorem dX6_gatherCodes_114 : decode cX6_gatherCodes 114 = .ok (.invokevirtual 134, 3) := by decide +kernel
theorem dX6_gatherCodes_117 : decode cX6_gatherCodes 117 = .ok (.iastore, 1) := by decide +kernel
theorem dX6_gatherCodes_118 : decode cX6_gatherCodes 118 = .ok (.iinc 3 1, 3) := by decide +kernel
theorem dX6_gatherCodes_121 : decode cX6_gatherCodes 121 = .ok (.aload_n 0, 1) := by decide +kernel
theorem dX6_gatherCodes_122 : decode cX6_gatherCodes 122 = .ok (.getfield 15, 3) := by decide +kernel
theorem dX6_gatherCodes_125 : decode cX6_gatherCodes 125 = .ok (.invokevirtual 139, 3) := by decide +kernel
theorem dX6_gatherCodes_128 : decode cX6_gatherCodes 128 = .ok (.aload_n 0, 1) := by decide +kernel
theorem dX6_gatherCodes_129 : decode cX6_gatherCodes 129 = .ok (.getfield 56, 3) := by decide +kernel
theorem dX6_gatherCodes_132 : decode cX6_gatherCodes 132 = .ok (.aload_n 0, 1) := by decide +kernel
theorem dX6_gatherCodes_133 : decode cX6_gatherCodes 133 = .ok (.getfield 62, 3) := by decide +kernel
theorem dX6_gatherCodes_136 : decode cX6_gatherCodes 136 = .ok (.iload 4, 2) := by decide +kernel
theorem dX6_gatherCodes_138 : decode cX6_gatherCodes 138 = .ok (.iaload, 1) := by decide +kernel
theorem dX6_gatherCodes_139 : decode cX6_gatherCodes 139 = .ok (.invokevirtual 126, 3) := by decide +kernel
theorem dX6_gatherCodes_142 : decode cX6_gatherCodes 142 = .ok (.aload_n 0, 1) := by decide +kernel
theorem dX6_gatherCodes_143 : decode cX6_gatherCodes 143 = .ok (.dup, 1) := by decide +kernel
theorem dX6_gatherCodes_144 : decode cX6_gatherCodes 144 = .ok (.getfield 69, 3) := by decide +kernel
theorem dX6_gatherCodes_147 : decode cX6_gatherCodes 147 = .ok (.iconst 1, 1) := by decide +kernel
theorem dX6_gatherCodes_148 : decode cX6_gatherCodes 148 = .ok (.iadd, 1) := by decide +kernel
theorem dX6_gatherCodes_149 : decode cX6_gatherCodes 149 = .ok (.putfield 69, 3) := by decide +kernel
theorem dX6_gatherCodes_152 : decode cX6_gatherCodes 152 = .ok (.iinc 4 1, 3) := by decide +kernel
theorem dX6_gatherCodes_155 : decode cX6_gatherCodes 155 = .ok (.goto (-145), 3) := by decide +kernel
theorem dX6_gatherCodes_158 : decode cX6_gatherCodes 158 = .ok (.iload_n 3, 1) := by decide +kernel
theorem dX6_gatherCodes_159 : decode cX6_gatherCodes 159 = .ok (.ireturn, 1) := by decide +kernel
theorem dX6_gatherTellers_0 : decode cX6_gatherTellers 0 = .ok (.aload_n 0, 1) := by decide +kernel
theorem dX6_gatherTellers_1 : decode cX6_gatherTellers 1 = .ok (.iconst 0, 1) := by decide +kernel
theorem dX6_gatherTellers_2 : decode cX6_gatherTellers 2 = .ok (.putfield 79, 3) := by decide +kernel
theorem dX6_gatherTellers_5 : decode cX6_gatherTellers 5 = .ok (.aload_n 0, 1) := by decide +kernel
theorem dX6_gatherTellers_6 : decode cX6_gatherTellers 6 = .ok (.getfield 56, 3) := by decide +kernel
theorem dX6_gatherTellers_9 : decode cX6_gatherTellers 9 = .ok (.invokevirtual 142, 3) := by decide +kernel
theorem dX6_gatherTellers_12 : decode cX6_gatherTellers 12 = .ok (.istore_n 1, 1) := by decide +kernel
theorem dX6_gatherTellers_13 : decode cX6_gatherTellers 13 = .ok (.iconst 0, 1) := by decide +kernel
theorem dX6_gatherTellers_14 : decode cX6_gatherTellers 14 = .ok (.istore_n 2, 1) := by decide +kernel
theorem dX6_gatherTellers_15 : decode cX6_gatherTellers 15 = .ok (.iload_n 2, 1) := by decide +kernel
theorem dX6_gatherTellers_16 : decode cX6_gatherTellers 16 = .ok (.iload_n 1, 1) := by decide +kernel
theorem dX6_gatherTellers_17 : decode cX6_gatherTellers 17 = .ok (.if_icmp .ge 54, 3) := by decide +kernel
theorem dX6_gatherTellers_20 : decode cX6_gatherTellers 20 = .ok (.aload_n 0, 1) := by decide +kernel
theorem dX6_gatherTellers_21 : decode cX6_gatherTellers 21 = .ok (.getfield 56, 3) := by decide +kernel
theorem dX6_gatherTellers_24 : decode cX6_gatherTellers 24 = .ok (.iload_n 2, 1) := by decide +kernel
theorem dX6_gatherTellers_25 : decode cX6_gatherTellers 25 = .ok (.iload_n 1, 1) := by decide +kernel
theorem dX6_gatherTellers_26 : decode cX6_gatherTellers 26 = .ok (.iload_n 2, 1) := by decide +kernel
theorem dX6_gatherTellers_27 : decode cX6_gatherTellers 27 = .ok (.isub, 1) := by decide +kernel
theorem dX6_gatherTellers_28 : decode cX6_gatherTellers 28 = .ok (.invokevirtual 145, 3) := by decide +kernel
theorem dX6_gatherTellers_31 : decode cX6_gatherTellers 31 = .ok (.istore_n 3, 1) := by decide +kernel
theorem dX6_gatherTellers_32 : decode cX6_gatherTellers 32 = .ok (.iload_n 3, 1) := by decide +kernel
theorem dX6_gatherTellers_33 : decode cX6_gatherTellers 33 = .ok (.ifCond .ne 21, 3) := by decide +kernel
theorem dX6_gatherTellers_36 : decode cX6_gatherTellers 36 = .ok (.aload_n 0, 1) := by decide +kernel
theorem dX6_gatherTellers_37 : decode cX6_gatherTellers 37 = .ok (.aload_n 0, 1) := by decide +kernel
theorem dX6_gatherTellers_38 : decode cX6_gatherTellers 38 = .ok (.getfield 56, 3) := by decide +kernel
theorem dX6_gatherTellers_41 : decode cX6_gatherTellers 41 = .ok (.iload_n 2, 1) := by decide +kernel
theorem dX6_gatherTellers_42 : decode cX6_gatherTellers 42 = .ok (.invokevirtual 148, 3) := by decide +kernel
theorem dX6_gatherTellers_45 : decode cX6_gatherTellers 45 = .ok (.iconst 2, 1) := by decide +kernel
theorem dX6_gatherTellers_46 : decode cX6_gatherTellers 46 = .ok (.iadd, 1) := by decide +kernel
theorem dX6_gatherTellers_47 : decode cX6_gatherTellers 47 = .ok (.iconst 0, 1) := by decide +kernel
theorem dX6_gatherTellers_48 : decode cX6_gatherTellers 48 = .ok (.invokevirtual 151, 3) := by decide +kernel
theorem dX6_gatherTellers_51 : decode cX6_gatherTellers 51 = .ok (.goto 14, 3) := by decide +kernel
theorem dX6_gatherTellers_54 : decode cX6_gatherTellers 54 = .ok (.aload_n 0, 1) := by decide +kernel
theorem dX6_gatherTellers_55 : decode cX6_gatherTellers 55 = .ok (.iload_n 3, 1) := by decide +kernel
theorem dX6_gatherTellers_56 : decode cX6_gatherTellers 56 = .ok (.invokevirtual 155, 3) := by decide +kernel
theorem dX6_gatherTellers_59 : decode cX6_gatherTellers 59 = .ok (.iload_n 2, 1) := by decide +kernel
theorem dX6_gatherTellers_60 : decode cX6_gatherTellers 60 = .ok (.iload_n 3, 1) := by decide +kernel
theorem dX6_gatherTellers_61 : decode cX6_gatherTellers 61 = .ok (.iconst 1, 1) := by decide +kernel
theorem dX6_gatherTellers_62 : decode cX6_gatherTellers 62 = .ok (.isub, 1) := by decide +kernel
theorem dX6_gatherTellers_63 : decode cX6_gatherTellers 63 = .ok (.iadd, 1) := by decide +kernel
theorem dX6_gatherTellers_64 : decode cX6_gatherTellers 64 = .ok (.istore_n 2, 1) := by decide +kernel
theorem dX6_gatherTellers_65 : decode cX6_gatherTellers 65 = .ok (.iinc 2 1, 3) := by decide +kernel
theorem dX6_gatherTellers_68 : decode cX6_gatherTellers 68 = .ok (.goto (-53), 3) := by decide +kernel
theorem dX6_gatherTellers_71 : decode cX6_gatherTellers 71 = .ok (.return_, 1) := by decide +kernel
theorem dX6_addZeros_0 : decode cX6_addZeros 0 = .ok (.iload_n 1, 1) := by decide +kernel
theorem dX6_addZeros_1 : decode cX6_addZeros 1 = .ok (.bipush 20, 2) := by decide +kernel
theorem dX6_addZeros_3 : decode cX6_addZeros 3 = .ok (.if_icmp .lt 15, 3) := by decide +kernel
theorem dX6_addZeros_6 : decode cX6_addZeros 6 = .ok (.aload_n 0, 1) := by decide +kernel
theorem dX6_addZeros_7 : decode cX6_addZeros 7 = .ok (.iconst 2, 1) := by decide +kernel
theorem dX6_addZeros_8 : decode cX6_addZeros 8 = .ok (.iload_n 1, 1) := by decide +kernel
theorem dX6_addZeros_9 : decode cX6_addZeros 9 = .ok (.bipush 20, 2) := by decide +kernel
theorem dX6_addZeros_11 : decode cX6_addZeros 11 = .ok (.isub, 1) := by decide +kernel
theorem dX6_addZeros_12 : decode cX6_addZeros 12 = .ok (.invokevirtual 151, 3) := by decide +kernel
theorem dX6_addZeros_15 : decode cX6_addZeros 15 = .ok (.goto 60, 3) := by decide +kernel
theorem dX6_addZeros_18 : decode cX6_addZeros 18 = .ok (.iload_n 1, 1) := by decide +kernel
theorem dX6_addZeros_19 : decode cX6_addZeros 19 = .ok (.bipush 18, 2) := by decide +kernel
theorem dX6_addZeros_21 : decode cX6_addZeros 21 = .ok (.if_icmp .le 19, 3) := by decide +kernel
theorem dX6_addZeros_24 : decode cX6_addZeros 24 = .ok (.aload_n 0, 1) := by decide +kernel
theorem dX6_addZeros_25 : decode cX6_addZeros 25 = .ok (.iconst 0, 1) := by decide +kernel
theorem dX6_addZeros_26 : decode cX6_addZeros 26 = .ok (.iconst 0, 1) := by decide +kernel
theorem dX6_addZeros_27 : decode cX6_addZeros 27 = .ok (.invokevirtual 151, 3) := by decide +kernel
theorem dX6_addZeros_30 : decode cX6_addZeros 30 = .ok (.aload_n 0, 1) := by decide +kernel
theorem dX6_addZeros_31 : decode cX6_addZeros 31 = .ok (.iconst 1, 1) := by decide +kernel
theorem dX6_addZeros_32 : decode cX6_addZeros 32 = .ok (.bipush 15, 2) := by decide +kernel
theorem dX6_addZeros_34 : decode cX6_addZeros 34 = .ok (.invokevirtual 151, 3) := by decide +kernel
theorem dX6_addZeros_37 : decode cX6_addZeros 37 = .ok (.goto 38, 3) := by decide +kernel
theorem dX6_addZeros_40 : decode cX6_addZeros 40 = .ok (.iload_n 1, 1) := by decide +kernel
theorem dX6_addZeros_41 : decode cX6_addZeros 41 = .ok (.iconst 3, 1) := by decide +kernel
theorem dX6_addZeros_42 : decode cX6_addZeros 42 = .ok (.if_icmp .lt 14, 3) := by decide +kernel
theorem dX6_addZeros_45 : decode cX6_addZeros 45 = .ok (.aload_n 0, 1) := by decide +kernel
theorem dX6_addZeros_46 : decode cX6_addZeros 46 = .ok (.iconst 1, 1) := by decide +kernel
theorem dX6_addZeros_47 : decode cX6_addZeros 47 = .ok (.iload_n 1, 1) := by decide +kernel
theorem dX6_addZeros_48 : decode cX6_addZeros 48 = .ok (.iconst 3, 1) := by decide +kernel
theorem dX6_addZeros_49 : decode cX6_addZeros 49 = .ok (.isub, 1) := by decide +kernel
theorem dX6_addZeros_50 : decode cX6_addZeros 50 = .ok (.invokevirtual 151, 3) := by decide +kernel
theorem dX6_addZeros_53 : decode cX6_addZeros 53 = .ok (.goto 22, 3) := by decide +kernel
theorem dX6_addZeros_56 : decode cX6_addZeros 56 = .ok (.iconst 0, 1) := by decide +kernel
theorem dX6_addZeros_57 : decode cX6_addZeros 57 = .ok (.istore_n 2, 1) := by decide +kernel
theorem dX6_addZeros_58 : decode cX6_addZeros 58 = .ok (.iload_n 2, 1) := by decide +kernel
theorem dX6_addZeros_59 : decode cX6_addZeros 59 = .ok (.iload_n 1, 1) := by decide +kernel
theorem dX6_addZeros_60 : decode cX6_addZeros 60 = .ok (.if_icmp .ge 15, 3) := by decide +kernel
theorem dX6_addZeros_63 : decode cX6_addZeros 63 = .ok (.aload_n 0, 1) := by decide +kernel
theorem dX6_addZeros_64 : decode cX6_addZeros 64 = .ok (.iconst 0, 1) := by decide +kernel
theorem dX6_addZeros_65 : decode cX6_addZeros 65 = .ok (.iconst 0, 1) := by decide +kernel
theorem dX6_addZeros_66 : decode cX6_addZeros 66 = .ok (.invokevirtual 151, 3) := by decide +kernel
theorem dX6_addZeros_69 : decode cX6_addZeros 69 = .ok (.iinc 2 1, 3) := by decide +kernel
theorem dX6_addZeros_72 : decode cX6_addZeros 72 = .ok (.goto (-14), 3) := by decide +kernel
theorem dX6_addZeros_75 : decode cX6_addZeros 75 = .ok (.return_, 1) := by decide +kernel
theorem dX6_addTeller_0 : decode cX6_addTeller 0 = .ok (.aload_n 0, 1) := by decide +kernel
theorem dX6_addTeller_1 : decode cX6_addTeller 1 = .ok (.getfield 79, 3) := by decide +kernel
theorem dX6_addTeller_4 : decode cX6_addTeller 4 = .ok (.aload_n 0, 1) := by decide +kernel
theorem dX6_addTeller_5 : decode cX6_addTeller 5 = .ok (.getfield 73, 3) := by decide +kernel
theorem dX6_addTeller_8 : decode cX6_addTeller 8 = .ok (.arraylength, 1) := by decide +kernel
theorem dX6_addTeller_9 : decode cX6_addTeller 9 = .ok (.if_icmp .ge 41, 3) := by decide +kernel
theorem dX6_addTeller_12 : decode cX6_addTeller 12 = .ok (.aload_n 0, 1) := by decide +kernel
theorem dX6_addTeller_13 : decode cX6_addTeller 13 = .ok (.getfield 73, 3) := by decide +kernel
theorem dX6_addTeller_16 : decode cX6_addTeller 16 = .ok (.aload_n 0, 1) := by decide +kernel
theorem dX6_addTeller_17 : decode cX6_addTeller 17 = .ok (.getfield 79, 3) := by decide +kernel
theorem dX6_addTeller_20 : decode cX6_addTeller 20 = .ok (.iload_n 1, 1) := by decide +kernel
theorem dX6_addTeller_21 : decode cX6_addTeller 21 = .ok (.iastore, 1) := by decide +kernel
theorem dX6_addTeller_22 : decode cX6_addTeller 22 = .ok (.aload_n 0, 1) := by decide +kernel
theorem dX6_addTeller_23 : decode cX6_addTeller 23 = .ok (.getfield 76, 3) := by decide +kernel
theorem dX6_addTeller_26 : decode cX6_addTeller 26 = .ok (.aload_n 0, 1) := by decide +kernel
theorem dX6_addTeller_27 : decode cX6_addTeller 27 = .ok (.getfield 79, 3) := by decide +kernel
theorem dX6_addTeller_30 : decode cX6_addTeller 30 = .ok (.iload_n 2, 1) := by decide +kernel
theorem dX6_addTeller_31 : decode cX6_addTeller 31 = .ok (.iastore, 1) := by decide +kernel
theorem dX6_addTeller_32 : decode cX6_addTeller 32 = .ok (.aload_n 0, 1) := by decide +kernel
theorem dX6_addTeller_33 : decode cX6_addTeller 33 = .ok (.dup, 1) := by decide +kernel
theorem dX6_addTeller_34 : decode cX6_addTeller 34 = .ok (.getfield 79, 3) := by decide +kernel
theorem dX6_addTeller_37 : decode cX6_addTeller 37 = .ok (.iconst 1, 1) := by decide +kernel
theorem dX6_addTeller_38 : decode cX6_addTeller 38 = .ok (.iadd, 1) := by decide +kernel
theorem dX6_addTeller_39 : decode cX6_addTeller 39 = .ok (.putfield 79, 3) := by decide +kernel
theorem dX6_addTeller_42 : decode cX6_addTeller 42 = .ok (.aload_n 0, 1) := by decide +kernel
theorem dX6_addTeller_43 : decode cX6_addTeller 43 = .ok (.getfield 52, 3) := by decide +kernel
theorem dX6_addTeller_46 : decode cX6_addTeller 46 = .ok (.iload_n 1, 1) := by decide +kernel
theorem dX6_addTeller_47 : decode cX6_addTeller 47 = .ok (.invokevirtual 126, 3) := by decide +kernel
theorem dX6_addTeller_50 : decode cX6_addTeller 50 = .ok (.return_, 1) := by decide +kernel
theorem dX6_packBlock_0 : decode cX6_packBlock 0 = .ok (.aload_n 0, 1) := by decide +kernel
theorem dX6_packBlock_1 : decode cX6_packBlock 1 = .ok (.getfield 24, 3) := by decide +kernel
theorem dX6_packBlock_4 : decode cX6_packBlock 4 = .ok (.aload_n 0, 1) := by decide +kernel
theorem dX6_packBlock_5 : decode cX6_packBlock 5 = .ok (.getfield 69, 3) := by decide +kernel
theorem dX6_packBlock_8 : decode cX6_packBlock 8 = .ok (.bipush 16, 2) := by decide +kernel
theorem dX6_packBlock_10 : decode cX6_packBlock 10 = .ok (.invokevirtual 158, 3) := by decide +kernel
theorem dX6_packBlock_13 : decode cX6_packBlock 13 = .ok (.aload_n 0, 1) := by decide +kernel
theorem dX6_packBlock_14 : decode cX6_packBlock 14 = .ok (.aload_n 0, 1) := by decide +kernel
theorem dX6_packBlock_15 : decode cX6_packBlock 15 = .ok (.getfield 52, 3) := by decide +kernel
theorem dX6_packBlock_18 : decode cX6_packBlock 18 = .ok (.iconst 5, 1) := by decide +kernel
theorem dX6_packBlock_19 : decode cX6_packBlock 19 = .ok (.iconst 1, 1) := by decide +kernel
theorem dX6_packBlock_20 : decode cX6_packBlock 20 = .ok (.invokevirtual 161, 3) := by decide +kernel
theorem dX6_packBlock_23 : decode cX6_packBlock 23 = .ok (.aload_n 0, 1) := by decide +kernel
theorem dX6_packBlock_24 : decode cX6_packBlock 24 = .ok (.invokevirtual 165, 3) := by decide +kernel
theorem dX6_packBlock_27 : decode cX6_packBlock 27 = .ok (.aload_n 0, 1) := by decide +kernel
theorem dX6_packBlock_28 : decode cX6_packBlock 28 = .ok (.aload_n 0, 1) := by decide +kernel
theorem dX6_packBlock_29 : decode cX6_packBlock 29 = .ok (.getfield 59, 3) := by decide +kernel
theorem dX6_packBlock_32 : decode cX6_packBlock 32 = .ok (.iconst 4, 1) := by decide +kernel
theorem dX6_packBlock_33 : decode cX6_packBlock 33 = .ok (.iconst 0, 1) := by decide +kernel
theorem dX6_packBlock_34 : decode cX6_packBlock 34 = .ok (.invokevirtual 161, 3) := by decide +kernel
theorem dX6_packBlock_37 : decode cX6_packBlock 37 = .ok (.iconst 0, 1) := by decide +kernel
theorem dX6_packBlock_38 : decode cX6_packBlock 38 = .ok (.istore_n 1, 1) := by decide +kernel
theorem dX6_packBlock_39 : decode cX6_packBlock 39 = .ok (.iload_n 1, 1) := by decide +kernel
theorem dX6_packBlock_40 : decode cX6_packBlock 40 = .ok (.aload_n 0, 1) := by decide +kernel
theorem dX6_packBlock_41 : decode cX6_packBlock 41 = .ok (.getfield 69, 3) := by decide +kernel
theorem dX6_packBlock_44 : decode cX6_packBlock 44 = .ok (.if_icmp .ge 48, 3) := by decide +kernel
theorem dX6_packBlock_47 : decode cX6_packBlock 47 = .ok (.aload_n 0, 1) := by decide +kernel
theorem dX6_packBlock_48 : decode cX6_packBlock 48 = .ok (.getfield 24, 3) := by decide +kernel
theorem dX6_packBlock_51 : decode cX6_packBlock 51 = .ok (.aload_n 0, 1) := by decide +kernel
theorem dX6_packBlock_52 : decode cX6_packBlock 52 = .ok (.getfield 56, 3) := by decide +kernel
theorem dX6_packBlock_55 : decode cX6_packBlock 55 = .ok (.aload_n 0, 1) := by decide +kernel
theorem dX6_packBlock_56 : decode cX6_packBlock 56 = .ok (.getfield 62, 3) := by decide +kernel
theorem dX6_packBlock_59 : decode cX6_packBlock 59 = .ok (.iload_n 1, 1) := by decide +kernel
theorem dX6_packBlock_60 : decode cX6_packBlock 60 = .ok (.iaload, 1) := by decide +kernel
theorem dX6_packBlock_61 : decode cX6_packBlock 61 = .ok (.invokevirtual 168, 3) := by decide +kernel
theorem dX6_packBlock_64 : decode cX6_packBlock 64 = .ok (.aload_n 0, 1) := by decide +kernel
theorem dX6_packBlock_65 : decode cX6_packBlock 65 = .ok (.getfield 62, 3) := by decide +kernel
theorem dX6_packBlock_68 : decode cX6_packBlock 68 = .ok (.iload_n 1, 1) := by decide +kernel
theorem dX6_packBlock_69 : decode cX6_packBlock 69 = .ok (.iaload, 1) := by decide +kernel
theorem dX6_packBlock_70 : decode cX6_packBlock 70 = .ok (.sipush 256, 3) := by decide +kernel
theorem dX6_packBlock_73 : decode cX6_packBlock 73 = .ok (.if_icmp .lt 13, 3) := by decide +kernel
theorem dX6_packBlock_76 : decode cX6_packBlock 76 = .ok (.aload_n 0, 1) := by decide +kernel
theorem dX6_packBlock_77 : decode cX6_packBlock 77 = .ok (.aload_n 0, 1) := by decide +kernel
theorem dX6_packBlock_78 : decode cX6_packBlock 78 = .ok (.getfield 66, 3) := by decide +kernel
theorem dX6_packBlock_81 : decode cX6_packBlock 81 = .ok (.iload_n 1, 1) := by decide +kernel
theorem dX6_packBlock_82 : decode cX6_packBlock 82 = .ok (.iaload, 1) := by decide +kernel
theorem dX6_packBlock_83 : decode cX6_packBlock 83 = .ok (.invokevirtual 172, 3) := by decide +kernel
theorem dX6_packBlock_86 : decode cX6_packBlock 86 = .ok (.iinc 1 1, 3) := by decide +kernel
theorem dX6_packBlock_89 : decode cX6_packBlock 89 = .ok (.goto (-50), 3) := by decide +kernel
theorem dX6_packBlock_92 : decode cX6_packBlock 92 = .ok (.return_, 1) := by decide +kernel
theorem dX6_tellTree_0 : decode cX6_tellTree 0 = .ok (.aload_n 1, 1) := by decide +kernel
theorem dX6_tellTree_1 : decode cX6_tellTree 1 = .ok (.invokevirtual 175, 3) := by decide +kernel
theorem dX6_tellTree_4 : decode cX6_tellTree 4 = .ok (.ifCond .eq 16, 3) := by decide +kernel
theorem dX6_tellTree_7 : decode cX6_tellTree 7 = .ok (.aload_n 0, 1) := by decide +kernel
theorem dX6_tellTree_8 : decode cX6_tellTree 8 = .ok (.getfield 24, 3) := by decide +kernel
theorem dX6_tellTree_11 : decode cX6_tellTree 11 = .ok (.aload_n 1, 1) := by decide +kernel
theorem dX6_tellTree_12 : decode cX6_tellTree 12 = .ok (.invokevirtual 179, 3) := by decide +kernel
theorem dX6_tellTree_15 : decode cX6_tellTree 15 = .ok (.iload_n 2, 1) := by decide +kernel
theorem dX6_tellTree_16 : decode cX6_tellTree 16 = .ok (.invokevirtual 182, 3) := by decide +kernel
theorem dX6_tellTree_19 : decode cX6_tellTree 19 = .ok (.return_, 1) := by decide +kernel
theorem dX6_tellTree_20 : decode cX6_tellTree 20 = .ok (.aload_n 1, 1) := by decide +kernel
theorem dX6_tellTree_21 : decode cX6_tellTree 21 = .ok (.invokevirtual 142, 3) := by decide +kernel
theorem dX6_tellTree_24 : decode cX6_tellTree 24 = .ok (.istore 4, 2) := by decide +kernel
theorem dX6_tellTree_26 : decode cX6_tellTree 26 = .ok (.aload_n 0, 1) := by decide +kernel
theorem dX6_tellTree_27 : decode cX6_tellTree 27 = .ok (.getfield 24, 3) := by decide +kernel
theorem dX6_tellTree_30 : decode cX6_tellTree 30 = .ok (.iload 4, 2) := by decide +kernel
theorem dX6_tellTree_32 : decode cX6_tellTree 32 = .ok (.iload_n 2, 1) := by decide +kernel
theorem dX6_tellTree_33 : decode cX6_tellTree 33 = .ok (.invokevirtual 158, 3) := by decide +kernel
theorem dX6_tellTree_36 : decode cX6_tellTree 36 = .ok (.iconst 0, 1) := by decide +kernel
theorem dX6_tellTree_37 : decode cX6_tellTree 37 = .ok (.istore 5, 2) := by decide +kernel
theorem dX6_tellTree_39 : decode cX6_tellTree 39 = .ok (.iload 5, 2) := by decide +kernel
theorem dX6_tellTree_41 : decode cX6_tellTree 41 = .ok (.iload 4, 2) := by decide +kernel
theorem dX6_tellTree_43 : decode cX6_tellTree 43 = .ok (.if_icmp .ge 60, 3) := by decide +kernel
theorem dX6_tellTree_46 : decode cX6_tellTree 46 = .ok (.aload_n 0, 1) := by decide +kernel
theorem dX6_tellTree_47 : decode cX6_tellTree 47 = .ok (.getfield 24, 3) := by decide +kernel
theorem dX6_tellTree_50 : decode cX6_tellTree 50 = .ok (.aload_n 1, 1) := by decide +kernel
theorem dX6_tellTree_51 : decode cX6_tellTree 51 = .ok (.iload 5, 2) := by decide +kernel
theorem dX6_tellTree_53 : decode cX6_tellTree 53 = .ok (.invokevirtual 148, 3) := by decide +kernel
theorem dX6_tellTree_56 : decode cX6_tellTree 56 = .ok (.invokevirtual 185, 3) := by decide +kernel
theorem dX6_tellTree_59 : decode cX6_tellTree 59 = .ok (.iload_n 3, 1) := by decide +kernel
theorem dX6_tellTree_60 : decode cX6_tellTree 60 = .ok (.ifCond .eq 37, 3) := by decide +kernel
theorem dX6_tellTree_63 : decode cX6_tellTree 63 = .ok (.iload 5, 2) := by decide +kernel
theorem dX6_tellTree_65 : decode cX6_tellTree 65 = .ok (.iconst 2, 1) := by decide +kernel
theorem dX6_tellTree_66 : decode cX6_tellTree 66 = .ok (.if_icmp .ne 31, 3) := by decide +kernel
theorem dX6_tellTree_69 : decode cX6_tellTree 69 = .ok (.aload_n 1, 1) := by decide +kernel
theorem dX6_tellTree_70 : decode cX6_tellTree 70 = .ok (.iload 5, 2) := by decide +kernel
theorem dX6_tellTree_72 : decode cX6_tellTree 72 = .ok (.iconst 1, 1) := by decide +kernel
theorem dX6_tellTree_73 : decode cX6_tellTree 73 = .ok (.iadd, 1) := by decide +kernel
theorem dX6_tellTree_74 : decode cX6_tellTree 74 = .ok (.iconst 3, 1) := by decide +kernel
theorem dX6_tellTree_75 : decode cX6_tellTree 75 = .ok (.invokevirtual 145, 3) := by decide +kernel
theorem dX6_tellTree_78 : decode cX6_tellTree 78 = .ok (.istore 6, 2) := by decide +kernel
theorem dX6_tellTree_80 : decode cX6_tellTree 80 = .ok (.aload_n 0, 1) := by decide +kernel
theorem dX6_tellTree_81 : decode cX6_tellTree 81 = .ok (.getfield 24, 3) := by decide +kernel
theorem dX6_tellTree_84 : decode cX6_tellTree 84 = .ok (.iload 6, 2) := by decide +kernel
theorem dX6_tellTree_86 : decode cX6_tellTree 86 = .ok (.iconst 2, 1) := by decide +kernel
theorem dX6_tellTree_87 : decode cX6_tellTree 87 = .ok (.invokevirtual 158, 3) := by decide +kernel
theorem dX6_tellTree_90 : decode cX6_tellTree 90 = .ok (.iload 5, 2) := by decide +kernel
theorem dX6_tellTree_92 : decode cX6_tellTree 92 = .ok (.iload 6, 2) := by decide +kernel
theorem dX6_tellTree_94 : decode cX6_tellTree 94 = .ok (.iadd, 1) := by decide +kernel
theorem dX6_tellTree_95 : decode cX6_tellTree 95 = .ok (.istore 5, 2) := by decide +kernel
theorem dX6_tellTree_97 : decode cX6_tellTree 97 = .ok (.iinc 5 1, 3) := by decide +kernel
theorem dX6_tellTree_100 : decode cX6_tellTree 100 = .ok (.goto (-61), 3) := by decide +kernel
theorem dX6_tellTree_103 : decode cX6_tellTree 103 = .ok (.return_, 1) := by decide +kernel
theorem dX6_tellTreeC_0 : decode cX6_tellTreeC 0 = .ok (.aload_n 0, 1) := by decide +kernel
theorem dX6_tellTreeC_1 : decode cX6_tellTreeC 1 = .ok (.getfield 56, 3) := by decide +kernel
theorem dX6_tellTreeC_4 : decode cX6_tellTreeC 4 = .ok (.invokevirtual 175, 3) := by decide +kernel
theorem dX6_tellTreeC_7 : decode cX6_tellTreeC 7 = .ok (.ifCond .eq 20, 3) := by decide +kernel
theorem dX6_tellTreeC_10 : decode cX6_tellTreeC 10 = .ok (.aload_n 0, 1) := by decide +kernel
theorem dX6_tellTreeC_11 : decode cX6_tellTreeC 11 = .ok (.getfield 24, 3) := by decide +kernel
theorem dX6_tellTreeC_14 : decode cX6_tellTreeC 14 = .ok (.aload_n 0, 1) := by decide +kernel
theorem dX6_tellTreeC_15 : decode cX6_tellTreeC 15 = .ok (.getfield 56, 3) := by decide +kernel
theorem dX6_tellTreeC_18 : decode cX6_tellTreeC 18 = .ok (.invokevirtual 179, 3) := by decide +kernel
theorem dX6_tellTreeC_21 : decode cX6_tellTreeC 21 = .ok (.bipush 9, 2) := by decide +kernel
theorem dX6_tellTreeC_23 : decode cX6_tellTreeC 23 = .ok (.invokevirtual 182, 3) := by decide +kernel
theorem dX6_tellTreeC_26 : decode cX6_tellTreeC 26 = .ok (.return_, 1) := by decide +kernel
theorem dX6_tellTreeC_27 : decode cX6_tellTreeC 27 = .ok (.aload_n 0, 1) := by decide +kernel
theorem dX6_tellTreeC_28 : decode cX6_tellTreeC 28 = .ok (.getfield 24, 3) := by decide +kernel
theorem dX6_tellTreeC_31 : decode cX6_tellTreeC 31 = .ok (.aload_n 0, 1) := by decide +kernel
theorem dX6_tellTreeC_32 : decode cX6_tellTreeC 32 = .ok (.getfield 56, 3) := by decide +kernel
theorem dX6_tellTreeC_35 : decode cX6_tellTreeC 35 = .ok (.invokevirtual 142, 3) := by decide +kernel
theorem dX6_tellTreeC_38 : decode cX6_tellTreeC 38 = .ok (.bipush 9, 2) := by decide +kernel
theorem dX6_tellTreeC_40 : decode cX6_tellTreeC 40 = .ok (.invokevirtual 158, 3) := by decide +kernel
theorem dX6_tellTreeC_43 : decode cX6_tellTreeC 43 = .ok (.iconst 0, 1) := by decide +kernel
theorem dX6_tellTreeC_44 : decode cX6_tellTreeC 44 = .ok (.istore_n 1, 1) := by decide +kernel
theorem dX6_tellTreeC_45 : decode cX6_tellTreeC 45 = .ok (.iload_n 1, 1) := by decide +kernel
theorem dX6_tellTreeC_46 : decode cX6_tellTreeC 46 = .ok (.aload_n 0, 1) := by decide +kernel
theorem dX6_tellTreeC_47 : decode cX6_tellTreeC 47 = .ok (.getfield 79, 3) := by decide +kernel
theorem dX6_tellTreeC_50 : decode cX6_tellTreeC 50 = .ok (.if_icmp .ge 48, 3) := by decide +kernel
theorem dX6_tellTreeC_53 : decode cX6_tellTreeC 53 = .ok (.aload_n 0, 1) := by decide +kernel
theorem dX6_tellTreeC_54 : decode cX6_tellTreeC 54 = .ok (.getfield 24, 3) := by decide +kernel
theorem dX6_tellTreeC_57 : decode cX6_tellTreeC 57 = .ok (.aload_n 0, 1) := by decide +kernel
theorem dX6_tellTreeC_58 : decode cX6_tellTreeC 58 = .ok (.getfield 52, 3) := by decide +kernel
theorem dX6_tellTreeC_61 : decode cX6_tellTreeC 61 = .ok (.aload_n 0, 1) := by decide +kernel
theorem dX6_tellTreeC_62 : decode cX6_tellTreeC 62 = .ok (.getfield 73, 3) := by decide +kernel
theorem dX6_tellTreeC_65 : decode cX6_tellTreeC 65 = .ok (.iload_n 1, 1) := by decide +kernel
theorem dX6_tellTreeC_66 : decode cX6_tellTreeC 66 = .ok (.iaload, 1) := by decide +kernel
theorem dX6_tellTreeC_67 : decode cX6_tellTreeC 67 = .ok (.invokevirtual 168, 3) := by decide +kernel
theorem dX6_tellTreeC_70 : decode cX6_tellTreeC 70 = .ok (.aload_n 0, 1) := by decide +kernel
theorem dX6_tellTreeC_71 : decode cX6_tellTreeC 71 = .ok (.getfield 24, 3) := by decide +kernel
theorem dX6_tellTreeC_74 : decode cX6_tellTreeC 74 = .ok (.aload_n 0, 1) := by decide +kernel
theorem dX6_tellTreeC_75 : decode cX6_tellTreeC 75 = .ok (.getfield 76, 3) := by decide +kernel
theorem dX6_tellTreeC_78 : decode cX6_tellTreeC 78 = .ok (.iload_n 1, 1) := by decide +kernel
theorem dX6_tellTreeC_79 : decode cX6_tellTreeC 79 = .ok (.iaload, 1) := by decide +kernel
theorem dX6_tellTreeC_80 : decode cX6_tellTreeC 80 = .ok (.aload_n 0, 1) := by decide +kernel
theorem dX6_tellTreeC_81 : decode cX6_tellTreeC 81 = .ok (.getfield 73, 3) := by decide +kernel
theorem dX6_tellTreeC_84 : decode cX6_tellTreeC 84 = .ok (.iload_n 1, 1) := by decide +kernel
theorem dX6_tellTreeC_85 : decode cX6_tellTreeC 85 = .ok (.iaload, 1) := by decide +kernel
theorem dX6_tellTreeC_86 : decode cX6_tellTreeC 86 = .ok (.invokestatic 188, 3) := by decide +kernel
theorem dX6_tellTreeC_89 : decode cX6_tellTreeC 89 = .ok (.invokevirtual 158, 3) := by decide +kernel
theorem dX6_tellTreeC_92 : decode cX6_tellTreeC 92 = .ok (.iinc 1 1, 3) := by decide +kernel
theorem dX6_tellTreeC_95 : decode cX6_tellTreeC 95 = .ok (.goto (-50), 3) := by decide +kernel
theorem dX6_tellTreeC_98 : decode cX6_tellTreeC 98 = .ok (.return_, 1) := by decide +kernel
theorem dX6_packDistance_0 : decode cX6_packDistance 0 = .ok (.iload_n 1, 1) := by decide +kernel
theorem dX6_packDistance_1 : decode cX6_packDistance 1 = .ok (.invokestatic 122, 3) := by decide +kernel
theorem dX6_packDistance_4 : decode cX6_packDistance 4 = .ok (.istore_n 2, 1) := by decide +kernel
theorem dX6_packDistance_5 : decode cX6_packDistance 5 = .ok (.aload_n 0, 1) := by decide +kernel
theorem dX6_packDistance_6 : decode cX6_packDistance 6 = .ok (.getfield 24, 3) := by decide +kernel
theorem dX6_packDistance_9 : decode cX6_packDistance 9 = .ok (.aload_n 0, 1) := by decide +kernel
theorem dX6_packDistance_10 : decode cX6_packDistance 10 = .ok (.getfield 59, 3) := by decide +kernel
theorem dX6_packDistance_13 : decode cX6_packDistance 13 = .ok (.iload_n 2, 1) := by decide +kernel
theorem dX6_packDistance_14 : decode cX6_packDistance 14 = .ok (.invokevirtual 168, 3) := by decide +kernel
theorem dX6_packDistance_17 : decode cX6_packDistance 17 = .ok (.iload_n 2, 1) := by decide +kernel
theorem dX6_packDistance_18 : decode cX6_packDistance 18 = .ok (.ifCond .le 22, 3) := by decide +kernel
theorem dX6_packDistance_21 : decode cX6_packDistance 21 = .ok (.aload_n 0, 1) := by decide +kernel
theorem dX6_packDistance_22 : decode cX6_packDistance 22 = .ok (.getfield 24, 3) := by decide +kernel
theorem dX6_packDistance_25 : decode cX6_packDistance 25 = .ok (.iload_n 1, 1) := by decide +kernel
theorem dX6_packDistance_26 : decode cX6_packDistance 26 = .ok (.iconst 1, 1) := by decide +kernel
theorem dX6_packDistance_27 : decode cX6_packDistance 27 = .ok (.isub, 1) := by decide +kernel
theorem dX6_packDistance_28 : decode cX6_packDistance 28 = .ok (.iconst 1, 1) := by decide +kernel
theorem dX6_packDistance_29 : decode cX6_packDistance 29 = .ok (.iload_n 2, 1) := by decide +kernel
theorem dX6_packDistance_30 : decode cX6_packDistance 30 = .ok (.iconst 1, 1) := by decide +kernel
theorem dX6_packDistance_31 : decode cX6_packDistance 31 = .ok (.isub, 1) := by decide +kernel
theorem dX6_packDistance_32 : decode cX6_packDistance 32 = .ok (.ishl, 1) := by decide +kernel
theorem dX6_packDistance_33 : decode cX6_packDistance 33 = .ok (.isub, 1) := by decide +kernel
theorem dX6_packDistance_34 : decode cX6_packDistance 34 = .ok (.iload_n 2, 1) := by decide +kernel
theorem dX6_packDistance_35 : decode cX6_packDistance 35 = .ok (.iconst 1, 1) := by decide +kernel
theorem dX6_packDistance_36 : decode cX6_packDistance 36 = .ok (.isub, 1) := by decide +kernel
theorem dX6_packDistance_37 : decode cX6_packDistance 37 = .ok (.invokevirtual 158, 3) := by decide +kernel
theorem dX6_packDistance_40 : decode cX6_packDistance 40 = .ok (.return_, 1) := by decide +kernel
theorem dX6_distanceSymbol_0 : decode cX6_distanceSymbol 0 = .ok (.iconst 0, 1) := by decide +kernel
theorem dX6_distanceSymbol_1 : decode cX6_distanceSymbol 1 = .ok (.istore_n 1, 1) := by decide +kernel
theorem dX6_distanceSymbol_2 : decode cX6_distanceSymbol 2 = .ok (.iload_n 1, 1) := by decide +kernel
theorem dX6_distanceSymbol_3 : decode cX6_distanceSymbol 3 = .ok (.bipush 14, 2) := by decide +kernel
theorem dX6_distanceSymbol_5 : decode cX6_distanceSymbol 5 = .ok (.if_icmp .ge 18, 3) := by decide +kernel
theorem dX6_distanceSymbol_8 : decode cX6_distanceSymbol 8 = .ok (.iload_n 0, 1) := by decide +kernel
theorem dX6_distanceSymbol_9 : decode cX6_distanceSymbol 9 = .ok (.iconst 1, 1) := by decide +kernel
theorem dX6_distanceSymbol_10 : decode cX6_distanceSymbol 10 = .ok (.iload_n 1, 1) := by decide +kernel
theorem dX6_distanceSymbol_11 : decode cX6_distanceSymbol 11 = .ok (.ishl, 1) := by decide +kernel
theorem dX6_distanceSymbol_12 : decode cX6_distanceSymbol 12 = .ok (.if_icmp .gt 5, 3) := by decide +kernel
theorem dX6_distanceSymbol_15 : decode cX6_distanceSymbol 15 = .ok (.iload_n 1, 1) := by decide +kernel
theorem dX6_distanceSymbol_16 : decode cX6_distanceSymbol 16 = .ok (.ireturn, 1) := by decide +kernel
theorem dX6_distanceSymbol_17 : decode cX6_distanceSymbol 17 = .ok (.iinc 1 1, 3) := by decide +kernel
theorem dX6_distanceSymbol_20 : decode cX6_distanceSymbol 20 = .ok (.goto (-18), 3) := by decide +kernel
theorem dX6_distanceSymbol_23 : decode cX6_distanceSymbol 23 = .ok (.bipush 13, 2) := by decide +kernel
theorem dX6_distanceSymbol_25 : decode cX6_distanceSymbol 25 = .ok (.ireturn, 1) := by decide +kernel
theorem dX7_init_0 : decode cX7_init 0 = .ok (.aload_n 0, 1) := by decide +kernel
theorem dX7_init_1 : decode cX7_init 1 = .ok (.invokespecial 3, 3) := by decide +kernel
theorem dX7_init_4 : decode cX7_init 4 = .ok (.aload_n 0, 1) := by decide +kernel
theorem dX7_init_5 : decode cX7_init 5 = .ok (.iload_n 1, 1) := by decide +kernel
theorem dX7_init_6 : decode cX7_init 6 = .ok (.newarray .int, 2) := by decide +kernel
theorem dX7_init_8 : decode cX7_init 8 = .ok (.putfield 9, 3) := by decide +kernel
theorem dX7_init_11 : decode cX7_init 11 = .ok (.aload_n 0, 1) := by decide +kernel
theorem dX7_init_12 : decode cX7_init 12 = .ok (.iload_n 1, 1) := by decide +kernel
theorem dX7_init_13 : decode cX7_init 13 = .ok (.newarray .int, 2) := by decide +kernel
theorem dX7_init_15 : decode cX7_init 15 = .ok (.putfield 15, 3) := by decide +kernel
theorem dX7_init_18 : decode cX7_init 18 = .ok (.aload_n 0, 1) := by decide +kernel
theorem dX7_init_19 : decode cX7_init 19 = .ok (.iload_n 1, 1) := by decide +kernel
theorem dX7_init_20 : decode cX7_init 20 = .ok (.newarray .int, 2) := by decide +kernel
theorem dX7_init_22 : decode cX7_init 22 = .ok (.putfield 18, 3) := by decide +kernel
theorem dX7_init_25 : decode cX7_init 25 = .ok (.aload_n 0, 1) := by decide +kernel
theorem dX7_init_26 : decode cX7_init 26 = .ok (.iload_n 1, 1) := by decide +kernel
theorem dX7_init_27 : decode cX7_init 27 = .ok (.newarray .int, 2) := by decide +kernel
theorem dX7_init_29 : decode cX7_init 29 = .ok (.putfield 21, 3) := by decide +kernel
theorem dX7_init_32 : decode cX7_init 32 = .ok (.aload_n 0, 1) := by decide +kernel
theorem dX7_init_33 : decode cX7_init 33 = .ok (.bipush 17, 2) := by decide +kernel
theorem dX7_init_35 : decode cX7_init 35 = .ok (.newarray .int, 2) := by decide +kernel
theorem dX7_init_37 : decode cX7_init 37 = .ok (.putfield 24, 3) := by decide +kernel
theorem dX7_init_40 : decode cX7_init 40 = .ok (.aload_n 0, 1) := by decide +kernel
theorem dX7_init_41 : decode cX7_init 41 = .ok (.bipush 17, 2) := by decide +kernel
end
section
theorem dX7_init_43 : decode cX7_init 43 = .ok (.newarray .int, 2) := by decide +kernel
theorem dX7_init_45 : decode cX7_init 45 = .ok (.putfield 27, 3) := by decide +kernel
theorem dX7_init_48 : decode cX7_init 48 = .ok (.aload_n 0, 1) := by decide +kernel
theorem dX7_init_49 : decode cX7_init 49 = .ok (.bipush 17, 2) := by decide +kernel
theorem dX7_init_51 : decode cX7_init 51 = .ok (.newarray .int, 2) := by decide +kernel
theorem dX7_init_53 : decode cX7_init 53 = .ok (.putfield 30, 3) := by decide +kernel
theorem dX7_init_56 : decode cX7_init 56 = .ok (.aload_n 0, 1) := by decide +kernel
theorem dX7_init_57 : decode cX7_init 57 = .ok (.iconst (-1), 1) := by decide +kernel
theorem dX7_init_58 : decode cX7_init 58 = .ok (.putfield 33, 3) := by decide +kernel
theorem dX7_init_61 : decode cX7_init 61 = .ok (.return_, 1) := by decide +kernel
theorem dX7_wipe_0 : decode cX7_wipe 0 = .ok (.aload_n 0, 1) := by decide +kernel
theorem dX7_wipe_1 : decode cX7_wipe 1 = .ok (.getfield 9, 3) := by decide +kernel
theorem dX7_wipe_4 : decode cX7_wipe 4 = .ok (.iconst 0, 1) := by decide +kernel
theorem dX7_wipe_5 : decode cX7_wipe 5 = .ok (.invokestatic 37, 3) := by decide +kernel
theorem dX7_wipe_8 : decode cX7_wipe 8 = .ok (.aload_n 0, 1) := by decide +kernel
theorem dX7_wipe_9 : decode cX7_wipe 9 = .ok (.getfield 18, 3) := by decide +kernel
theorem dX7_wipe_12 : decode cX7_wipe 12 = .ok (.iconst 0, 1) := by decide +kernel
theorem dX7_wipe_13 : decode cX7_wipe 13 = .ok (.invokestatic 37, 3) := by decide +kernel
theorem dX7_wipe_16 : decode cX7_wipe 16 = .ok (.aload_n 0, 1) := by decide +kernel
theorem dX7_wipe_17 : decode cX7_wipe 17 = .ok (.iconst (-1), 1) := by decide +kernel
theorem dX7_wipe_18 : decode cX7_wipe 18 = .ok (.putfield 33, 3) := by decide +kernel
theorem dX7_wipe_21 : decode cX7_wipe 21 = .ok (.return_, 1) := by decide +kernel
theorem dX7_symbols_0 : decode cX7_symbols 0 = .ok (.aload_n 0, 1) := by decide +kernel
theorem dX7_symbols_1 : decode cX7_symbols 1 = .ok (.getfield 9, 3) := by decide +kernel
theorem dX7_symbols_4 : decode cX7_symbols 4 = .ok (.arraylength, 1) := by decide +kernel
theorem dX7_symbols_5 : decode cX7_symbols 5 = .ok (.ireturn, 1) := by decide +kernel
theorem dX7_has_0 : decode cX7_has 0 = .ok (.iload_n 1, 1) := by decide +kernel
theorem dX7_has_1 : decode cX7_has 1 = .ok (.ifCond .lt 16, 3) := by decide +kernel
theorem dX7_has_4 : decode cX7_has 4 = .ok (.iload_n 1, 1) := by decide +kernel
theorem dX7_has_5 : decode cX7_has 5 = .ok (.aload_n 0, 1) := by decide +kernel
theorem dX7_has_6 : decode cX7_has 6 = .ok (.getfield 9, 3) := by decide +kernel
theorem dX7_has_9 : decode cX7_has 9 = .ok (.arraylength, 1) := by decide +kernel
theorem dX7_has_10 : decode cX7_has 10 = .ok (.if_icmp .ge 7, 3) := by decide +kernel
theorem dX7_has_13 : decode cX7_has 13 = .ok (.iconst 1, 1) := by decide +kernel
theorem dX7_has_14 : decode cX7_has 14 = .ok (.goto 4, 3) := by decide +kernel
theorem dX7_has_17 : decode cX7_has 17 = .ok (.iconst 0, 1) := by decide +kernel
theorem dX7_has_18 : decode cX7_has 18 = .ok (.ireturn, 1) := by decide +kernel
theorem dX7_lengthOf_0 : decode cX7_lengthOf 0 = .ok (.aload_n 0, 1) := by decide +kernel
theorem dX7_lengthOf_1 : decode cX7_lengthOf 1 = .ok (.iload_n 1, 1) := by decide +kernel
theorem dX7_lengthOf_2 : decode cX7_lengthOf 2 = .ok (.invokevirtual 43, 3) := by decide +kernel
theorem dX7_lengthOf_5 : decode cX7_lengthOf 5 = .ok (.ifCond .eq 12, 3) := by decide +kernel
theorem dX7_lengthOf_8 : decode cX7_lengthOf 8 = .ok (.aload_n 0, 1) := by decide +kernel
theorem dX7_lengthOf_9 : decode cX7_lengthOf 9 = .ok (.getfield 9, 3) := by decide +kernel
theorem dX7_lengthOf_12 : decode cX7_lengthOf 12 = .ok (.iload_n 1, 1) := by decide +kernel
theorem dX7_lengthOf_13 : decode cX7_lengthOf 13 = .ok (.iaload, 1) := by decide +kernel
theorem dX7_lengthOf_14 : decode cX7_lengthOf 14 = .ok (.goto 4, 3) := by decide +kernel
theorem dX7_lengthOf_17 : decode cX7_lengthOf 17 = .ok (.iconst (-1), 1) := by decide +kernel
theorem dX7_lengthOf_18 : decode cX7_lengthOf 18 = .ok (.ireturn, 1) := by decide +kernel
theorem dX7_codeOf_0 : decode cX7_codeOf 0 = .ok (.aload_n 0, 1) := by decide +kernel
theorem dX7_codeOf_1 : decode cX7_codeOf 1 = .ok (.iload_n 1, 1) := by decide +kernel
theorem dX7_codeOf_2 : decode cX7_codeOf 2 = .ok (.invokevirtual 43, 3) := by decide +kernel
theorem dX7_codeOf_5 : decode cX7_codeOf 5 = .ok (.ifCond .eq 12, 3) := by decide +kernel
theorem dX7_codeOf_8 : decode cX7_codeOf 8 = .ok (.aload_n 0, 1) := by decide +kernel
theorem dX7_codeOf_9 : decode cX7_codeOf 9 = .ok (.getfield 15, 3) := by decide +kernel
theorem dX7_codeOf_12 : decode cX7_codeOf 12 = .ok (.iload_n 1, 1) := by decide +kernel
theorem dX7_codeOf_13 : decode cX7_codeOf 13 = .ok (.iaload, 1) := by decide +kernel
theorem dX7_codeOf_14 : decode cX7_codeOf 14 = .ok (.goto 4, 3) := by decide +kernel
theorem dX7_codeOf_17 : decode cX7_codeOf 17 = .ok (.iconst 0, 1) := by decide +kernel
theorem dX7_codeOf_18 : decode cX7_codeOf 18 = .ok (.ireturn, 1) := by decide +kernel
theorem dX7_usesOf_0 : decode cX7_usesOf 0 = .ok (.aload_n 0, 1) := by decide +kernel
theorem dX7_usesOf_1 : decode cX7_usesOf 1 = .ok (.iload_n 1, 1) := by decide +kernel
theorem dX7_usesOf_2 : decode cX7_usesOf 2 = .ok (.invokevirtual 43, 3) := by decide +kernel
theorem dX7_usesOf_5 : decode cX7_usesOf 5 = .ok (.ifCond .eq 12, 3) := by decide +kernel
theorem dX7_usesOf_8 : decode cX7_usesOf 8 = .ok (.aload_n 0, 1) := by decide +kernel
theorem dX7_usesOf_9 : decode cX7_usesOf 9 = .ok (.getfield 18, 3) := by decide +kernel
theorem dX7_usesOf_12 : decode cX7_usesOf 12 = .ok (.iload_n 1, 1) := by decide +kernel
theorem dX7_usesOf_13 : decode cX7_usesOf 13 = .ok (.iaload, 1) := by decide +kernel
theorem dX7_usesOf_14 : decode cX7_usesOf 14 = .ok (.goto 4, 3) := by decide +kernel
theorem dX7_usesOf_17 : decode cX7_usesOf 17 = .ok (.iconst 0, 1) := by decide +kernel
theorem dX7_usesOf_18 : decode cX7_usesOf 18 = .ok (.ireturn, 1) := by decide +kernel
theorem dX7_alone_0 : decode cX7_alone 0 = .ok (.aload_n 0, 1) := by decide +kernel
theorem dX7_alone_1 : decode cX7_alone 1 = .ok (.getfield 33, 3) := by decide +kernel
theorem dX7_alone_4 : decode cX7_alone 4 = .ok (.ireturn, 1) := by decide +kernel
theorem dX7_isAlone_0 : decode cX7_isAlone 0 = .ok (.aload_n 0, 1) := by decide +kernel
theorem dX7_isAlone_1 : decode cX7_isAlone 1 = .ok (.getfield 33, 3) := by decide +kernel
theorem dX7_isAlone_4 : decode cX7_isAlone 4 = .ok (.iconst (-1), 1) := by decide +kernel
theorem dX7_isAlone_5 : decode cX7_isAlone 5 = .ok (.if_icmp .eq 7, 3) := by decide +kernel
theorem dX7_isAlone_8 : decode cX7_isAlone 8 = .ok (.iconst 1, 1) := by decide +kernel
theorem dX7_isAlone_9 : decode cX7_isAlone 9 = .ok (.goto 4, 3) := by decide +kernel
theorem dX7_isAlone_12 : decode cX7_isAlone 12 = .ok (.iconst 0, 1) := by decide +kernel
theorem dX7_isAlone_13 : decode cX7_isAlone 13 = .ok (.ireturn, 1) := by decide +kernel
theorem dX7_use_0 : decode cX7_use 0 = .ok (.aload_n 0, 1) := by decide +kernel
theorem dX7_use_1 : decode cX7_use 1 = .ok (.iload_n 1, 1) := by decide +kernel
theorem dX7_use_2 : decode cX7_use 2 = .ok (.invokevirtual 43, 3) := by decide +kernel
theorem dX7_use_5 : decode cX7_use 5 = .ok (.ifCond .eq 13, 3) := by decide +kernel
theorem dX7_use_8 : decode cX7_use 8 = .ok (.aload_n 0, 1) := by decide +kernel
theorem dX7_use_9 : decode cX7_use 9 = .ok (.getfield 18, 3) := by decide +kernel
theorem dX7_use_12 : decode cX7_use 12 = .ok (.iload_n 1, 1) := by decide +kernel
theorem dX7_use_13 : decode cX7_use 13 = .ok (.dup2, 1) := by decide +kernel
theorem dX7_use_14 : decode cX7_use 14 = .ok (.iaload, 1) := by decide +kernel
theorem dX7_use_15 : decode cX7_use 15 = .ok (.iconst 1, 1) := by decide +kernel
theorem dX7_use_16 : decode cX7_use 16 = .ok (.iadd, 1) := by decide +kernel
theorem dX7_use_17 : decode cX7_use 17 = .ok (.iastore, 1) := by decide +kernel
theorem dX7_use_18 : decode cX7_use 18 = .ok (.return_, 1) := by decide +kernel
theorem dX7_setAlone_0 : decode cX7_setAlone 0 = .ok (.aload_n 0, 1) := by decide +kernel
theorem dX7_setAlone_1 : decode cX7_setAlone 1 = .ok (.iload_n 1, 1) := by decide +kernel
theorem dX7_setAlone_2 : decode cX7_setAlone 2 = .ok (.putfield 33, 3) := by decide +kernel
theorem dX7_setAlone_5 : decode cX7_setAlone 5 = .ok (.return_, 1) := by decide +kernel
theorem dX7_setLength_0 : decode cX7_setLength 0 = .ok (.aload_n 0, 1) := by decide +kernel
theorem dX7_setLength_1 : decode cX7_setLength 1 = .ok (.iload_n 1, 1) := by decide +kernel
theorem dX7_setLength_2 : decode cX7_setLength 2 = .ok (.invokevirtual 43, 3) := by decide +kernel
theorem dX7_setLength_5 : decode cX7_setLength 5 = .ok (.ifCond .eq 20, 3) := by decide +kernel
theorem dX7_setLength_8 : decode cX7_setLength 8 = .ok (.iload_n 2, 1) := by decide +kernel
theorem dX7_setLength_9 : decode cX7_setLength 9 = .ok (.ifCond .lt 16, 3) := by decide +kernel
theorem dX7_setLength_12 : decode cX7_setLength 12 = .ok (.iload_n 2, 1) := by decide +kernel
theorem dX7_setLength_13 : decode cX7_setLength 13 = .ok (.bipush 16, 2) := by decide +kernel
theorem dX7_setLength_15 : decode cX7_setLength 15 = .ok (.if_icmp .gt 10, 3) := by decide +kernel
theorem dX7_setLength_18 : decode cX7_setLength 18 = .ok (.aload_n 0, 1) := by decide +kernel
theorem dX7_setLength_19 : decode cX7_setLength 19 = .ok (.getfield 9, 3) := by decide +kernel
theorem dX7_setLength_22 : decode cX7_setLength 22 = .ok (.iload_n 1, 1) := by decide +kernel
theorem dX7_setLength_23 : decode cX7_setLength 23 = .ok (.iload_n 2, 1) := by decide +kernel
theorem dX7_setLength_24 : decode cX7_setLength 24 = .ok (.iastore, 1) := by decide +kernel
theorem dX7_setLength_25 : decode cX7_setLength 25 = .ok (.return_, 1) := by decide +kernel
theorem dX7_lengthsInUse_0 : decode cX7_lengthsInUse 0 = .ok (.aload_n 0, 1) := by decide +kernel
theorem dX7_lengthsInUse_1 : decode cX7_lengthsInUse 1 = .ok (.getfield 9, 3) := by decide +kernel
theorem dX7_lengthsInUse_4 : decode cX7_lengthsInUse 4 = .ok (.arraylength, 1) := by decide +kernel
theorem dX7_lengthsInUse_5 : decode cX7_lengthsInUse 5 = .ok (.istore_n 1, 1) := by decide +kernel
theorem dX7_lengthsInUse_6 : decode cX7_lengthsInUse 6 = .ok (.iload_n 1, 1) := by decide +kernel
theorem dX7_lengthsInUse_7 : decode cX7_lengthsInUse 7 = .ok (.ifCond .le 22, 3) := by decide +kernel
theorem dX7_lengthsInUse_10 : decode cX7_lengthsInUse 10 = .ok (.aload_n 0, 1) := by decide +kernel
theorem dX7_lengthsInUse_11 : decode cX7_lengthsInUse 11 = .ok (.getfield 9, 3) := by decide +kernel
theorem dX7_lengthsInUse_14 : decode cX7_lengthsInUse 14 = .ok (.iload_n 1, 1) := by decide +kernel
theorem dX7_lengthsInUse_15 : decode cX7_lengthsInUse 15 = .ok (.iconst 1, 1) := by decide +kernel
theorem dX7_lengthsInUse_16 : decode cX7_lengthsInUse 16 = .ok (.isub, 1) := by decide +kernel
theorem dX7_lengthsInUse_17 : decode cX7_lengthsInUse 17 = .ok (.iaload, 1) := by decide +kernel
theorem dX7_lengthsInUse_18 : decode cX7_lengthsInUse 18 = .ok (.ifCond .le 5, 3) := by decide +kernel
theorem dX7_lengthsInUse_21 : decode cX7_lengthsInUse 21 = .ok (.iload_n 1, 1) := by decide +kernel
theorem dX7_lengthsInUse_22 : decode cX7_lengthsInUse 22 = .ok (.ireturn, 1) := by decide +kernel
theorem dX7_lengthsInUse_23 : decode cX7_lengthsInUse 23 = .ok (.iinc 1 (-1), 3) := by decide +kernel
theorem dX7_lengthsInUse_26 : decode cX7_lengthsInUse 26 = .ok (.goto (-20), 3) := by decide +kernel
theorem dX7_lengthsInUse_29 : decode cX7_lengthsInUse 29 = .ok (.iconst 0, 1) := by decide +kernel
theorem dX7_lengthsInUse_30 : decode cX7_lengthsInUse 30 = .ok (.ireturn, 1) := by decide +kernel
theorem dX7_zerosFrom_0 : decode cX7_zerosFrom 0 = .ok (.iconst 0, 1) := by decide +kernel
theorem dX7_zerosFrom_1 : decode cX7_zerosFrom 1 = .ok (.istore_n 3, 1) := by decide +kernel
theorem dX7_zerosFrom_2 : decode cX7_zerosFrom 2 = .ok (.iload_n 3, 1) := by decide +kernel
theorem dX7_zerosFrom_3 : decode cX7_zerosFrom 3 = .ok (.iload_n 2, 1) := by decide +kernel
theorem dX7_zerosFrom_4 : decode cX7_zerosFrom 4 = .ok (.if_icmp .ge 21, 3) := by decide +kernel
theorem dX7_zerosFrom_7 : decode cX7_zerosFrom 7 = .ok (.aload_n 0, 1) := by decide +kernel
theorem dX7_zerosFrom_8 : decode cX7_zerosFrom 8 = .ok (.iload_n 1, 1) := by decide +kernel
theorem dX7_zerosFrom_9 : decode cX7_zerosFrom 9 = .ok (.iload_n 3, 1) := by decide +kernel
theorem dX7_zerosFrom_10 : decode cX7_zerosFrom 10 = .ok (.iadd, 1) := by decide +kernel
theorem dX7_zerosFrom_11 : decode cX7_zerosFrom 11 = .ok (.invokevirtual 47, 3) := by decide +kernel
theorem dX7_zerosFrom_14 : decode cX7_zerosFrom 14 = .ok (.ifCond .eq 5, 3) := by decide +kernel
theorem dX7_zerosFrom_17 : decode cX7_zerosFrom 17 = .ok (.iload_n 3, 1) := by decide +kernel
theorem dX7_zerosFrom_18 : decode cX7_zerosFrom 18 = .ok (.ireturn, 1) := by decide +kernel
theorem dX7_zerosFrom_19 : decode cX7_zerosFrom 19 = .ok (.iinc 3 1, 3) := by decide +kernel
theorem dX7_zerosFrom_22 : decode cX7_zerosFrom 22 = .ok (.goto (-20), 3) := by decide +kernel
theorem dX7_zerosFrom_25 : decode cX7_zerosFrom 25 = .ok (.iload_n 2, 1) := by decide +kernel
theorem dX7_zerosFrom_26 : decode cX7_zerosFrom 26 = .ok (.ireturn, 1) := by decide +kernel
theorem dX7_settle_0 : decode cX7_settle 0 = .ok (.aload_n 0, 1) := by decide +kernel
theorem dX7_settle_1 : decode cX7_settle 1 = .ok (.getfield 24, 3) := by decide +kernel
theorem dX7_settle_4 : decode cX7_settle 4 = .ok (.iconst 0, 1) := by decide +kernel
theorem dX7_settle_5 : decode cX7_settle 5 = .ok (.invokestatic 37, 3) := by decide +kernel
theorem dX7_settle_8 : decode cX7_settle 8 = .ok (.aload_n 0, 1) := by decide +kernel
theorem dX7_settle_9 : decode cX7_settle 9 = .ok (.getfield 9, 3) := by decide +kernel
theorem dX7_settle_12 : decode cX7_settle 12 = .ok (.astore_n 1, 1) := by decide +kernel
theorem dX7_settle_13 : decode cX7_settle 13 = .ok (.aload_n 1, 1) := by decide +kernel
theorem dX7_settle_14 : decode cX7_settle 14 = .ok (.arraylength, 1) := by decide +kernel
theorem dX7_settle_15 : decode cX7_settle 15 = .ok (.istore_n 2, 1) := by decide +kernel
theorem dX7_settle_16 : decode cX7_settle 16 = .ok (.iconst 0, 1) := by decide +kernel
theorem dX7_settle_17 : decode cX7_settle 17 = .ok (.istore_n 3, 1) := by decide +kernel
theorem dX7_settle_18 : decode cX7_settle 18 = .ok (.iload_n 3, 1) := by decide +kernel
theorem dX7_settle_19 : decode cX7_settle 19 = .ok (.iload_n 2, 1) := by decide +kernel
theorem dX7_settle_20 : decode cX7_settle 20 = .ok (.if_icmp .ge 25, 3) := by decide +kernel
theorem dX7_settle_23 : decode cX7_settle 23 = .ok (.aload_n 1, 1) := by decide +kernel
theorem dX7_settle_24 : decode cX7_settle 24 = .ok (.iload_n 3, 1) := by decide +kernel
theorem dX7_settle_25 : decode cX7_settle 25 = .ok (.iaload, 1) := by decide +kernel
theorem dX7_settle_26 : decode cX7_settle 26 = .ok (.istore 4, 2) := by decide +kernel
theorem dX7_settle_28 : decode cX7_settle 28 = .ok (.aload_n 0, 1) := by decide +kernel
theorem dX7_settle_29 : decode cX7_settle 29 = .ok (.getfield 24, 3) := by decide +kernel
theorem dX7_settle_32 : decode cX7_settle 32 = .ok (.iload 4, 2) := by decide +kernel
theorem dX7_settle_34 : decode cX7_settle 34 = .ok (.dup2, 1) := by decide +kernel
theorem dX7_settle_35 : decode cX7_settle 35 = .ok (.iaload, 1) := by decide +kernel
theorem dX7_settle_36 : decode cX7_settle 36 = .ok (.iconst 1, 1) := by decide +kernel
theorem dX7_settle_37 : decode cX7_settle 37 = .ok (.iadd, 1) := by decide +kernel
theorem dX7_settle_38 : decode cX7_settle 38 = .ok (.iastore, 1) := by decide +kernel
theorem dX7_settle_39 : decode cX7_settle 39 = .ok (.iinc 3 1, 3) := by decide +kernel
theorem dX7_settle_42 : decode cX7_settle 42 = .ok (.goto (-24), 3) := by decide +kernel
theorem dX7_settle_45 : decode cX7_settle 45 = .ok (.iconst 0, 1) := by decide +kernel
theorem dX7_settle_46 : decode cX7_settle 46 = .ok (.istore_n 1, 1) := by decide +kernel
theorem dX7_settle_47 : decode cX7_settle 47 = .ok (.iconst 0, 1) := by decide +kernel
theorem dX7_settle_48 : decode cX7_settle 48 = .ok (.istore_n 2, 1) := by decide +kernel
theorem dX7_settle_49 : decode cX7_settle 49 = .ok (.iconst 1, 1) := by decide +kernel
theorem dX7_settle_50 : decode cX7_settle 50 = .ok (.istore_n 3, 1) := by decide +kernel
theorem dX7_settle_51 : decode cX7_settle 51 = .ok (.iload_n 3, 1) := by decide +kernel
theorem dX7_settle_52 : decode cX7_settle 52 = .ok (.bipush 16, 2) := by decide +kernel
theorem dX7_settle_54 : decode cX7_settle 54 = .ok (.if_icmp .gt 51, 3) := by decide +kernel
theorem dX7_settle_57 : decode cX7_settle 57 = .ok (.aload_n 0, 1) := by decide +kernel
theorem dX7_settle_58 : decode cX7_settle 58 = .ok (.getfield 27, 3) := by decide +kernel
theorem dX7_settle_61 : decode cX7_settle 61 = .ok (.iload_n 3, 1) := by decide +kernel
theorem dX7_settle_62 : decode cX7_settle 62 = .ok (.iload_n 1, 1) := by decide +kernel
theorem dX7_settle_63 : decode cX7_settle 63 = .ok (.bipush 16, 2) := by decide +kernel
theorem dX7_settle_65 : decode cX7_settle 65 = .ok (.iload_n 3, 1) := by decide +kernel
theorem dX7_settle_66 : decode cX7_settle 66 = .ok (.isub, 1) := by decide +kernel
theorem dX7_settle_67 : decode cX7_settle 67 = .ok (.ishr, 1) := by decide +kernel
theorem dX7_settle_68 : decode cX7_settle 68 = .ok (.iastore, 1) := by decide +kernel
theorem dX7_settle_69 : decode cX7_settle 69 = .ok (.aload_n 0, 1) := by decide +kernel
theorem dX7_settle_70 : decode cX7_settle 70 = .ok (.getfield 30, 3) := by decide +kernel
theorem dX7_settle_73 : decode cX7_settle 73 = .ok (.iload_n 3, 1) := by decide +kernel
theorem dX7_settle_74 : decode cX7_settle 74 = .ok (.iload_n 2, 1) := by decide +kernel
theorem dX7_settle_75 : decode cX7_settle 75 = .ok (.iastore, 1) := by decide +kernel
theorem dX7_settle_76 : decode cX7_settle 76 = .ok (.iload_n 1, 1) := by decide +kernel
theorem dX7_settle_77 : decode cX7_settle 77 = .ok (.aload_n 0, 1) := by decide +kernel
theorem dX7_settle_78 : decode cX7_settle 78 = .ok (.getfield 24, 3) := by decide +kernel
theorem dX7_settle_81 : decode cX7_settle 81 = .ok (.iload_n 3, 1) := by decide +kernel
theorem dX7_settle_82 : decode cX7_settle 82 = .ok (.iaload, 1) := by decide +kernel
theorem dX7_settle_83 : decode cX7_settle 83 = .ok (.bipush 16, 2) := by decide +kernel
theorem dX7_settle_85 : decode cX7_settle 85 = .ok (.iload_n 3, 1) := by decide +kernel
theorem dX7_settle_86 : decode cX7_settle 86 = .ok (.isub, 1) := by decide +kernel
theorem dX7_settle_87 : decode cX7_settle 87 = .ok (.ishl, 1) := by decide +kernel
theorem dX7_settle_88 : decode cX7_settle 88 = .ok (.iadd, 1) := by decide +kernel
theorem dX7_settle_89 : decode cX7_settle 89 = .ok (.istore_n 1, 1) := by decide +kernel
theorem dX7_settle_90 : decode cX7_settle 90 = .ok (.iload_n 2, 1) := by decide +kernel
theorem dX7_settle_91 : decode cX7_settle 91 = .ok (.aload_n 0, 1) := by decide +kernel
theorem dX7_settle_92 : decode cX7_settle 92 = .ok (.getfield 24, 3) := by decide +kernel
theorem dX7_settle_95 : decode cX7_settle 95 = .ok (.iload_n 3, 1) := by decide +kernel
theorem dX7_settle_96 : decode cX7_settle 96 = .ok (.iaload, 1) := by decide +kernel
theorem dX7_settle_97 : decode cX7_settle 97 = .ok (.iadd, 1) := by decide +kernel
theorem dX7_settle_98 : decode cX7_settle 98 = .ok (.istore_n 2, 1) := by decide +kernel
theorem dX7_settle_99 : decode cX7_settle 99 = .ok (.iinc 3 1, 3) := by decide +kernel
theorem dX7_settle_102 : decode cX7_settle 102 = .ok (.goto (-51), 3) := by decide +kernel
theorem dX7_settle_105 : decode cX7_settle 105 = .ok (.iload_n 1, 1) := by decide +kernel
theorem dX7_settle_106 : decode cX7_settle 106 = .ok (.ldc 51, 2) := by decide +kernel
theorem dX7_settle_108 : decode cX7_settle 108 = .ok (.if_icmp .eq 5, 3) := by decide +kernel
theorem dX7_settle_111 : decode cX7_settle 111 = .ok (.iconst 0, 1) := by decide +kernel
theorem dX7_settle_112 : decode cX7_settle 112 = .ok (.ireturn, 1) := by decide +kernel
theorem dX7_settle_113 : decode cX7_settle 113 = .ok (.aload_n 0, 1) := by decide +kernel
theorem dX7_settle_114 : decode cX7_settle 114 = .ok (.invokevirtual 52, 3) := by decide +kernel
theorem dX7_settle_117 : decode cX7_settle 117 = .ok (.iconst 1, 1) := by decide +kernel
theorem dX7_settle_118 : decode cX7_settle 118 = .ok (.ireturn, 1) := by decide +kernel
theorem dX7_number_0 : decode cX7_number 0 = .ok (.aload_n 0, 1) := by decide +kernel
theorem dX7_number_1 : decode cX7_number 1 = .ok (.getfield 24, 3) := by decide +kernel
theorem dX7_number_4 : decode cX7_number 4 = .ok (.iconst 0, 1) := by decide +kernel
theorem dX7_number_5 : decode cX7_number 5 = .ok (.invokestatic 37, 3) := by decide +kernel
theorem dX7_number_8 : decode cX7_number 8 = .ok (.iconst 0, 1) := by decide +kernel
theorem dX7_number_9 : decode cX7_number 9 = .ok (.istore_n 1, 1) := by decide +kernel
theorem dX7_number_10 : decode cX7_number 10 = .ok (.iload_n 1, 1) := by decide +kernel
theorem dX7_number_11 : decode cX7_number 11 = .ok (.aload_n 0, 1) := by decide +kernel
theorem dX7_number_12 : decode cX7_number 12 = .ok (.getfield 9, 3) := by decide +kernel
theorem dX7_number_15 : decode cX7_number 15 = .ok (.arraylength, 1) := by decide +kernel
theorem dX7_number_16 : decode cX7_number 16 = .ok (.if_icmp .ge 68, 3) := by decide +kernel
theorem dX7_number_19 : decode cX7_number 19 = .ok (.aload_n 0, 1) := by decide +kernel
theorem dX7_number_20 : decode cX7_number 20 = .ok (.getfield 9, 3) := by decide +kernel
theorem dX7_number_23 : decode cX7_number 23 = .ok (.iload_n 1, 1) := by decide +kernel
theorem dX7_number_24 : decode cX7_number 24 = .ok (.iaload, 1) := by decide +kernel
theorem dX7_number_25 : decode cX7_number 25 = .ok (.istore_n 2, 1) := by decide +kernel
theorem dX7_number_26 : decode cX7_number 26 = .ok (.iload_n 2, 1) := by decide +kernel
theorem dX7_number_27 : decode cX7_number 27 = .ok (.ifCond .le 51, 3) := by decide +kernel
theorem dX7_number_30 : decode cX7_number 30 = .ok (.aload_n 0, 1) := by decide +kernel
theorem dX7_number_31 : decode cX7_number 31 = .ok (.getfield 15, 3) := by decide +kernel
theorem dX7_number_34 : decode cX7_number 34 = .ok (.iload_n 1, 1) := by decide +kernel
theorem dX7_number_35 : decode cX7_number 35 = .ok (.aload_n 0, 1) := by decide +kernel
theorem dX7_number_36 : decode cX7_number 36 = .ok (.getfield 27, 3) := by decide +kernel
theorem dX7_number_39 : decode cX7_number 39 = .ok (.iload_n 2, 1) := by decide +kernel
theorem dX7_number_40 : decode cX7_number 40 = .ok (.iaload, 1) := by decide +kernel
theorem dX7_number_41 : decode cX7_number 41 = .ok (.aload_n 0, 1) := by decide +kernel
theorem dX7_number_42 : decode cX7_number 42 = .ok (.getfield 24, 3) := by decide +kernel
theorem dX7_number_45 : decode cX7_number 45 = .ok (.iload_n 2, 1) := by decide +kernel
theorem dX7_number_46 : decode cX7_number 46 = .ok (.iaload, 1) := by decide +kernel
theorem dX7_number_47 : decode cX7_number 47 = .ok (.iadd, 1) := by decide +kernel
theorem dX7_number_48 : decode cX7_number 48 = .ok (.iastore, 1) := by decide +kernel
theorem dX7_number_49 : decode cX7_number 49 = .ok (.aload_n 0, 1) := by decide +kernel
theorem dX7_number_50 : decode cX7_number 50 = .ok (.getfield 21, 3) := by decide +kernel
theorem dX7_number_53 : decode cX7_number 53 = .ok (.aload_n 0, 1) := by decide +kernel
theorem dX7_number_54 : decode cX7_number 54 = .ok (.getfield 30, 3) := by decide +kernel
theorem dX7_number_57 : decode cX7_number 57 = .ok (.iload_n 2, 1) := by decide +kernel
theorem dX7_number_58 : decode cX7_number 58 = .ok (.iaload, 1) := by decide +kernel
theorem dX7_number_59 : decode cX7_number 59 = .ok (.aload_n 0, 1) := by decide +kernel
theorem dX7_number_60 : decode cX7_number 60 = .ok (.getfield 24, 3) := by decide +kernel
theorem dX7_number_63 : decode cX7_number 63 = .ok (.iload_n 2, 1) := by decide +kernel
theorem dX7_number_64 : decode cX7_number 64 = .ok (.iaload, 1) := by decide +kernel
theorem dX7_number_65 : decode cX7_number 65 = .ok (.iadd, 1) := by decide +kernel
theorem dX7_number_66 : decode cX7_number 66 = .ok (.iload_n 1, 1) := by decide +kernel
theorem dX7_number_67 : decode cX7_number 67 = .ok (.iastore, 1) := by decide +kernel
theorem dX7_number_68 : decode cX7_number 68 = .ok (.aload_n 0, 1) := by decide +kernel
theorem dX7_number_69 : decode cX7_number 69 = .ok (.getfield 24, 3) := by decide +kernel
theorem dX7_number_72 : decode cX7_number 72 = .ok (.iload_n 2, 1) := by decide +kernel
theorem dX7_number_73 : decode cX7_number 73 = .ok (.dup2, 1) := by decide +kernel
theorem dX7_number_74 : decode cX7_number 74 = .ok (.iaload, 1) := by decide +kernel
theorem dX7_number_75 : decode cX7_number 75 = .ok (.iconst 1, 1) := by decide +kernel
theorem dX7_number_76 : decode cX7_number 76 = .ok (.iadd, 1) := by decide +kernel
theorem dX7_number_77 : decode cX7_number 77 = .ok (.iastore, 1) := by decide +kernel
theorem dX7_number_78 : decode cX7_number 78 = .ok (.iinc 1 1, 3) := by decide +kernel
theorem dX7_number_81 : decode cX7_number 81 = .ok (.goto (-71), 3) := by decide +kernel
theorem dX7_number_84 : decode cX7_number 84 = .ok (.return_, 1) := by decide +kernel
theorem dX7_symbolOf_0 : decode cX7_symbolOf 0 = .ok (.iload_n 1, 1) := by decide +kernel
theorem dX7_symbolOf_1 : decode cX7_symbolOf 1 = .ok (.aload_n 0, 1) := by decide +kernel
theorem dX7_symbolOf_2 : decode cX7_symbolOf 2 = .ok (.getfield 27, 3) := by decide +kernel
theorem dX7_symbolOf_5 : decode cX7_symbolOf 5 = .ok (.iload_n 2, 1) := by decide +kernel
theorem dX7_symbolOf_6 : decode cX7_symbolOf 6 = .ok (.iaload, 1) := by decide +kernel
theorem dX7_symbolOf_7 : decode cX7_symbolOf 7 = .ok (.isub, 1) := by decide +kernel
theorem dX7_symbolOf_8 : decode cX7_symbolOf 8 = .ok (.istore_n 3, 1) := by decide +kernel
theorem dX7_symbolOf_9 : decode cX7_symbolOf 9 = .ok (.iload_n 3, 1) := by decide +kernel
theorem dX7_symbolOf_10 : decode cX7_symbolOf 10 = .ok (.ifCond .lt 13, 3) := by decide +kernel
theorem dX7_symbolOf_13 : decode cX7_symbolOf 13 = .ok (.iload_n 3, 1) := by decide +kernel
theorem dX7_symbolOf_14 : decode cX7_symbolOf 14 = .ok (.aload_n 0, 1) := by decide +kernel
theorem dX7_symbolOf_15 : decode cX7_symbolOf 15 = .ok (.getfield 24, 3) := by decide +kernel
theorem dX7_symbolOf_18 : decode cX7_symbolOf 18 = .ok (.iload_n 2, 1) := by decide +kernel
theorem dX7_symbolOf_19 : decode cX7_symbolOf 19 = .ok (.iaload, 1) := by decide +kernel
theorem dX7_symbolOf_20 : decode cX7_symbolOf 20 = .ok (.if_icmp .lt 5, 3) := by decide +kernel
theorem dX7_symbolOf_23 : decode cX7_symbolOf 23 = .ok (.iconst (-1), 1) := by decide +kernel
theorem dX7_symbolOf_24 : decode cX7_symbolOf 24 = .ok (.ireturn, 1) := by decide +kernel
theorem dX7_symbolOf_25 : decode cX7_symbolOf 25 = .ok (.aload_n 0, 1) := by decide +kernel
theorem dX7_symbolOf_26 : decode cX7_symbolOf 26 = .ok (.getfield 21, 3) := by decide +kernel
theorem dX7_symbolOf_29 : decode cX7_symbolOf 29 = .ok (.aload_n 0, 1) := by decide +kernel
theorem dX7_symbolOf_30 : decode cX7_symbolOf 30 = .ok (.getfield 30, 3) := by decide +kernel
theorem dX7_symbolOf_33 : decode cX7_symbolOf 33 = .ok (.iload_n 2, 1) := by decide +kernel
theorem dX7_symbolOf_34 : decode cX7_symbolOf 34 = .ok (.iaload, 1) := by decide +kernel
theorem dX7_symbolOf_35 : decode cX7_symbolOf 35 = .ok (.iload_n 3, 1) := by decide +kernel
theorem dX7_symbolOf_36 : decode cX7_symbolOf 36 = .ok (.iadd, 1) := by decide +kernel
theorem dX7_symbolOf_37 : decode cX7_symbolOf 37 = .ok (.iaload, 1) := by decide +kernel
theorem dX7_symbolOf_38 : decode cX7_symbolOf 38 = .ok (.ireturn, 1) := by decide +kernel
theorem dX8_init_0 : decode cX8_init 0 = .ok (.aload_n 0, 1) := by decide +kernel
theorem dX8_init_1 : decode cX8_init 1 = .ok (.invokespecial 3, 3) := by decide +kernel
theorem dX8_init_4 : decode cX8_init 4 = .ok (.aload_n 0, 1) := by decide +kernel
theorem dX8_init_5 : decode cX8_init 5 = .ok (.new 9, 3) := by decide +kernel
theorem dX8_init_8 : decode cX8_init 8 = .ok (.dup, 1) := by decide +kernel
theorem dX8_init_9 : decode cX8_init 9 = .ok (.aload_n 1, 1) := by decide +kernel
theorem dX8_init_10 : decode cX8_init 10 = .ok (.invokespecial 11, 3) := by decide +kernel
theorem dX8_init_13 : decode cX8_init 13 = .ok (.putfield 14, 3) := by decide +kernel
theorem dX8_init_16 : decode cX8_init 16 = .ok (.aload_n 0, 1) := by decide +kernel
theorem dX8_init_17 : decode cX8_init 17 = .ok (.aload_n 2, 1) := by decide +kernel
theorem dX8_init_18 : decode cX8_init 18 = .ok (.putfield 20, 3) := by decide +kernel
theorem dX8_init_21 : decode cX8_init 21 = .ok (.aload_n 0, 1) := by decide +kernel
theorem dX8_init_22 : decode cX8_init 22 = .ok (.aload_n 3, 1) := by decide +kernel
theorem dX8_init_23 : decode cX8_init 23 = .ok (.putfield 24, 3) := by decide +kernel
theorem dX8_init_26 : decode cX8_init 26 = .ok (.aload_n 0, 1) := by decide +kernel
theorem dX8_init_27 : decode cX8_init 27 = .ok (.aload_n 3, 1) := by decide +kernel
theorem dX8_init_28 : decode cX8_init 28 = .ok (.iconst 0, 1) := by decide +kernel
theorem dX8_init_29 : decode cX8_init 29 = .ok (.invokevirtual 28, 3) := by decide +kernel
theorem dX8_init_32 : decode cX8_init 32 = .ok (.putfield 34, 3) := by decide +kernel
theorem dX8_init_35 : decode cX8_init 35 = .ok (.aload_n 0, 1) := by decide +kernel
theorem dX8_init_36 : decode cX8_init 36 = .ok (.aload_n 3, 1) := by decide +kernel
theorem dX8_init_37 : decode cX8_init 37 = .ok (.iconst 1, 1) := by decide +kernel
theorem dX8_init_38 : decode cX8_init 38 = .ok (.invokevirtual 28, 3) := by decide +kernel
theorem dX8_init_41 : decode cX8_init 41 = .ok (.putfield 38, 3) := by decide +kernel
theorem dX8_init_44 : decode cX8_init 44 = .ok (.aload_n 0, 1) := by decide +kernel
theorem dX8_init_45 : decode cX8_init 45 = .ok (.aload_n 3, 1) := by decide +kernel
theorem dX8_init_46 : decode cX8_init 46 = .ok (.iconst 2, 1) := by decide +kernel
theorem dX8_init_47 : decode cX8_init 47 = .ok (.invokevirtual 28, 3) := by decide +kernel
theorem dX8_init_50 : decode cX8_init 50 = .ok (.putfield 41, 3) := by decide +kernel
theorem dX8_init_53 : decode cX8_init 53 = .ok (.aload_n 0, 1) := by decide +kernel
theorem dX8_init_54 : decode cX8_init 54 = .ok (.iconst 0, 1) := by decide +kernel
theorem dX8_init_55 : decode cX8_init 55 = .ok (.putfield 44, 3) := by decide +kernel
theorem dX8_init_58 : decode cX8_init 58 = .ok (.return_, 1) := by decide +kernel
theorem dX8_unpack_0 : decode cX8_unpack 0 = .ok (.aload_n 0, 1) := by decide +kernel
theorem dX8_unpack_1 : decode cX8_unpack 1 = .ok (.getfield 14, 3) := by decide +kernel
theorem dX8_unpack_4 : decode cX8_unpack 4 = .ok (.iload_n 1, 1) := by decide +kernel
theorem dX8_unpack_5 : decode cX8_unpack 5 = .ok (.invokevirtual 48, 3) := by decide +kernel
theorem dX8_unpack_8 : decode cX8_unpack 8 = .ok (.aload_n 0, 1) := by decide +kernel
theorem dX8_unpack_9 : decode cX8_unpack 9 = .ok (.getfield 20, 3) := by decide +kernel
theorem dX8_unpack_12 : decode cX8_unpack 12 = .ok (.invokevirtual 52, 3) := by decide +kernel
theorem dX8_unpack_15 : decode cX8_unpack 15 = .ok (.aload_n 0, 1) := by decide +kernel
theorem dX8_unpack_16 : decode cX8_unpack 16 = .ok (.getfield 24, 3) := by decide +kernel
theorem dX8_unpack_19 : decode cX8_unpack 19 = .ok (.invokevirtual 57, 3) := by decide +kernel
theorem dX8_unpack_22 : decode cX8_unpack 22 = .ok (.aload_n 0, 1) := by decide +kernel
theorem dX8_unpack_23 : decode cX8_unpack 23 = .ok (.iload_n 2, 1) := by decide +kernel
theorem dX8_unpack_24 : decode cX8_unpack 24 = .ok (.putfield 44, 3) := by decide +kernel
theorem dX8_unpack_27 : decode cX8_unpack 27 = .ok (.iconst 0, 1) := by decide +kernel
theorem dX8_unpack_28 : decode cX8_unpack 28 = .ok (.istore_n 3, 1) := by decide +kernel
theorem dX8_unpack_29 : decode cX8_unpack 29 = .ok (.iconst 0, 1) := by decide +kernel
theorem dX8_unpack_30 : decode cX8_unpack 30 = .ok (.istore 4, 2) := by decide +kernel
theorem dX8_unpack_32 : decode cX8_unpack 32 = .ok (.iload 4, 2) := by decide +kernel
theorem dX8_unpack_34 : decode cX8_unpack 34 = .ok (.iload_n 2, 1) := by decide +kernel
theorem dX8_unpack_35 : decode cX8_unpack 35 = .ok (.if_icmp .ge 25, 3) := by decide +kernel
theorem dX8_unpack_38 : decode cX8_unpack 38 = .ok (.iload_n 3, 1) := by decide +kernel
theorem dX8_unpack_39 : decode cX8_unpack 39 = .ok (.ifCond .ne 21, 3) := by decide +kernel
theorem dX8_unpack_42 : decode cX8_unpack 42 = .ok (.aload_n 0, 1) := by decide +kernel
theorem dX8_unpack_43 : decode cX8_unpack 43 = .ok (.invokevirtual 59, 3) := by decide +kernel
theorem dX8_unpack_46 : decode cX8_unpack 46 = .ok (.ifCond .eq 14, 3) := by decide +kernel
theorem dX8_unpack_49 : decode cX8_unpack 49 = .ok (.aload_n 0, 1) := by decide +kernel
theorem dX8_unpack_50 : decode cX8_unpack 50 = .ok (.invokevirtual 63, 3) := by decide +kernel
theorem dX8_unpack_53 : decode cX8_unpack 53 = .ok (.istore_n 3, 1) := by decide +kernel
theorem dX8_unpack_54 : decode cX8_unpack 54 = .ok (.iinc 4 1, 3) := by decide +kernel
theorem dX8_unpack_57 : decode cX8_unpack 57 = .ok (.goto (-25), 3) := by decide +kernel
theorem dX8_unpack_60 : decode cX8_unpack 60 = .ok (.aload_n 0, 1) := by decide +kernel
theorem dX8_unpack_61 : decode cX8_unpack 61 = .ok (.getfield 24, 3) := by decide +kernel
theorem dX8_unpack_64 : decode cX8_unpack 64 = .ok (.aload_n 0, 1) := by decide +kernel
theorem dX8_unpack_65 : decode cX8_unpack 65 = .ok (.getfield 14, 3) := by decide +kernel
theorem dX8_unpack_68 : decode cX8_unpack 68 = .ok (.invokevirtual 67, 3) := by decide +kernel
theorem dX8_unpack_71 : decode cX8_unpack 71 = .ok (.invokevirtual 70, 3) := by decide +kernel
theorem dX8_unpack_74 : decode cX8_unpack 74 = .ok (.iload_n 3, 1) := by decide +kernel
theorem dX8_unpack_75 : decode cX8_unpack 75 = .ok (.ireturn, 1) := by decide +kernel
theorem dX8_wantsMore_0 : decode cX8_wantsMore 0 = .ok (.aload_n 0, 1) := by decide +kernel
theorem dX8_wantsMore_1 : decode cX8_wantsMore 1 = .ok (.getfield 20, 3) := by decide +kernel
theorem dX8_wantsMore_4 : decode cX8_wantsMore 4 = .ok (.invokevirtual 73, 3) := by decide +kernel
theorem dX8_wantsMore_7 : decode cX8_wantsMore 7 = .ok (.aload_n 0, 1) := by decide +kernel
theorem dX8_wantsMore_8 : decode cX8_wantsMore 8 = .ok (.getfield 44, 3) := by decide +kernel
theorem dX8_wantsMore_11 : decode cX8_wantsMore 11 = .ok (.if_icmp .ge 7, 3) := by decide +kernel
theorem dX8_wantsMore_14 : decode cX8_wantsMore 14 = .ok (.iconst 1, 1) := by decide +kernel
theorem dX8_wantsMore_15 : decode cX8_wantsMore 15 = .ok (.goto 4, 3) := by decide +kernel
theorem dX8_wantsMore_18 : decode cX8_wantsMore 18 = .ok (.iconst 0, 1) := by decide +kernel
theorem dX8_wantsMore_19 : decode cX8_wantsMore 19 = .ok (.ireturn, 1) := by decide +kernel
theorem dX8_unpackBlock_0 : decode cX8_unpackBlock 0 = .ok (.aload_n 0, 1) := by decide +kernel
theorem dX8_unpackBlock_1 : decode cX8_unpackBlock 1 = .ok (.getfield 24, 3) := by decide +kernel
theorem dX8_unpackBlock_4 : decode cX8_unpackBlock 4 = .ok (.invokevirtual 76, 3) := by decide +kernel
theorem dX8_unpackBlock_7 : decode cX8_unpackBlock 7 = .ok (.aload_n 0, 1) := by decide +kernel
theorem dX8_unpackBlock_8 : decode cX8_unpackBlock 8 = .ok (.getfield 14, 3) := by decide +kernel
theorem dX8_unpackBlock_11 : decode cX8_unpackBlock 11 = .ok (.bipush 16, 2) := by decide +kernel
theorem dX8_unpackBlock_13 : decode cX8_unpackBlock 13 = .ok (.invokevirtual 79, 3) := by decide +kernel
theorem dX8_unpackBlock_16 : decode cX8_unpackBlock 16 = .ok (.istore_n 1, 1) := by decide +kernel
theorem dX8_unpackBlock_17 : decode cX8_unpackBlock 17 = .ok (.iload_n 1, 1) := by decide +kernel
theorem dX8_unpackBlock_18 : decode cX8_unpackBlock 18 = .ok (.iconst (-1), 1) := by decide +kernel
theorem dX8_unpackBlock_19 : decode cX8_unpackBlock 19 = .ok (.if_icmp .ne 5, 3) := by decide +kernel
theorem dX8_unpackBlock_22 : decode cX8_unpackBlock 22 = .ok (.iconst 1, 1) := by decide +kernel
theorem dX8_unpackBlock_23 : decode cX8_unpackBlock 23 = .ok (.ireturn, 1) := by decide +kernel
theorem dX8_unpackBlock_24 : decode cX8_unpackBlock 24 = .ok (.iload_n 1, 1) := by decide +kernel
theorem dX8_unpackBlock_25 : decode cX8_unpackBlock 25 = .ok (.ifCond .ne 6, 3) := by decide +kernel
theorem dX8_unpackBlock_28 : decode cX8_unpackBlock 28 = .ok (.bipush 6, 2) := by decide +kernel
theorem dX8_unpackBlock_30 : decode cX8_unpackBlock 30 = .ok (.ireturn, 1) := by decide +kernel
theorem dX8_unpackBlock_31 : decode cX8_unpackBlock 31 = .ok (.aload_n 0, 1) := by decide +kernel
theorem dX8_unpackBlock_32 : decode cX8_unpackBlock 32 = .ok (.iconst 0, 1) := by decide +kernel
theorem dX8_unpackBlock_33 : decode cX8_unpackBlock 33 = .ok (.iconst 5, 1) := by decide +kernel
theorem dX8_unpackBlock_34 : decode cX8_unpackBlock 34 = .ok (.invokevirtual 83, 3) := by decide +kernel
theorem dX8_unpackBlock_37 : decode cX8_unpackBlock 37 = .ok (.istore_n 2, 1) := by decide +kernel
theorem dX8_unpackBlock_38 : decode cX8_unpackBlock 38 = .ok (.iload_n 2, 1) := by decide +kernel
theorem dX8_unpackBlock_39 : decode cX8_unpackBlock 39 = .ok (.ifCond .ne 11, 3) := by decide +kernel
theorem dX8_unpackBlock_42 : decode cX8_unpackBlock 42 = .ok (.aload_n 0, 1) := by decide +kernel
theorem dX8_unpackBlock_43 : decode cX8_unpackBlock 43 = .ok (.iconst 1, 1) := by decide +kernel
theorem dX8_unpackBlock_44 : decode cX8_unpackBlock 44 = .ok (.bipush 9, 2) := by decide +kernel
theorem dX8_unpackBlock_46 : decode cX8_unpackBlock 46 = .ok (.invokevirtual 83, 3) := by decide +kernel
theorem dX8_unpackBlock_49 : decode cX8_unpackBlock 49 = .ok (.istore_n 2, 1) := by decide +kernel
theorem dX8_unpackBlock_50 : decode cX8_unpackBlock 50 = .ok (.iload_n 2, 1) := by decide +kernel
theorem dX8_unpackBlock_51 : decode cX8_unpackBlock 51 = .ok (.ifCond .ne 10, 3) := by decide +kernel
theorem dX8_unpackBlock_54 : decode cX8_unpackBlock 54 = .ok (.aload_n 0, 1) := by decide +kernel
theorem dX8_unpackBlock_55 : decode cX8_unpackBlock 55 = .ok (.iconst 2, 1) := by decide +kernel
theorem dX8_unpackBlock_56 : decode cX8_unpackBlock 56 = .ok (.iconst 4, 1) := by decide +kernel
theorem dX8_unpackBlock_57 : decode cX8_unpackBlock 57 = .ok (.invokevirtual 83, 3) := by decide +kernel
theorem dX8_unpackBlock_60 : decode cX8_unpackBlock 60 = .ok (.istore_n 2, 1) := by decide +kernel
theorem dX8_unpackBlock_61 : decode cX8_unpackBlock 61 = .ok (.iconst 0, 1) := by decide +kernel
theorem dX8_unpackBlock_62 : decode cX8_unpackBlock 62 = .ok (.istore_n 3, 1) := by decide +kernel
theorem dX8_unpackBlock_63 : decode cX8_unpackBlock 63 = .ok (.iload_n 3, 1) := by decide +kernel
theorem dX8_unpackBlock_64 : decode cX8_unpackBlock 64 = .ok (.iload_n 1, 1) := by decide +kernel
theorem dX8_unpackBlock_65 : decode cX8_unpackBlock 65 = .ok (.if_icmp .ge 25, 3) := by decide +kernel
theorem dX8_unpackBlock_68 : decode cX8_unpackBlock 68 = .ok (.iload_n 2, 1) := by decide +kernel
theorem dX8_unpackBlock_69 : decode cX8_unpackBlock 69 = .ok (.ifCond .ne 21, 3) := by decide +kernel
theorem dX8_unpackBlock_72 : decode cX8_unpackBlock 72 = .ok (.aload_n 0, 1) := by decide +kernel
theorem dX8_unpackBlock_73 : decode cX8_unpackBlock 73 = .ok (.invokevirtual 59, 3) := by decide +kernel
theorem dX8_unpackBlock_76 : decode cX8_unpackBlock 76 = .ok (.ifCond .eq 14, 3) := by decide +kernel
theorem dX8_unpackBlock_79 : decode cX8_unpackBlock 79 = .ok (.aload_n 0, 1) := by decide +kernel
theorem dX8_unpackBlock_80 : decode cX8_unpackBlock 80 = .ok (.invokevirtual 87, 3) := by decide +kernel
theorem dX8_unpackBlock_83 : decode cX8_unpackBlock 83 = .ok (.istore_n 2, 1) := by decide +kernel
theorem dX8_unpackBlock_84 : decode cX8_unpackBlock 84 = .ok (.iinc 3 1, 3) := by decide +kernel
theorem dX8_unpackBlock_87 : decode cX8_unpackBlock 87 = .ok (.goto (-24), 3) := by decide +kernel
theorem dX8_unpackBlock_90 : decode cX8_unpackBlock 90 = .ok (.iload_n 2, 1) := by decide +kernel
theorem dX8_unpackBlock_91 : decode cX8_unpackBlock 91 = .ok (.ireturn, 1) := by decide +kernel
theorem dX8_takeTree_0 : decode cX8_takeTree 0 = .ok (.aload_n 0, 1) := by decide +kernel
theorem dX8_takeTree_1 : decode cX8_takeTree 1 = .ok (.getfield 24, 3) := by decide +kernel
theorem dX8_takeTree_4 : decode cX8_takeTree 4 = .ok (.iload_n 1, 1) := by decide +kernel
theorem dX8_takeTree_5 : decode cX8_takeTree 5 = .ok (.invokevirtual 28, 3) := by decide +kernel
theorem dX8_takeTree_8 : decode cX8_takeTree 8 = .ok (.astore_n 3, 1) := by decide +kernel
theorem dX8_takeTree_9 : decode cX8_takeTree 9 = .ok (.aload_n 0, 1) := by decide +kernel
theorem dX8_takeTree_10 : decode cX8_takeTree 10 = .ok (.getfield 14, 3) := by decide +kernel
theorem dX8_takeTree_13 : decode cX8_takeTree 13 = .ok (.iload_n 2, 1) := by decide +kernel
theorem dX8_takeTree_14 : decode cX8_takeTree 14 = .ok (.invokevirtual 79, 3) := by decide +kernel
theorem dX8_takeTree_17 : decode cX8_takeTree 17 = .ok (.istore 4, 2) := by decide +kernel
theorem dX8_takeTree_19 : decode cX8_takeTree 19 = .ok (.iload 4, 2) := by decide +kernel
theorem dX8_takeTree_21 : decode cX8_takeTree 21 = .ok (.iconst (-1), 1) := by decide +kernel
theorem dX8_takeTree_22 : decode cX8_takeTree 22 = .ok (.if_icmp .ne 5, 3) := by decide +kernel
theorem dX8_takeTree_25 : decode cX8_takeTree 25 = .ok (.iconst 1, 1) := by decide +kernel
theorem dX8_takeTree_26 : decode cX8_takeTree 26 = .ok (.ireturn, 1) := by decide +kernel
theorem dX8_takeTree_27 : decode cX8_takeTree 27 = .ok (.iload 4, 2) := by decide +kernel
theorem dX8_takeTree_29 : decode cX8_takeTree 29 = .ok (.aload_n 3, 1) := by decide +kernel
theorem dX8_takeTree_30 : decode cX8_takeTree 30 = .ok (.invokevirtual 90, 3) := by decide +kernel
theorem dX8_takeTree_33 : decode cX8_takeTree 33 = .ok (.if_icmp .le 5, 3) := by decide +kernel
theorem dX8_takeTree_36 : decode cX8_takeTree 36 = .ok (.iconst 3, 1) := by decide +kernel
theorem dX8_takeTree_37 : decode cX8_takeTree 37 = .ok (.ireturn, 1) := by decide +kernel
theorem dX8_takeTree_38 : decode cX8_takeTree 38 = .ok (.iload 4, 2) := by decide +kernel
theorem dX8_takeTree_40 : decode cX8_takeTree 40 = .ok (.ifCond .ne 10, 3) := by decide +kernel
theorem dX8_takeTree_43 : decode cX8_takeTree 43 = .ok (.aload_n 0, 1) := by decide +kernel
theorem dX8_takeTree_44 : decode cX8_takeTree 44 = .ok (.aload_n 3, 1) := by decide +kernel
theorem dX8_takeTree_45 : decode cX8_takeTree 45 = .ok (.iload_n 2, 1) := by decide +kernel
theorem dX8_takeTree_46 : decode cX8_takeTree 46 = .ok (.invokevirtual 95, 3) := by decide +kernel
theorem dX8_takeTree_49 : decode cX8_takeTree 49 = .ok (.ireturn, 1) := by decide +kernel
theorem dX8_takeTree_50 : decode cX8_takeTree 50 = .ok (.iload_n 1, 1) := by decide +kernel
theorem dX8_takeTree_51 : decode cX8_takeTree 51 = .ok (.iconst 1, 1) := by decide +kernel
theorem dX8_takeTree_52 : decode cX8_takeTree 52 = .ok (.if_icmp .ne 12, 3) := by decide +kernel
theorem dX8_takeTree_55 : decode cX8_takeTree 55 = .ok (.aload_n 0, 1) := by decide +kernel
theorem dX8_takeTree_56 : decode cX8_takeTree 56 = .ok (.iload 4, 2) := by decide +kernel
theorem dX8_takeTree_58 : decode cX8_takeTree 58 = .ok (.invokevirtual 99, 3) := by decide +kernel
theorem dX8_takeTree_61 : decode cX8_takeTree 61 = .ok (.goto 19, 3) := by decide +kernel
theorem dX8_takeTree_64 : decode cX8_takeTree 64 = .ok (.aload_n 0, 1) := by decide +kernel
theorem dX8_takeTree_65 : decode cX8_takeTree 65 = .ok (.aload_n 3, 1) := by decide +kernel
theorem dX8_takeTree_66 : decode cX8_takeTree 66 = .ok (.iload 4, 2) := by decide +kernel
theorem dX8_takeTree_68 : decode cX8_takeTree 68 = .ok (.iload_n 1, 1) := by decide +kernel
theorem dX8_takeTree_69 : decode cX8_takeTree 69 = .ok (.ifCond .ne 7, 3) := by decide +kernel
theorem dX8_takeTree_72 : decode cX8_takeTree 72 = .ok (.iconst 1, 1) := by decide +kernel
theorem dX8_takeTree_73 : decode cX8_takeTree 73 = .ok (.goto 4, 3) := by decide +kernel
theorem dX8_takeTree_76 : decode cX8_takeTree 76 = .ok (.iconst 0, 1) := by decide +kernel
theorem dX8_takeTree_77 : decode cX8_takeTree 77 = .ok (.invokevirtual 102, 3) := by decide +kernel
theorem dX8_takeTree_80 : decode cX8_takeTree 80 = .ok (.istore 5, 2) := by decide +kernel
theorem dX8_takeTree_82 : decode cX8_takeTree 82 = .ok (.iload 5, 2) := by decide +kernel
theorem dX8_takeTree_84 : decode cX8_takeTree 84 = .ok (.ifCond .eq 6, 3) := by decide +kernel
theorem dX8_takeTree_87 : decode cX8_takeTree 87 = .ok (.iload 5, 2) := by decide +kernel
theorem dX8_takeTree_89 : decode cX8_takeTree 89 = .ok (.ireturn, 1) := by decide +kernel
theorem dX8_takeTree_90 : decode cX8_takeTree 90 = .ok (.aload_n 3, 1) := by decide +kernel
theorem dX8_takeTree_91 : decode cX8_takeTree 91 = .ok (.invokevirtual 106, 3) := by decide +kernel
theorem dX8_takeTree_94 : decode cX8_takeTree 94 = .ok (.ifCond .eq 7, 3) := by decide +kernel
theorem dX8_takeTree_97 : decode cX8_takeTree 97 = .ok (.iconst 0, 1) := by decide +kernel
theorem dX8_takeTree_98 : decode cX8_takeTree 98 = .ok (.goto 4, 3) := by decide +kernel
theorem dX8_takeTree_101 : decode cX8_takeTree 101 = .ok (.iconst 2, 1) := by decide +kernel
theorem dX8_takeTree_102 : decode cX8_takeTree 102 = .ok (.ireturn, 1) := by decide +kernel
theorem dX8_takeAlone_0 : decode cX8_takeAlone 0 = .ok (.aload_n 0, 1) := by decide +kernel
theorem dX8_takeAlone_1 : decode cX8_takeAlone 1 = .ok (.getfield 14, 3) := by decide +kernel
theorem dX8_takeAlone_4 : decode cX8_takeAlone 4 = .ok (.iload_n 2, 1) := by decide +kernel
theorem dX8_takeAlone_5 : decode cX8_takeAlone 5 = .ok (.invokevirtual 79, 3) := by decide +kernel
theorem dX8_takeAlone_8 : decode cX8_takeAlone 8 = .ok (.istore_n 3, 1) := by decide +kernel
theorem dX8_takeAlone_9 : decode cX8_takeAlone 9 = .ok (.iload_n 3, 1) := by decide +kernel
theorem dX8_takeAlone_10 : decode cX8_takeAlone 10 = .ok (.iconst (-1), 1) := by decide +kernel
theorem dX8_takeAlone_11 : decode cX8_takeAlone 11 = .ok (.if_icmp .ne 5, 3) := by decide +kernel
theorem dX8_takeAlone_14 : decode cX8_takeAlone 14 = .ok (.iconst 1, 1) := by decide +kernel
theorem dX8_takeAlone_15 : decode cX8_takeAlone 15 = .ok (.ireturn, 1) := by decide +kernel
theorem dX8_takeAlone_16 : decode cX8_takeAlone 16 = .ok (.aload_n 1, 1) := by decide +kernel
theorem dX8_takeAlone_17 : decode cX8_takeAlone 17 = .ok (.iload_n 3, 1) := by decide +kernel
theorem dX8_takeAlone_18 : decode cX8_takeAlone 18 = .ok (.invokevirtual 109, 3) := by decide +kernel
theorem dX8_takeAlone_21 : decode cX8_takeAlone 21 = .ok (.ifCond .ne 5, 3) := by decide +kernel
theorem dX8_takeAlone_24 : decode cX8_takeAlone 24 = .ok (.iconst 3, 1) := by decide +kernel
theorem dX8_takeAlone_25 : decode cX8_takeAlone 25 = .ok (.ireturn, 1) := by decide +kernel
theorem dX8_takeAlone_26 : decode cX8_takeAlone 26 = .ok (.aload_n 1, 1) := by decide +kernel
theorem dX8_takeAlone_27 : decode cX8_takeAlone 27 = .ok (.iload_n 3, 1) := by decide +kernel
theorem dX8_takeAlone_28 : decode cX8_takeAlone 28 = .ok (.invokevirtual 113, 3) := by decide +kernel
theorem dX8_takeAlone_31 : decode cX8_takeAlone 31 = .ok (.iconst 0, 1) := by decide +kernel
theorem dX8_takeAlone_32 : decode cX8_takeAlone 32 = .ok (.ireturn, 1) := by decide +kernel
theorem dX8_takeLengths_0 : decode cX8_takeLengths 0 = .ok (.iconst 0, 1) := by decide +kernel
theorem dX8_takeLengths_1 : decode cX8_takeLengths 1 = .ok (.istore 4, 2) := by decide +kernel
theorem dX8_takeLengths_3 : decode cX8_takeLengths 3 = .ok (.iload 4, 2) := by decide +kernel
theorem dX8_takeLengths_5 : decode cX8_takeLengths 5 = .ok (.iload_n 2, 1) := by decide +kernel
theorem dX8_takeLengths_6 : decode cX8_takeLengths 6 = .ok (.if_icmp .ge 78, 3) := by decide +kernel
theorem dX8_takeLengths_9 : decode cX8_takeLengths 9 = .ok (.aload_n 0, 1) := by decide +kernel
theorem dX8_takeLengths_10 : decode cX8_takeLengths 10 = .ok (.getfield 14, 3) := by decide +kernel
theorem dX8_takeLengths_13 : decode cX8_takeLengths 13 = .ok (.invokevirtual 116, 3) := by decide +kernel
theorem dX8_takeLengths_16 : decode cX8_takeLengths 16 = .ok (.istore 5, 2) := by decide +kernel
theorem dX8_takeLengths_18 : decode cX8_takeLengths 18 = .ok (.iload 5, 2) := by decide +kernel
theorem dX8_takeLengths_20 : decode cX8_takeLengths 20 = .ok (.iconst (-1), 1) := by decide +kernel
theorem dX8_takeLengths_21 : decode cX8_takeLengths 21 = .ok (.if_icmp .ne 5, 3) := by decide +kernel
theorem dX8_takeLengths_24 : decode cX8_takeLengths 24 = .ok (.iconst 1, 1) := by decide +kernel
theorem dX8_takeLengths_25 : decode cX8_takeLengths 25 = .ok (.ireturn, 1) := by decide +kernel
theorem dX8_takeLengths_26 : decode cX8_takeLengths 26 = .ok (.iload 5, 2) := by decide +kernel
theorem dX8_takeLengths_28 : decode cX8_takeLengths 28 = .ok (.bipush 16, 2) := by decide +kernel
theorem dX8_takeLengths_30 : decode cX8_takeLengths 30 = .ok (.if_icmp .le 5, 3) := by decide +kernel
theorem dX8_takeLengths_33 : decode cX8_takeLengths 33 = .ok (.iconst 2, 1) := by decide +kernel
theorem dX8_takeLengths_34 : decode cX8_takeLengths 34 = .ok (.ireturn, 1) := by decide +kernel
theorem dX8_takeLengths_35 : decode cX8_takeLengths 35 = .ok (.aload_n 1, 1) := by decide +kernel
theorem dX8_takeLengths_36 : decode cX8_takeLengths 36 = .ok (.iload 4, 2) := by decide +kernel
theorem dX8_takeLengths_38 : decode cX8_takeLengths 38 = .ok (.iload 5, 2) := by decide +kernel
theorem dX8_takeLengths_40 : decode cX8_takeLengths 40 = .ok (.invokevirtual 119, 3) := by decide +kernel
theorem dX8_takeLengths_43 : decode cX8_takeLengths 43 = .ok (.iload_n 3, 1) := by decide +kernel
theorem dX8_takeLengths_44 : decode cX8_takeLengths 44 = .ok (.ifCond .eq 34, 3) := by decide +kernel
theorem dX8_takeLengths_47 : decode cX8_takeLengths 47 = .ok (.iload 4, 2) := by decide +kernel
theorem dX8_takeLengths_49 : decode cX8_takeLengths 49 = .ok (.iconst 2, 1) := by decide +kernel
theorem dX8_takeLengths_50 : decode cX8_takeLengths 50 = .ok (.if_icmp .ne 28, 3) := by decide +kernel
theorem dX8_takeLengths_53 : decode cX8_takeLengths 53 = .ok (.aload_n 0, 1) := by decide +kernel
theorem dX8_takeLengths_54 : decode cX8_takeLengths 54 = .ok (.getfield 14, 3) := by decide +kernel
theorem dX8_takeLengths_57 : decode cX8_takeLengths 57 = .ok (.iconst 2, 1) := by decide +kernel
theorem dX8_takeLengths_58 : decode cX8_takeLengths 58 = .ok (.invokevirtual 79, 3) := by decide +kernel
theorem dX8_takeLengths_61 : decode cX8_takeLengths 61 = .ok (.istore 6, 2) := by decide +kernel
theorem dX8_takeLengths_63 : decode cX8_takeLengths 63 = .ok (.iload 6, 2) := by decide +kernel
theorem dX8_takeLengths_65 : decode cX8_takeLengths 65 = .ok (.iconst (-1), 1) := by decide +kernel
theorem dX8_takeLengths_66 : decode cX8_takeLengths 66 = .ok (.if_icmp .ne 5, 3) := by decide +kernel
theorem dX8_takeLengths_69 : decode cX8_takeLengths 69 = .ok (.iconst 1, 1) := by decide +kernel
theorem dX8_takeLengths_70 : decode cX8_takeLengths 70 = .ok (.ireturn, 1) := by decide +kernel
theorem dX8_takeLengths_71 : decode cX8_takeLengths 71 = .ok (.iload 4, 2) := by decide +kernel
theorem dX8_takeLengths_73 : decode cX8_takeLengths 73 = .ok (.iload 6, 2) := by decide +kernel
theorem dX8_takeLengths_75 : decode cX8_takeLengths 75 = .ok (.iadd, 1) := by decide +kernel
theorem dX8_takeLengths_76 : decode cX8_takeLengths 76 = .ok (.istore 4, 2) := by decide +kernel
theorem dX8_takeLengths_78 : decode cX8_takeLengths 78 = .ok (.iinc 4 1, 3) := by decide +kernel
theorem dX8_takeLengths_81 : decode cX8_takeLengths 81 = .ok (.goto (-78), 3) := by decide +kernel
theorem dX8_takeLengths_84 : decode cX8_takeLengths 84 = .ok (.iconst 0, 1) := by decide +kernel
theorem dX8_takeLengths_85 : decode cX8_takeLengths 85 = .ok (.ireturn, 1) := by decide +kernel
theorem dX8_takeLengthsByT_0 : decode cX8_takeLengthsByT 0 = .ok (.iconst 0, 1) := by decide +kernel
theorem dX8_takeLengthsByT_1 : decode cX8_takeLengthsByT 1 = .ok (.istore_n 2, 1) := by decide +kernel
theorem dX8_takeLengthsByT_2 : decode cX8_takeLengthsByT 2 = .ok (.iconst 0, 1) := by decide +kernel
theorem dX8_takeLengthsByT_3 : decode cX8_takeLengthsByT 3 = .ok (.istore_n 3, 1) := by decide +kernel
theorem dX8_takeLengthsByT_4 : decode cX8_takeLengthsByT 4 = .ok (.iload_n 3, 1) := by decide +kernel
theorem dX8_takeLengthsByT_5 : decode cX8_takeLengthsByT 5 = .ok (.iload_n 1, 1) := by decide +kernel
theorem dX8_takeLengthsByT_6 : decode cX8_takeLengthsByT 6 = .ok (.if_icmp .ge 86, 3) := by decide +kernel
theorem dX8_takeLengthsByT_9 : decode cX8_takeLengthsByT 9 = .ok (.iload_n 2, 1) := by decide +kernel
theorem dX8_takeLengthsByT_10 : decode cX8_takeLengthsByT 10 = .ok (.iload_n 1, 1) := by decide +kernel
theorem dX8_takeLengthsByT_11 : decode cX8_takeLengthsByT 11 = .ok (.if_icmp .ge 81, 3) := by decide +kernel
theorem dX8_takeLengthsByT_14 : decode cX8_takeLengthsByT 14 = .ok (.aload_n 0, 1) := by decide +kernel
theorem dX8_takeLengthsByT_15 : decode cX8_takeLengthsByT 15 = .ok (.getfield 14, 3) := by decide +kernel
theorem dX8_takeLengthsByT_18 : decode cX8_takeLengthsByT 18 = .ok (.aload_n 0, 1) := by decide +kernel
theorem dX8_takeLengthsByT_19 : decode cX8_takeLengthsByT 19 = .ok (.getfield 34, 3) := by decide +kernel
theorem dX8_takeLengthsByT_22 : decode cX8_takeLengthsByT 22 = .ok (.invokevirtual 123, 3) := by decide +kernel
theorem dX8_takeLengthsByT_25 : decode cX8_takeLengthsByT 25 = .ok (.istore 4, 2) := by decide +kernel
theorem dX8_takeLengthsByT_27 : decode cX8_takeLengthsByT 27 = .ok (.iload 4, 2) := by decide +kernel
theorem dX8_takeLengthsByT_29 : decode cX8_takeLengthsByT 29 = .ok (.iconst (-1), 1) := by decide +kernel
theorem dX8_takeLengthsByT_30 : decode cX8_takeLengthsByT 30 = .ok (.if_icmp .ne 5, 3) := by decide +kernel
theorem dX8_takeLengthsByT_33 : decode cX8_takeLengthsByT 33 = .ok (.iconst 1, 1) := by decide +kernel
theorem dX8_takeLengthsByT_34 : decode cX8_takeLengthsByT 34 = .ok (.ireturn, 1) := by decide +kernel
theorem dX8_takeLengthsByT_35 : decode cX8_takeLengthsByT 35 = .ok (.iload 4, 2) := by decide +kernel
theorem dX8_takeLengthsByT_37 : decode cX8_takeLengthsByT 37 = .ok (.iconst 2, 1) := by decide +kernel
theorem dX8_takeLengthsByT_38 : decode cX8_takeLengthsByT 38 = .ok (.if_icmp .le 15, 3) := by decide +kernel
theorem dX8_takeLengthsByT_41 : decode cX8_takeLengthsByT 41 = .ok (.aload_n 0, 1) := by decide +kernel
theorem dX8_takeLengthsByT_42 : decode cX8_takeLengthsByT 42 = .ok (.getfield 38, 3) := by decide +kernel
theorem dX8_takeLengthsByT_45 : decode cX8_takeLengthsByT 45 = .ok (.iload_n 2, 1) := by decide +kernel
theorem dX8_takeLengthsByT_46 : decode cX8_takeLengthsByT 46 = .ok (.iload 4, 2) := by decide +kernel
theorem dX8_takeLengthsByT_48 : decode cX8_takeLengthsByT 48 = .ok (.iconst 2, 1) := by decide +kernel
theorem dX8_takeLengthsByT_49 : decode cX8_takeLengthsByT 49 = .ok (.isub, 1) := by decide +kernel
theorem dX8_takeLengthsByT_50 : decode cX8_takeLengthsByT 50 = .ok (.invokevirtual 119, 3) := by decide +kernel
theorem dX8_takeLengthsByT_53 : decode cX8_takeLengthsByT 53 = .ok (.aload_n 0, 1) := by decide +kernel
theorem dX8_takeLengthsByT_54 : decode cX8_takeLengthsByT 54 = .ok (.getfield 14, 3) := by decide +kernel
theorem dX8_takeLengthsByT_57 : decode cX8_takeLengthsByT 57 = .ok (.iload 4, 2) := by decide +kernel
theorem dX8_takeLengthsByT_59 : decode cX8_takeLengthsByT 59 = .ok (.invokestatic 127, 3) := by decide +kernel
theorem dX8_takeLengthsByT_62 : decode cX8_takeLengthsByT 62 = .ok (.invokevirtual 79, 3) := by decide +kernel
theorem dX8_takeLengthsByT_65 : decode cX8_takeLengthsByT 65 = .ok (.istore 5, 2) := by decide +kernel
theorem dX8_takeLengthsByT_67 : decode cX8_takeLengthsByT 67 = .ok (.iload 5, 2) := by decide +kernel
theorem dX8_takeLengthsByT_69 : decode cX8_takeLengthsByT 69 = .ok (.iconst (-1), 1) := by decide +kernel
theorem dX8_takeLengthsByT_70 : decode cX8_takeLengthsByT 70 = .ok (.if_icmp .ne 5, 3) := by decide +kernel
theorem dX8_takeLengthsByT_73 : decode cX8_takeLengthsByT 73 = .ok (.iconst 1, 1) := by decide +kernel
theorem dX8_takeLengthsByT_74 : decode cX8_takeLengthsByT 74 = .ok (.ireturn, 1) := by decide +kernel
theorem dX8_takeLengthsByT_75 : decode cX8_takeLengthsByT 75 = .ok (.iload_n 2, 1) := by decide +kernel
theorem dX8_takeLengthsByT_76 : decode cX8_takeLengthsByT 76 = .ok (.iload 4, 2) := by decide +kernel
theorem dX8_takeLengthsByT_78 : decode cX8_takeLengthsByT 78 = .ok (.invokestatic 130, 3) := by decide +kernel
theorem dX8_takeLengthsByT_81 : decode cX8_takeLengthsByT 81 = .ok (.iload 5, 2) := by decide +kernel
theorem dX8_takeLengthsByT_83 : decode cX8_takeLengthsByT 83 = .ok (.iadd, 1) := by decide +kernel
theorem dX8_takeLengthsByT_84 : decode cX8_takeLengthsByT 84 = .ok (.iadd, 1) := by decide +kernel
theorem dX8_takeLengthsByT_85 : decode cX8_takeLengthsByT 85 = .ok (.istore_n 2, 1) := by decide +kernel
theorem dX8_takeLengthsByT_86 : decode cX8_takeLengthsByT 86 = .ok (.iinc 3 1, 3) := by decide +kernel
theorem dX8_takeLengthsByT_89 : decode cX8_takeLengthsByT 89 = .ok (.goto (-85), 3) := by decide +kernel
theorem dX8_takeLengthsByT_92 : decode cX8_takeLengthsByT 92 = .ok (.iload_n 2, 1) := by decide +kernel
theorem dX8_takeLengthsByT_93 : decode cX8_takeLengthsByT 93 = .ok (.iload_n 1, 1) := by decide +kernel
theorem dX8_takeLengthsByT_94 : decode cX8_takeLengthsByT 94 = .ok (.if_icmp .le 7, 3) := by decide +kernel
theorem dX8_takeLengthsByT_97 : decode cX8_takeLengthsByT 97 = .ok (.iconst 3, 1) := by decide +kernel
theorem dX8_takeLengthsByT_98 : decode cX8_takeLengthsByT 98 = .ok (.goto 4, 3) := by decide +kernel
theorem dX8_takeLengthsByT_101 : decode cX8_takeLengthsByT 101 = .ok (.iconst 0, 1) := by decide +kernel
theorem dX8_takeLengthsByT_102 : decode cX8_takeLengthsByT 102 = .ok (.ireturn, 1) := by decide +kernel
theorem dX8_unpackCode_0 : decode cX8_unpackCode 0 = .ok (.aload_n 0, 1) := by decide +kernel
theorem dX8_unpackCode_1 : decode cX8_unpackCode 1 = .ok (.getfield 14, 3) := by decide +kernel
theorem dX8_unpackCode_4 : decode cX8_unpackCode 4 = .ok (.aload_n 0, 1) := by decide +kernel
theorem dX8_unpackCode_5 : decode cX8_unpackCode 5 = .ok (.getfield 38, 3) := by decide +kernel
theorem dX8_unpackCode_8 : decode cX8_unpackCode 8 = .ok (.invokevirtual 123, 3) := by decide +kernel
theorem dX8_unpackCode_11 : decode cX8_unpackCode 11 = .ok (.istore_n 1, 1) := by decide +kernel
theorem dX8_unpackCode_12 : decode cX8_unpackCode 12 = .ok (.iload_n 1, 1) := by decide +kernel
theorem dX8_unpackCode_13 : decode cX8_unpackCode 13 = .ok (.iconst (-1), 1) := by decide +kernel
theorem dX8_unpackCode_14 : decode cX8_unpackCode 14 = .ok (.if_icmp .ne 5, 3) := by decide +kernel
theorem dX8_unpackCode_17 : decode cX8_unpackCode 17 = .ok (.iconst 1, 1) := by decide +kernel
theorem dX8_unpackCode_18 : decode cX8_unpackCode 18 = .ok (.ireturn, 1) := by decide +kernel
theorem dX8_unpackCode_19 : decode cX8_unpackCode 19 = .ok (.iload_n 1, 1) := by decide +kernel
theorem dX8_unpackCode_20 : decode cX8_unpackCode 20 = .ok (.sipush 256, 3) := by decide +kernel
theorem dX8_unpackCode_23 : decode cX8_unpackCode 23 = .ok (.if_icmp .ge 20, 3) := by decide +kernel
theorem dX8_unpackCode_26 : decode cX8_unpackCode 26 = .ok (.aload_n 0, 1) := by decide +kernel
theorem dX8_unpackCode_27 : decode cX8_unpackCode 27 = .ok (.getfield 20, 3) := by decide +kernel
theorem dX8_unpackCode_30 : decode cX8_unpackCode 30 = .ok (.iload_n 1, 1) := by decide +kernel
theorem dX8_unpackCode_31 : decode cX8_unpackCode 31 = .ok (.invokevirtual 133, 3) := by decide +kernel
theorem dX8_unpackCode_34 : decode cX8_unpackCode 34 = .ok (.aload_n 0, 1) := by decide +kernel
theorem dX8_unpackCode_35 : decode cX8_unpackCode 35 = .ok (.getfield 24, 3) := by decide +kernel
theorem dX8_unpackCode_38 : decode cX8_unpackCode 38 = .ok (.invokevirtual 136, 3) := by decide +kernel
theorem dX8_unpackCode_41 : decode cX8_unpackCode 41 = .ok (.iconst 0, 1) := by decide +kernel
theorem dX8_unpackCode_42 : decode cX8_unpackCode 42 = .ok (.ireturn, 1) := by decide +kernel
theorem dX8_unpackCode_43 : decode cX8_unpackCode 43 = .ok (.aload_n 0, 1) := by decide +kernel
theorem dX8_unpackCode_44 : decode cX8_unpackCode 44 = .ok (.getfield 14, 3) := by decide +kernel
theorem dX8_unpackCode_47 : decode cX8_unpackCode 47 = .ok (.aload_n 0, 1) := by decide +kernel
theorem dX8_unpackCode_48 : decode cX8_unpackCode 48 = .ok (.getfield 41, 3) := by decide +kernel
theorem dX8_unpackCode_51 : decode cX8_unpackCode 51 = .ok (.invokevirtual 139, 3) := by decide +kernel
theorem dX8_unpackCode_54 : decode cX8_unpackCode 54 = .ok (.istore_n 2, 1) := by decide +kernel
theorem dX8_unpackCode_55 : decode cX8_unpackCode 55 = .ok (.iload_n 2, 1) := by decide +kernel
theorem dX8_unpackCode_56 : decode cX8_unpackCode 56 = .ok (.iconst (-1), 1) := by decide +kernel
theorem dX8_unpackCode_57 : decode cX8_unpackCode 57 = .ok (.if_icmp .ne 5, 3) := by decide +kernel
theorem dX8_unpackCode_60 : decode cX8_unpackCode 60 = .ok (.iconst 1, 1) := by decide +kernel
theorem dX8_unpackCode_61 : decode cX8_unpackCode 61 = .ok (.ireturn, 1) := by decide +kernel
theorem dX8_unpackCode_62 : decode cX8_unpackCode 62 = .ok (.iload_n 2, 1) := by decide +kernel
theorem dX8_unpackCode_63 : decode cX8_unpackCode 63 = .ok (.aload_n 0, 1) := by decide +kernel
theorem dX8_unpackCode_64 : decode cX8_unpackCode 64 = .ok (.getfield 20, 3) := by decide +kernel
theorem dX8_unpackCode_67 : decode cX8_unpackCode 67 = .ok (.invokevirtual 73, 3) := by decide +kernel
theorem dX8_unpackCode_70 : decode cX8_unpackCode 70 = .ok (.if_icmp .le 7, 3) := by decide +kernel
theorem dX8_unpackCode_73 : decode cX8_unpackCode 73 = .ok (.iconst 4, 1) := by decide +kernel
theorem dX8_unpackCode_74 : decode cX8_unpackCode 74 = .ok (.goto 13, 3) := by decide +kernel
theorem dX8_unpackCode_77 : decode cX8_unpackCode 77 = .ok (.aload_n 0, 1) := by decide +kernel
theorem dX8_unpackCode_78 : decode cX8_unpackCode 78 = .ok (.iload_n 1, 1) := by decide +kernel
theorem dX8_unpackCode_79 : decode cX8_unpackCode 79 = .ok (.sipush 253, 3) := by decide +kernel
theorem dX8_unpackCode_82 : decode cX8_unpackCode 82 = .ok (.isub, 1) := by decide +kernel
theorem dX8_unpackCode_83 : decode cX8_unpackCode 83 = .ok (.iload_n 2, 1) := by decide +kernel
theorem dX8_unpackCode_84 : decode cX8_unpackCode 84 = .ok (.invokevirtual 142, 3) := by decide +kernel
theorem dX8_unpackCode_87 : decode cX8_unpackCode 87 = .ok (.ireturn, 1) := by decide +kernel
theorem dX8_copy_0 : decode cX8_copy 0 = .ok (.aload_n 0, 1) := by decide +kernel
theorem dX8_copy_1 : decode cX8_copy 1 = .ok (.getfield 24, 3) := by decide +kernel
theorem dX8_copy_4 : decode cX8_copy 4 = .ok (.invokevirtual 145, 3) := by decide +kernel
theorem dX8_copy_7 : decode cX8_copy 7 = .ok (.aload_n 0, 1) := by decide +kernel
theorem dX8_copy_8 : decode cX8_copy 8 = .ok (.getfield 44, 3) := by decide +kernel
theorem dX8_copy_11 : decode cX8_copy 11 = .ok (.aload_n 0, 1) := by decide +kernel
theorem dX8_copy_12 : decode cX8_copy 12 = .ok (.getfield 20, 3) := by decide +kernel
theorem dX8_copy_15 : decode cX8_copy 15 = .ok (.invokevirtual 73, 3) := by decide +kernel
theorem dX8_copy_18 : decode cX8_copy 18 = .ok (.isub, 1) := by decide +kernel
theorem dX8_copy_19 : decode cX8_copy 19 = .ok (.istore_n 3, 1) := by decide +kernel
theorem dX8_copy_20 : decode cX8_copy 20 = .ok (.iconst 0, 1) := by decide +kernel
theorem dX8_copy_21 : decode cX8_copy 21 = .ok (.istore 4, 2) := by decide +kernel
theorem dX8_copy_23 : decode cX8_copy 23 = .ok (.iload 4, 2) := by decide +kernel
theorem dX8_copy_25 : decode cX8_copy 25 = .ok (.iload_n 1, 1) := by decide +kernel
theorem dX8_copy_26 : decode cX8_copy 26 = .ok (.if_icmp .ge 38, 3) := by decide +kernel
theorem dX8_copy_29 : decode cX8_copy 29 = .ok (.iload 4, 2) := by decide +kernel
theorem dX8_copy_31 : decode cX8_copy 31 = .ok (.iload_n 3, 1) := by decide +kernel
theorem dX8_copy_32 : decode cX8_copy 32 = .ok (.if_icmp .ge 32, 3) := by decide +kernel
theorem dX8_copy_35 : decode cX8_copy 35 = .ok (.aload_n 0, 1) := by decide +kernel
theorem dX8_copy_36 : decode cX8_copy 36 = .ok (.getfield 20, 3) := by decide +kernel
theorem dX8_copy_39 : decode cX8_copy 39 = .ok (.aload_n 0, 1) := by decide +kernel
theorem dX8_copy_40 : decode cX8_copy 40 = .ok (.getfield 20, 3) := by decide +kernel
theorem dX8_copy_43 : decode cX8_copy 43 = .ok (.aload_n 0, 1) := by decide +kernel
theorem dX8_copy_44 : decode cX8_copy 44 = .ok (.getfield 20, 3) := by decide +kernel
theorem dX8_copy_47 : decode cX8_copy 47 = .ok (.invokevirtual 73, 3) := by decide +kernel
theorem dX8_copy_50 : decode cX8_copy 50 = .ok (.iload_n 2, 1) := by decide +kernel
theorem dX8_copy_51 : decode cX8_copy 51 = .ok (.isub, 1) := by decide +kernel
theorem dX8_copy_52 : decode cX8_copy 52 = .ok (.invokevirtual 148, 3) := by decide +kernel
theorem dX8_copy_55 : decode cX8_copy 55 = .ok (.invokevirtual 133, 3) := by decide +kernel
theorem dX8_copy_58 : decode cX8_copy 58 = .ok (.iinc 4 1, 3) := by decide +kernel
theorem dX8_copy_61 : decode cX8_copy 61 = .ok (.goto (-38), 3) := by decide +kernel
theorem dX8_copy_64 : decode cX8_copy 64 = .ok (.iload_n 1, 1) := by decide +kernel
theorem dX8_copy_65 : decode cX8_copy 65 = .ok (.iload_n 3, 1) := by decide +kernel
theorem dX8_copy_66 : decode cX8_copy 66 = .ok (.if_icmp .le 7, 3) := by decide +kernel
theorem dX8_copy_69 : decode cX8_copy 69 = .ok (.iconst 5, 1) := by decide +kernel
theorem dX8_copy_70 : decode cX8_copy 70 = .ok (.goto 4, 3) := by decide +kernel
theorem dX8_copy_73 : decode cX8_copy 73 = .ok (.iconst 0, 1) := by decide +kernel
theorem dX8_copy_74 : decode cX8_copy 74 = .ok (.ireturn, 1) := by decide +kernel
theorem dX9_init_0 : decode cX9_init 0 = .ok (.aload_n 0, 1) := by decide +kernel
theorem dX9_init_1 : decode cX9_init 1 = .ok (.invokespecial 1, 3) := by decide +kernel
theorem dX9_init_4 : decode cX9_init 4 = .ok (.aload_n 0, 1) := by decide +kernel
theorem dX9_init_5 : decode cX9_init 5 = .ok (.new 7, 3) := by decide +kernel
theorem dX9_init_8 : decode cX9_init 8 = .ok (.dup, 1) := by decide +kernel
theorem dX9_init_9 : decode cX9_init 9 = .ok (.sipush 4000, 3) := by decide +kernel
theorem dX9_init_12 : decode cX9_init 12 = .ok (.invokespecial 11, 3) := by decide +kernel
theorem dX9_init_15 : decode cX9_init 15 = .ok (.putfield 14, 3) := by decide +kernel
theorem dX9_init_18 : decode cX9_init 18 = .ok (.aload_n 0, 1) := by decide +kernel
theorem dX9_init_19 : decode cX9_init 19 = .ok (.new 7, 3) := by decide +kernel
theorem dX9_init_22 : decode cX9_init 22 = .ok (.dup, 1) := by decide +kernel
theorem dX9_init_23 : decode cX9_init 23 = .ok (.sipush 12000, 3) := by decide +kernel
theorem dX9_init_26 : decode cX9_init 26 = .ok (.invokespecial 11, 3) := by decide +kernel
theorem dX9_init_29 : decode cX9_init 29 = .ok (.putfield 18, 3) := by decide +kernel
theorem dX9_init_32 : decode cX9_init 32 = .ok (.aload_n 0, 1) := by decide +kernel
theorem dX9_init_33 : decode cX9_init 33 = .ok (.new 21, 3) := by decide +kernel
theorem dX9_init_36 : decode cX9_init 36 = .ok (.dup, 1) := by decide +kernel
theorem dX9_init_37 : decode cX9_init 37 = .ok (.invokespecial 23, 3) := by decide +kernel
theorem dX9_init_40 : decode cX9_init 40 = .ok (.putfield 24, 3) := by decide +kernel
theorem dX9_init_43 : decode cX9_init 43 = .ok (.aload_n 0, 1) := by decide +kernel
theorem dX9_init_44 : decode cX9_init 44 = .ok (.new 28, 3) := by decide +kernel
theorem dX9_init_47 : decode cX9_init 47 = .ok (.dup, 1) := by decide +kernel
theorem dX9_init_48 : decode cX9_init 48 = .ok (.aload_n 0, 1) := by decide +kernel
theorem dX9_init_49 : decode cX9_init 49 = .ok (.getfield 14, 3) := by decide +kernel
theorem dX9_init_52 : decode cX9_init 52 = .ok (.aload_n 0, 1) := by decide +kernel
theorem dX9_init_53 : decode cX9_init 53 = .ok (.getfield 18, 3) := by decide +kernel
theorem dX9_init_56 : decode cX9_init 56 = .ok (.aload_n 0, 1) := by decide +kernel
theorem dX9_init_57 : decode cX9_init 57 = .ok (.getfield 24, 3) := by decide +kernel
theorem dX9_init_60 : decode cX9_init 60 = .ok (.invokespecial 30, 3) := by decide +kernel
theorem dX9_init_63 : decode cX9_init 63 = .ok (.putfield 33, 3) := by decide +kernel
theorem dX9_init_66 : decode cX9_init 66 = .ok (.aload_n 0, 1) := by decide +kernel
theorem dX9_init_67 : decode cX9_init 67 = .ok (.new 37, 3) := by decide +kernel
theorem dX9_init_70 : decode cX9_init 70 = .ok (.dup, 1) := by decide +kernel
theorem dX9_init_71 : decode cX9_init 71 = .ok (.aload_n 0, 1) := by decide +kernel
theorem dX9_init_72 : decode cX9_init 72 = .ok (.getfield 14, 3) := by decide +kernel
theorem dX9_init_75 : decode cX9_init 75 = .ok (.aload_n 0, 1) := by decide +kernel
theorem dX9_init_76 : decode cX9_init 76 = .ok (.getfield 18, 3) := by decide +kernel
theorem dX9_init_79 : decode cX9_init 79 = .ok (.aload_n 0, 1) := by decide +kernel
theorem dX9_init_80 : decode cX9_init 80 = .ok (.getfield 24, 3) := by decide +kernel
theorem dX9_init_83 : decode cX9_init 83 = .ok (.invokespecial 39, 3) := by decide +kernel
theorem dX9_init_86 : decode cX9_init 86 = .ok (.putfield 40, 3) := by decide +kernel
theorem dX9_init_89 : decode cX9_init 89 = .ok (.return_, 1) := by decide +kernel
theorem dX9_feed_0 : decode cX9_feed 0 = .ok (.aload_n 0, 1) := by decide +kernel
theorem dX9_feed_1 : decode cX9_feed 1 = .ok (.getfield 14, 3) := by decide +kernel
theorem dX9_feed_4 : decode cX9_feed 4 = .ok (.bipush 20, 2) := by decide +kernel
theorem dX9_feed_6 : decode cX9_feed 6 = .ok (.invokevirtual 44, 3) := by decide +kernel
theorem dX9_feed_9 : decode cX9_feed 9 = .ok (.ifCond .ne 5, 3) := by decide +kernel
theorem dX9_feed_12 : decode cX9_feed 12 = .ok (.iconst (-1), 1) := by decide +kernel
theorem dX9_feed_13 : decode cX9_feed 13 = .ok (.ireturn, 1) := by decide +kernel
theorem dX9_feed_14 : decode cX9_feed 14 = .ok (.aload_n 0, 1) := by decide +kernel
theorem dX9_feed_15 : decode cX9_feed 15 = .ok (.getfield 14, 3) := by decide +kernel
theorem dX9_feed_18 : decode cX9_feed 18 = .ok (.iload_n 1, 1) := by decide +kernel
theorem dX9_feed_19 : decode cX9_feed 19 = .ok (.invokevirtual 48, 3) := by decide +kernel
theorem dX9_feed_22 : decode cX9_feed 22 = .ok (.aload_n 0, 1) := by decide +kernel
theorem dX9_feed_23 : decode cX9_feed 23 = .ok (.getfield 14, 3) := by decide +kernel
theorem dX9_feed_26 : decode cX9_feed 26 = .ok (.iload_n 2, 1) := by decide +kernel
theorem dX9_feed_27 : decode cX9_feed 27 = .ok (.invokevirtual 48, 3) := by decide +kernel
theorem dX9_feed_30 : decode cX9_feed 30 = .ok (.aload_n 0, 1) := by decide +kernel
theorem dX9_feed_31 : decode cX9_feed 31 = .ok (.getfield 14, 3) := by decide +kernel
theorem dX9_feed_34 : decode cX9_feed 34 = .ok (.iload_n 3, 1) := by decide +kernel
theorem dX9_feed_35 : decode cX9_feed 35 = .ok (.invokevirtual 48, 3) := by decide +kernel
theorem dX9_feed_38 : decode cX9_feed 38 = .ok (.aload_n 0, 1) := by decide +kernel
theorem dX9_feed_39 : decode cX9_feed 39 = .ok (.getfield 14, 3) := by decide +kernel
theorem dX9_feed_42 : decode cX9_feed 42 = .ok (.iload 4, 2) := by decide +kernel
theorem dX9_feed_44 : decode cX9_feed 44 = .ok (.invokevirtual 48, 3) := by decide +kernel
theorem dX9_feed_47 : decode cX9_feed 47 = .ok (.aload_n 0, 1) := by decide +kernel
theorem dX9_feed_48 : decode cX9_feed 48 = .ok (.getfield 14, 3) := by decide +kernel
theorem dX9_feed_51 : decode cX9_feed 51 = .ok (.iload 5, 2) := by decide +kernel
theorem dX9_feed_53 : decode cX9_feed 53 = .ok (.invokevirtual 48, 3) := by decide +kernel
theorem dX9_feed_56 : decode cX9_feed 56 = .ok (.aload_n 0, 1) := by decide +kernel
theorem dX9_feed_57 : decode cX9_feed 57 = .ok (.getfield 14, 3) := by decide +kernel
theorem dX9_feed_60 : decode cX9_feed 60 = .ok (.invokevirtual 51, 3) := by decide +kernel
theorem dX9_feed_63 : decode cX9_feed 63 = .ok (.ireturn, 1) := by decide +kernel
theorem dX9_fill_0 : decode cX9_fill 0 = .ok (.iload_n 2, 1) := by decide +kernel
theorem dX9_fill_1 : decode cX9_fill 1 = .ok (.ifCond .lt 21, 3) := by decide +kernel
theorem dX9_fill_4 : decode cX9_fill 4 = .ok (.iload_n 1, 1) := by decide +kernel
theorem dX9_fill_5 : decode cX9_fill 5 = .ok (.invokestatic 55, 3) := by decide +kernel
theorem dX9_fill_8 : decode cX9_fill 8 = .ok (.ifCond .eq 14, 3) := by decide +kernel
theorem dX9_fill_11 : decode cX9_fill 11 = .ok (.aload_n 0, 1) := by decide +kernel
theorem dX9_fill_12 : decode cX9_fill 12 = .ok (.getfield 14, 3) := by decide +kernel
theorem dX9_fill_15 : decode cX9_fill 15 = .ok (.iload_n 2, 1) := by decide +kernel
theorem dX9_fill_16 : decode cX9_fill 16 = .ok (.invokevirtual 44, 3) := by decide +kernel
theorem dX9_fill_19 : decode cX9_fill 19 = .ok (.ifCond .ne 5, 3) := by decide +kernel
theorem dX9_fill_22 : decode cX9_fill 22 = .ok (.iconst (-1), 1) := by decide +kernel
theorem dX9_fill_23 : decode cX9_fill 23 = .ok (.ireturn, 1) := by decide +kernel
theorem dX9_fill_24 : decode cX9_fill 24 = .ok (.iconst 0, 1) := by decide +kernel
theorem dX9_fill_25 : decode cX9_fill 25 = .ok (.istore_n 3, 1) := by decide +kernel
end
section
theorem dX9_fill_26 : decode cX9_fill 26 = .ok (.iload_n 3, 1) := by decide +kernel
theorem dX9_fill_27 : decode cX9_fill 27 = .ok (.iload_n 2, 1) := by decide +kernel
theorem dX9_fill_28 : decode cX9_fill 28 = .ok (.if_icmp .ge 17, 3) := by decide +kernel
theorem dX9_fill_31 : decode cX9_fill 31 = .ok (.aload_n 0, 1) := by decide +kernel
theorem dX9_fill_32 : decode cX9_fill 32 = .ok (.getfield 14, 3) := by decide +kernel
theorem dX9_fill_35 : decode cX9_fill 35 = .ok (.iload_n 1, 1) := by decide +kernel
theorem dX9_fill_36 : decode cX9_fill 36 = .ok (.invokevirtual 58, 3) := by decide +kernel
theorem dX9_fill_39 : decode cX9_fill 39 = .ok (.iinc 3 1, 3) := by decide +kernel
theorem dX9_fill_42 : decode cX9_fill 42 = .ok (.goto (-16), 3) := by decide +kernel
theorem dX9_fill_45 : decode cX9_fill 45 = .ok (.aload_n 0, 1) := by decide +kernel
theorem dX9_fill_46 : decode cX9_fill 46 = .ok (.getfield 14, 3) := by decide +kernel
theorem dX9_fill_49 : decode cX9_fill 49 = .ok (.invokevirtual 51, 3) := by decide +kernel
theorem dX9_fill_52 : decode cX9_fill 52 = .ok (.ireturn, 1) := by decide +kernel
theorem dX9_peek_0 : decode cX9_peek 0 = .ok (.aload_n 0, 1) := by decide +kernel
theorem dX9_peek_1 : decode cX9_peek 1 = .ok (.getfield 14, 3) := by decide +kernel
theorem dX9_peek_4 : decode cX9_peek 4 = .ok (.iload_n 1, 1) := by decide +kernel
theorem dX9_peek_5 : decode cX9_peek 5 = .ok (.invokevirtual 61, 3) := by decide +kernel
theorem dX9_peek_8 : decode cX9_peek 8 = .ok (.ireturn, 1) := by decide +kernel
theorem dX9_poke_0 : decode cX9_poke 0 = .ok (.aload_n 0, 1) := by decide +kernel
theorem dX9_poke_1 : decode cX9_poke 1 = .ok (.getfield 14, 3) := by decide +kernel
theorem dX9_poke_4 : decode cX9_poke 4 = .ok (.iload_n 1, 1) := by decide +kernel
theorem dX9_poke_5 : decode cX9_poke 5 = .ok (.invokevirtual 65, 3) := by decide +kernel
theorem dX9_poke_8 : decode cX9_poke 8 = .ok (.ifCond .eq 10, 3) := by decide +kernel
theorem dX9_poke_11 : decode cX9_poke 11 = .ok (.iload_n 2, 1) := by decide +kernel
theorem dX9_poke_12 : decode cX9_poke 12 = .ok (.invokestatic 55, 3) := by decide +kernel
theorem dX9_poke_15 : decode cX9_poke 15 = .ok (.ifCond .ne 5, 3) := by decide +kernel
theorem dX9_poke_18 : decode cX9_poke 18 = .ok (.iconst 0, 1) := by decide +kernel
theorem dX9_poke_19 : decode cX9_poke 19 = .ok (.ireturn, 1) := by decide +kernel
theorem dX9_poke_20 : decode cX9_poke 20 = .ok (.aload_n 0, 1) := by decide +kernel
theorem dX9_poke_21 : decode cX9_poke 21 = .ok (.getfield 14, 3) := by decide +kernel
theorem dX9_poke_24 : decode cX9_poke 24 = .ok (.iload_n 1, 1) := by decide +kernel
theorem dX9_poke_25 : decode cX9_poke 25 = .ok (.iload_n 2, 1) := by decide +kernel
theorem dX9_poke_26 : decode cX9_poke 26 = .ok (.invokevirtual 68, 3) := by decide +kernel
theorem dX9_poke_29 : decode cX9_poke 29 = .ok (.iconst 1, 1) := by decide +kernel
theorem dX9_poke_30 : decode cX9_poke 30 = .ok (.ireturn, 1) := by decide +kernel
theorem dX9_clear_0 : decode cX9_clear 0 = .ok (.aload_n 0, 1) := by decide +kernel
theorem dX9_clear_1 : decode cX9_clear 1 = .ok (.getfield 14, 3) := by decide +kernel
theorem dX9_clear_4 : decode cX9_clear 4 = .ok (.invokevirtual 72, 3) := by decide +kernel
theorem dX9_clear_7 : decode cX9_clear 7 = .ok (.return_, 1) := by decide +kernel
theorem dX9_read_0 : decode cX9_read 0 = .ok (.aload_n 0, 1) := by decide +kernel
theorem dX9_read_1 : decode cX9_read 1 = .ok (.iload_n 1, 1) := by decide +kernel
theorem dX9_read_2 : decode cX9_read 2 = .ok (.invokevirtual 75, 3) := by decide +kernel
theorem dX9_read_5 : decode cX9_read 5 = .ok (.ifCond .eq 14, 3) := by decide +kernel
theorem dX9_read_8 : decode cX9_read 8 = .ok (.iload_n 2, 1) := by decide +kernel
theorem dX9_read_9 : decode cX9_read 9 = .ok (.ifCond .lt 10, 3) := by decide +kernel
theorem dX9_read_12 : decode cX9_read 12 = .ok (.iload_n 2, 1) := by decide +kernel
theorem dX9_read_13 : decode cX9_read 13 = .ok (.sipush 8000, 3) := by decide +kernel
theorem dX9_read_16 : decode cX9_read 16 = .ok (.if_icmp .le 5, 3) := by decide +kernel
theorem dX9_read_19 : decode cX9_read 19 = .ok (.iconst (-1), 1) := by decide +kernel
theorem dX9_read_20 : decode cX9_read 20 = .ok (.ireturn, 1) := by decide +kernel
theorem dX9_read_21 : decode cX9_read 21 = .ok (.aload_n 0, 1) := by decide +kernel
theorem dX9_read_22 : decode cX9_read 22 = .ok (.getfield 33, 3) := by decide +kernel
theorem dX9_read_25 : decode cX9_read 25 = .ok (.iload_n 1, 1) := by decide +kernel
theorem dX9_read_26 : decode cX9_read 26 = .ok (.iload_n 2, 1) := by decide +kernel
theorem dX9_read_27 : decode cX9_read 27 = .ok (.invokevirtual 78, 3) := by decide +kernel
theorem dX9_read_30 : decode cX9_read 30 = .ok (.ireturn, 1) := by decide +kernel
theorem dX9_write_0 : decode cX9_write 0 = .ok (.aload_n 0, 1) := by decide +kernel
theorem dX9_write_1 : decode cX9_write 1 = .ok (.iload_n 1, 1) := by decide +kernel
theorem dX9_write_2 : decode cX9_write 2 = .ok (.invokevirtual 75, 3) := by decide +kernel
theorem dX9_write_5 : decode cX9_write 5 = .ok (.ifCond .ne 5, 3) := by decide +kernel
theorem dX9_write_8 : decode cX9_write 8 = .ok (.iconst (-1), 1) := by decide +kernel
theorem dX9_write_9 : decode cX9_write 9 = .ok (.ireturn, 1) := by decide +kernel
theorem dX9_write_10 : decode cX9_write 10 = .ok (.aload_n 0, 1) := by decide +kernel
theorem dX9_write_11 : decode cX9_write 11 = .ok (.getfield 40, 3) := by decide +kernel
theorem dX9_write_14 : decode cX9_write 14 = .ok (.iload_n 1, 1) := by decide +kernel
theorem dX9_write_15 : decode cX9_write 15 = .ok (.invokevirtual 82, 3) := by decide +kernel
theorem dX9_write_18 : decode cX9_write 18 = .ok (.aload_n 0, 1) := by decide +kernel
theorem dX9_write_19 : decode cX9_write 19 = .ok (.getfield 18, 3) := by decide +kernel
theorem dX9_write_22 : decode cX9_write 22 = .ok (.invokevirtual 51, 3) := by decide +kernel
theorem dX9_write_25 : decode cX9_write 25 = .ok (.ireturn, 1) := by decide +kernel
theorem dX9_back_0 : decode cX9_back 0 = .ok (.aload_n 0, 1) := by decide +kernel
theorem dX9_back_1 : decode cX9_back 1 = .ok (.getfield 18, 3) := by decide +kernel
theorem dX9_back_4 : decode cX9_back 4 = .ok (.invokevirtual 51, 3) := by decide +kernel
theorem dX9_back_7 : decode cX9_back 7 = .ok (.sipush 4000, 3) := by decide +kernel
theorem dX9_back_10 : decode cX9_back 10 = .ok (.if_icmp .le 5, 3) := by decide +kernel
theorem dX9_back_13 : decode cX9_back 13 = .ok (.iconst (-1), 1) := by decide +kernel
theorem dX9_back_14 : decode cX9_back 14 = .ok (.ireturn, 1) := by decide +kernel
theorem dX9_back_15 : decode cX9_back 15 = .ok (.aload_n 0, 1) := by decide +kernel
theorem dX9_back_16 : decode cX9_back 16 = .ok (.getfield 14, 3) := by decide +kernel
theorem dX9_back_19 : decode cX9_back 19 = .ok (.aload_n 0, 1) := by decide +kernel
theorem dX9_back_20 : decode cX9_back 20 = .ok (.getfield 18, 3) := by decide +kernel
theorem dX9_back_23 : decode cX9_back 23 = .ok (.invokevirtual 85, 3) := by decide +kernel
theorem dX9_back_26 : decode cX9_back 26 = .ok (.aload_n 0, 1) := by decide +kernel
theorem dX9_back_27 : decode cX9_back 27 = .ok (.getfield 14, 3) := by decide +kernel
theorem dX9_back_30 : decode cX9_back 30 = .ok (.invokevirtual 51, 3) := by decide +kernel
theorem dX9_back_33 : decode cX9_back 33 = .ok (.ireturn, 1) := by decide +kernel
theorem dX9_made_0 : decode cX9_made 0 = .ok (.aload_n 0, 1) := by decide +kernel
theorem dX9_made_1 : decode cX9_made 1 = .ok (.getfield 18, 3) := by decide +kernel
theorem dX9_made_4 : decode cX9_made 4 = .ok (.invokevirtual 51, 3) := by decide +kernel
theorem dX9_made_7 : decode cX9_made 7 = .ok (.ireturn, 1) := by decide +kernel
theorem dX9_out_0 : decode cX9_out 0 = .ok (.aload_n 0, 1) := by decide +kernel
theorem dX9_out_1 : decode cX9_out 1 = .ok (.getfield 18, 3) := by decide +kernel
theorem dX9_out_4 : decode cX9_out 4 = .ok (.iload_n 1, 1) := by decide +kernel
theorem dX9_out_5 : decode cX9_out 5 = .ok (.invokevirtual 61, 3) := by decide +kernel
theorem dX9_out_8 : decode cX9_out 8 = .ok (.ireturn, 1) := by decide +kernel
theorem dX9_told_0 : decode cX9_told 0 = .ok (.aload_n 0, 1) := by decide +kernel
theorem dX9_told_1 : decode cX9_told 1 = .ok (.getfield 24, 3) := by decide +kernel
theorem dX9_told_4 : decode cX9_told 4 = .ok (.iload_n 1, 1) := by decide +kernel
theorem dX9_told_5 : decode cX9_told 5 = .ok (.invokevirtual 89, 3) := by decide +kernel
theorem dX9_told_8 : decode cX9_told 8 = .ok (.ireturn, 1) := by decide +kernel
theorem dX9_length_0 : decode cX9_length 0 = .ok (.aload_n 0, 1) := by decide +kernel
theorem dX9_length_1 : decode cX9_length 1 = .ok (.getfield 24, 3) := by decide +kernel
theorem dX9_length_4 : decode cX9_length 4 = .ok (.invokevirtual 92, 3) := by decide +kernel
theorem dX9_length_7 : decode cX9_length 7 = .ok (.ifCond .eq 12, 3) := by decide +kernel
theorem dX9_length_10 : decode cX9_length 10 = .ok (.iload_n 1, 1) := by decide +kernel
theorem dX9_length_11 : decode cX9_length 11 = .ok (.ifCond .lt 8, 3) := by decide +kernel
theorem dX9_length_14 : decode cX9_length 14 = .ok (.iload_n 1, 1) := by decide +kernel
theorem dX9_length_15 : decode cX9_length 15 = .ok (.iconst 3, 1) := by decide +kernel
theorem dX9_length_16 : decode cX9_length 16 = .ok (.if_icmp .lt 5, 3) := by decide +kernel
theorem dX9_length_19 : decode cX9_length 19 = .ok (.iconst (-1), 1) := by decide +kernel
theorem dX9_length_20 : decode cX9_length 20 = .ok (.ireturn, 1) := by decide +kernel
theorem dX9_length_21 : decode cX9_length 21 = .ok (.aload_n 0, 1) := by decide +kernel
theorem dX9_length_22 : decode cX9_length 22 = .ok (.getfield 24, 3) := by decide +kernel
theorem dX9_length_25 : decode cX9_length 25 = .ok (.iload_n 1, 1) := by decide +kernel
theorem dX9_length_26 : decode cX9_length 26 = .ok (.invokevirtual 96, 3) := by decide +kernel
theorem dX9_length_29 : decode cX9_length 29 = .ok (.iload_n 2, 1) := by decide +kernel
theorem dX9_length_30 : decode cX9_length 30 = .ok (.invokevirtual 100, 3) := by decide +kernel
theorem dX9_length_33 : decode cX9_length 33 = .ok (.ireturn, 1) := by decide +kernel
theorem dX9_isOnTape_0 : decode cX9_isOnTape 0 = .ok (.iload_n 1, 1) := by decide +kernel
theorem dX9_isOnTape_1 : decode cX9_isOnTape 1 = .ok (.ifCond .lt 18, 3) := by decide +kernel
theorem dX9_isOnTape_4 : decode cX9_isOnTape 4 = .ok (.iload_n 1, 1) := by decide +kernel
theorem dX9_isOnTape_5 : decode cX9_isOnTape 5 = .ok (.aload_n 0, 1) := by decide +kernel
theorem dX9_isOnTape_6 : decode cX9_isOnTape 6 = .ok (.getfield 14, 3) := by decide +kernel
theorem dX9_isOnTape_9 : decode cX9_isOnTape 9 = .ok (.invokevirtual 51, 3) := by decide +kernel
theorem dX9_isOnTape_12 : decode cX9_isOnTape 12 = .ok (.if_icmp .gt 7, 3) := by decide +kernel
theorem dX9_isOnTape_15 : decode cX9_isOnTape 15 = .ok (.iconst 1, 1) := by decide +kernel
theorem dX9_isOnTape_16 : decode cX9_isOnTape 16 = .ok (.goto 4, 3) := by decide +kernel
theorem dX9_isOnTape_19 : decode cX9_isOnTape 19 = .ok (.iconst 0, 1) := by decide +kernel
theorem dX9_isOnTape_20 : decode cX9_isOnTape 20 = .ok (.ireturn, 1) := by decide +kernel
theorem dX9_isByte_0 : decode cX9_isByte 0 = .ok (.iload_n 0, 1) := by decide +kernel
theorem dX9_isByte_1 : decode cX9_isByte 1 = .ok (.ifCond .lt 14, 3) := by decide +kernel
theorem dX9_isByte_4 : decode cX9_isByte 4 = .ok (.iload_n 0, 1) := by decide +kernel
theorem dX9_isByte_5 : decode cX9_isByte 5 = .ok (.sipush 256, 3) := by decide +kernel
theorem dX9_isByte_8 : decode cX9_isByte 8 = .ok (.if_icmp .ge 7, 3) := by decide +kernel
theorem dX9_isByte_11 : decode cX9_isByte 11 = .ok (.iconst 1, 1) := by decide +kernel
theorem dX9_isByte_12 : decode cX9_isByte 12 = .ok (.goto 4, 3) := by decide +kernel
theorem dX9_isByte_15 : decode cX9_isByte 15 = .ok (.iconst 0, 1) := by decide +kernel
theorem dX9_isByte_16 : decode cX9_isByte 16 = .ok (.ireturn, 1) := by decide +kernel
theorem dX9_bitsBehind_0 : decode cX9_bitsBehind 0 = .ok (.iload_n 0, 1) := by decide +kernel
theorem dX9_bitsBehind_1 : decode cX9_bitsBehind 1 = .ok (.iconst 1, 1) := by decide +kernel
theorem dX9_bitsBehind_2 : decode cX9_bitsBehind 2 = .ok (.if_icmp .ne 7, 3) := by decide +kernel
theorem dX9_bitsBehind_5 : decode cX9_bitsBehind 5 = .ok (.iconst 4, 1) := by decide +kernel
theorem dX9_bitsBehind_6 : decode cX9_bitsBehind 6 = .ok (.goto 14, 3) := by decide +kernel
theorem dX9_bitsBehind_9 : decode cX9_bitsBehind 9 = .ok (.iload_n 0, 1) := by decide +kernel
theorem dX9_bitsBehind_10 : decode cX9_bitsBehind 10 = .ok (.iconst 2, 1) := by decide +kernel
theorem dX9_bitsBehind_11 : decode cX9_bitsBehind 11 = .ok (.if_icmp .ne 8, 3) := by decide +kernel
theorem dX9_bitsBehind_14 : decode cX9_bitsBehind 14 = .ok (.bipush 9, 2) := by decide +kernel
theorem dX9_bitsBehind_16 : decode cX9_bitsBehind 16 = .ok (.goto 4, 3) := by decide +kernel
theorem dX9_bitsBehind_19 : decode cX9_bitsBehind 19 = .ok (.iconst 0, 1) := by decide +kernel
theorem dX9_bitsBehind_20 : decode cX9_bitsBehind 20 = .ok (.ireturn, 1) := by decide +kernel
theorem dX9_leastOf_0 : decode cX9_leastOf 0 = .ok (.iload_n 0, 1) := by decide +kernel
theorem dX9_leastOf_1 : decode cX9_leastOf 1 = .ok (.iconst 1, 1) := by decide +kernel
theorem dX9_leastOf_2 : decode cX9_leastOf 2 = .ok (.if_icmp .ne 7, 3) := by decide +kernel
theorem dX9_leastOf_5 : decode cX9_leastOf 5 = .ok (.iconst 3, 1) := by decide +kernel
theorem dX9_leastOf_6 : decode cX9_leastOf 6 = .ok (.goto 14, 3) := by decide +kernel
theorem dX9_leastOf_9 : decode cX9_leastOf 9 = .ok (.iload_n 0, 1) := by decide +kernel
theorem dX9_leastOf_10 : decode cX9_leastOf 10 = .ok (.iconst 2, 1) := by decide +kernel
theorem dX9_leastOf_11 : decode cX9_leastOf 11 = .ok (.if_icmp .ne 8, 3) := by decide +kernel
theorem dX9_leastOf_14 : decode cX9_leastOf 14 = .ok (.bipush 20, 2) := by decide +kernel
theorem dX9_leastOf_16 : decode cX9_leastOf 16 = .ok (.goto 4, 3) := by decide +kernel
theorem dX9_leastOf_19 : decode cX9_leastOf 19 = .ok (.iconst 1, 1) := by decide +kernel
theorem dX9_leastOf_20 : decode cX9_leastOf 20 = .ok (.ireturn, 1) := by decide +kernel
theorem dX10_init_0 : decode cX10_init 0 = .ok (.aload_n 0, 1) := by decide +kernel
theorem dX10_init_1 : decode cX10_init 1 = .ok (.invokespecial 1, 3) := by decide +kernel
theorem dX10_init_4 : decode cX10_init 4 = .ok (.aload_n 0, 1) := by decide +kernel
theorem dX10_init_5 : decode cX10_init 5 = .ok (.sipush 4000, 3) := by decide +kernel
theorem dX10_init_8 : decode cX10_init 8 = .ok (.newarray .int, 2) := by decide +kernel
theorem dX10_init_10 : decode cX10_init 10 = .ok (.putfield 7, 3) := by decide +kernel
theorem dX10_init_13 : decode cX10_init 13 = .ok (.aload_n 0, 1) := by decide +kernel
theorem dX10_init_14 : decode cX10_init 14 = .ok (.sipush 16000, 3) := by decide +kernel
theorem dX10_init_17 : decode cX10_init 17 = .ok (.newarray .int, 2) := by decide +kernel
theorem dX10_init_19 : decode cX10_init 19 = .ok (.putfield 13, 3) := by decide +kernel
theorem dX10_init_22 : decode cX10_init 22 = .ok (.aload_n 0, 1) := by decide +kernel
theorem dX10_init_23 : decode cX10_init 23 = .ok (.sipush 1800, 3) := by decide +kernel
theorem dX10_init_26 : decode cX10_init 26 = .ok (.newarray .int, 2) := by decide +kernel
theorem dX10_init_28 : decode cX10_init 28 = .ok (.putfield 16, 3) := by decide +kernel
theorem dX10_init_31 : decode cX10_init 31 = .ok (.aload_n 0, 1) := by decide +kernel
theorem dX10_init_32 : decode cX10_init 32 = .ok (.sipush 1800, 3) := by decide +kernel
theorem dX10_init_35 : decode cX10_init 35 = .ok (.newarray .int, 2) := by decide +kernel
theorem dX10_init_37 : decode cX10_init 37 = .ok (.putfield 19, 3) := by decide +kernel
theorem dX10_init_40 : decode cX10_init 40 = .ok (.aload_n 0, 1) := by decide +kernel
theorem dX10_init_41 : decode cX10_init 41 = .ok (.iconst 3, 1) := by decide +kernel
theorem dX10_init_42 : decode cX10_init 42 = .ok (.newarray .int, 2) := by decide +kernel
theorem dX10_init_44 : decode cX10_init 44 = .ok (.putfield 22, 3) := by decide +kernel
theorem dX10_init_47 : decode cX10_init 47 = .ok (.aload_n 0, 1) := by decide +kernel
theorem dX10_init_48 : decode cX10_init 48 = .ok (.sipush 4000, 3) := by decide +kernel
theorem dX10_init_51 : decode cX10_init 51 = .ok (.newarray .int, 2) := by decide +kernel
theorem dX10_init_53 : decode cX10_init 53 = .ok (.putfield 25, 3) := by decide +kernel
theorem dX10_init_56 : decode cX10_init 56 = .ok (.aload_n 0, 1) := by decide +kernel
theorem dX10_init_57 : decode cX10_init 57 = .ok (.sipush 4000, 3) := by decide +kernel
theorem dX10_init_60 : decode cX10_init 60 = .ok (.newarray .int, 2) := by decide +kernel
theorem dX10_init_62 : decode cX10_init 62 = .ok (.putfield 28, 3) := by decide +kernel
theorem dX10_init_65 : decode cX10_init 65 = .ok (.aload_n 0, 1) := by decide +kernel
theorem dX10_init_66 : decode cX10_init 66 = .ok (.sipush 1200, 3) := by decide +kernel
theorem dX10_init_69 : decode cX10_init 69 = .ok (.newarray .int, 2) := by decide +kernel
theorem dX10_init_71 : decode cX10_init 71 = .ok (.putfield 31, 3) := by decide +kernel
theorem dX10_init_74 : decode cX10_init 74 = .ok (.aload_n 0, 1) := by decide +kernel
theorem dX10_init_75 : decode cX10_init 75 = .ok (.sipush 1200, 3) := by decide +kernel
theorem dX10_init_78 : decode cX10_init 78 = .ok (.newarray .int, 2) := by decide +kernel
theorem dX10_init_80 : decode cX10_init 80 = .ok (.putfield 34, 3) := by decide +kernel
theorem dX10_init_83 : decode cX10_init 83 = .ok (.aload_n 0, 1) := by decide +kernel
theorem dX10_init_84 : decode cX10_init 84 = .ok (.sipush 1200, 3) := by decide +kernel
theorem dX10_init_87 : decode cX10_init 87 = .ok (.newarray .boolean, 2) := by decide +kernel
theorem dX10_init_89 : decode cX10_init 89 = .ok (.putfield 37, 3) := by decide +kernel
theorem dX10_init_92 : decode cX10_init 92 = .ok (.aload_n 0, 1) := by decide +kernel
theorem dX10_init_93 : decode cX10_init 93 = .ok (.sipush 600, 3) := by decide +kernel
theorem dX10_init_96 : decode cX10_init 96 = .ok (.newarray .int, 2) := by decide +kernel
theorem dX10_init_98 : decode cX10_init 98 = .ok (.putfield 41, 3) := by decide +kernel
theorem dX10_init_101 : decode cX10_init 101 = .ok (.aload_n 0, 1) := by decide +kernel
theorem dX10_init_102 : decode cX10_init 102 = .ok (.sipush 1200, 3) := by decide +kernel
theorem dX10_init_105 : decode cX10_init 105 = .ok (.newarray .int, 2) := by decide +kernel
theorem dX10_init_107 : decode cX10_init 107 = .ok (.putfield 44, 3) := by decide +kernel
theorem dX10_init_110 : decode cX10_init 110 = .ok (.aload_n 0, 1) := by decide +kernel
theorem dX10_init_111 : decode cX10_init 111 = .ok (.sipush 1200, 3) := by decide +kernel
theorem dX10_init_114 : decode cX10_init 114 = .ok (.newarray .int, 2) := by decide +kernel
theorem dX10_init_116 : decode cX10_init 116 = .ok (.putfield 47, 3) := by decide +kernel
theorem dX10_init_119 : decode cX10_init 119 = .ok (.return_, 1) := by decide +kernel
theorem dX10_feed_0 : decode cX10_feed 0 = .ok (.aload_n 0, 1) := by decide +kernel
theorem dX10_feed_1 : decode cX10_feed 1 = .ok (.getfield 50, 3) := by decide +kernel
theorem dX10_feed_4 : decode cX10_feed 4 = .ok (.bipush 20, 2) := by decide +kernel
theorem dX10_feed_6 : decode cX10_feed 6 = .ok (.iadd, 1) := by decide +kernel
theorem dX10_feed_7 : decode cX10_feed 7 = .ok (.sipush 4000, 3) := by decide +kernel
theorem dX10_feed_10 : decode cX10_feed 10 = .ok (.if_icmp .le 5, 3) := by decide +kernel
theorem dX10_feed_13 : decode cX10_feed 13 = .ok (.iconst (-1), 1) := by decide +kernel
theorem dX10_feed_14 : decode cX10_feed 14 = .ok (.ireturn, 1) := by decide +kernel
theorem dX10_feed_15 : decode cX10_feed 15 = .ok (.iconst 0, 1) := by decide +kernel
theorem dX10_feed_16 : decode cX10_feed 16 = .ok (.istore 6, 2) := by decide +kernel
theorem dX10_feed_18 : decode cX10_feed 18 = .ok (.iload 6, 2) := by decide +kernel
theorem dX10_feed_20 : decode cX10_feed 20 = .ok (.bipush 20, 2) := by decide +kernel
theorem dX10_feed_22 : decode cX10_feed 22 = .ok (.if_icmp .ge 93, 3) := by decide +kernel
theorem dX10_feed_25 : decode cX10_feed 25 = .ok (.iload 6, 2) := by decide +kernel
theorem dX10_feed_27 : decode cX10_feed 27 = .ok (.iconst 4, 1) := by decide +kernel
theorem dX10_feed_28 : decode cX10_feed 28 = .ok (.if_icmp .ge 7, 3) := by decide +kernel
theorem dX10_feed_31 : decode cX10_feed 31 = .ok (.iload_n 1, 1) := by decide +kernel
theorem dX10_feed_32 : decode cX10_feed 32 = .ok (.goto 39, 3) := by decide +kernel
theorem dX10_feed_35 : decode cX10_feed 35 = .ok (.iload 6, 2) := by decide +kernel
theorem dX10_feed_37 : decode cX10_feed 37 = .ok (.bipush 8, 2) := by decide +kernel
theorem dX10_feed_39 : decode cX10_feed 39 = .ok (.if_icmp .ge 7, 3) := by decide +kernel
theorem dX10_feed_42 : decode cX10_feed 42 = .ok (.iload_n 2, 1) := by decide +kernel
theorem dX10_feed_43 : decode cX10_feed 43 = .ok (.goto 28, 3) := by decide +kernel
theorem dX10_feed_46 : decode cX10_feed 46 = .ok (.iload 6, 2) := by decide +kernel
theorem dX10_feed_48 : decode cX10_feed 48 = .ok (.bipush 12, 2) := by decide +kernel
theorem dX10_feed_50 : decode cX10_feed 50 = .ok (.if_icmp .ge 7, 3) := by decide +kernel
theorem dX10_feed_53 : decode cX10_feed 53 = .ok (.iload_n 3, 1) := by decide +kernel
theorem dX10_feed_54 : decode cX10_feed 54 = .ok (.goto 17, 3) := by decide +kernel
theorem dX10_feed_57 : decode cX10_feed 57 = .ok (.iload 6, 2) := by decide +kernel
theorem dX10_feed_59 : decode cX10_feed 59 = .ok (.bipush 16, 2) := by decide +kernel
theorem dX10_feed_61 : decode cX10_feed 61 = .ok (.if_icmp .ge 8, 3) := by decide +kernel
theorem dX10_feed_64 : decode cX10_feed 64 = .ok (.iload 4, 2) := by decide +kernel
theorem dX10_feed_66 : decode cX10_feed 66 = .ok (.goto 5, 3) := by decide +kernel
theorem dX10_feed_69 : decode cX10_feed 69 = .ok (.iload 5, 2) := by decide +kernel
theorem dX10_feed_71 : decode cX10_feed 71 = .ok (.istore 7, 2) := by decide +kernel
theorem dX10_feed_73 : decode cX10_feed 73 = .ok (.aload_n 0, 1) := by decide +kernel
theorem dX10_feed_74 : decode cX10_feed 74 = .ok (.getfield 7, 3) := by decide +kernel
theorem dX10_feed_77 : decode cX10_feed 77 = .ok (.aload_n 0, 1) := by decide +kernel
theorem dX10_feed_78 : decode cX10_feed 78 = .ok (.getfield 50, 3) := by decide +kernel
theorem dX10_feed_81 : decode cX10_feed 81 = .ok (.iload 7, 2) := by decide +kernel
theorem dX10_feed_83 : decode cX10_feed 83 = .ok (.bipush 24, 2) := by decide +kernel
theorem dX10_feed_85 : decode cX10_feed 85 = .ok (.bipush 8, 2) := by decide +kernel
theorem dX10_feed_87 : decode cX10_feed 87 = .ok (.iload 6, 2) := by decide +kernel
theorem dX10_feed_89 : decode cX10_feed 89 = .ok (.iconst 4, 1) := by decide +kernel
theorem dX10_feed_90 : decode cX10_feed 90 = .ok (.irem, 1) := by decide +kernel
theorem dX10_feed_91 : decode cX10_feed 91 = .ok (.imul, 1) := by decide +kernel
theorem dX10_feed_92 : decode cX10_feed 92 = .ok (.isub, 1) := by decide +kernel
theorem dX10_feed_93 : decode cX10_feed 93 = .ok (.ishr, 1) := by decide +kernel
theorem dX10_feed_94 : decode cX10_feed 94 = .ok (.sipush 255, 3) := by decide +kernel
theorem dX10_feed_97 : decode cX10_feed 97 = .ok (.iand, 1) := by decide +kernel
theorem dX10_feed_98 : decode cX10_feed 98 = .ok (.iastore, 1) := by decide +kernel
theorem dX10_feed_99 : decode cX10_feed 99 = .ok (.aload_n 0, 1) := by decide +kernel
theorem dX10_feed_100 : decode cX10_feed 100 = .ok (.dup, 1) := by decide +kernel
theorem dX10_feed_101 : decode cX10_feed 101 = .ok (.getfield 50, 3) := by decide +kernel
theorem dX10_feed_104 : decode cX10_feed 104 = .ok (.iconst 1, 1) := by decide +kernel
theorem dX10_feed_105 : decode cX10_feed 105 = .ok (.iadd, 1) := by decide +kernel
theorem dX10_feed_106 : decode cX10_feed 106 = .ok (.putfield 50, 3) := by decide +kernel
theorem dX10_feed_109 : decode cX10_feed 109 = .ok (.iinc 6 1, 3) := by decide +kernel
theorem dX10_feed_112 : decode cX10_feed 112 = .ok (.goto (-94), 3) := by decide +kernel
theorem dX10_feed_115 : decode cX10_feed 115 = .ok (.aload_n 0, 1) := by decide +kernel
theorem dX10_feed_116 : decode cX10_feed 116 = .ok (.getfield 50, 3) := by decide +kernel
theorem dX10_feed_119 : decode cX10_feed 119 = .ok (.ireturn, 1) := by decide +kernel
theorem dX10_fill_0 : decode cX10_fill 0 = .ok (.iload_n 2, 1) := by decide +kernel
theorem dX10_fill_1 : decode cX10_fill 1 = .ok (.ifCond .lt 26, 3) := by decide +kernel
theorem dX10_fill_4 : decode cX10_fill 4 = .ok (.iload_n 2, 1) := by decide +kernel
theorem dX10_fill_5 : decode cX10_fill 5 = .ok (.sipush 4000, 3) := by decide +kernel
theorem dX10_fill_8 : decode cX10_fill 8 = .ok (.aload_n 0, 1) := by decide +kernel
theorem dX10_fill_9 : decode cX10_fill 9 = .ok (.getfield 50, 3) := by decide +kernel
theorem dX10_fill_12 : decode cX10_fill 12 = .ok (.isub, 1) := by decide +kernel
theorem dX10_fill_13 : decode cX10_fill 13 = .ok (.if_icmp .gt 14, 3) := by decide +kernel
theorem dX10_fill_16 : decode cX10_fill 16 = .ok (.iload_n 1, 1) := by decide +kernel
theorem dX10_fill_17 : decode cX10_fill 17 = .ok (.ifCond .lt 10, 3) := by decide +kernel
theorem dX10_fill_20 : decode cX10_fill 20 = .ok (.iload_n 1, 1) := by decide +kernel
theorem dX10_fill_21 : decode cX10_fill 21 = .ok (.sipush 255, 3) := by decide +kernel
theorem dX10_fill_24 : decode cX10_fill 24 = .ok (.if_icmp .le 5, 3) := by decide +kernel
theorem dX10_fill_27 : decode cX10_fill 27 = .ok (.iconst (-1), 1) := by decide +kernel
theorem dX10_fill_28 : decode cX10_fill 28 = .ok (.ireturn, 1) := by decide +kernel
theorem dX10_fill_29 : decode cX10_fill 29 = .ok (.iconst 0, 1) := by decide +kernel
theorem dX10_fill_30 : decode cX10_fill 30 = .ok (.istore_n 3, 1) := by decide +kernel
theorem dX10_fill_31 : decode cX10_fill 31 = .ok (.iload_n 3, 1) := by decide +kernel
theorem dX10_fill_32 : decode cX10_fill 32 = .ok (.iload_n 2, 1) := by decide +kernel
theorem dX10_fill_33 : decode cX10_fill 33 = .ok (.if_icmp .ge 29, 3) := by decide +kernel
theorem dX10_fill_36 : decode cX10_fill 36 = .ok (.aload_n 0, 1) := by decide +kernel
theorem dX10_fill_37 : decode cX10_fill 37 = .ok (.getfield 7, 3) := by decide +kernel
theorem dX10_fill_40 : decode cX10_fill 40 = .ok (.aload_n 0, 1) := by decide +kernel
theorem dX10_fill_41 : decode cX10_fill 41 = .ok (.getfield 50, 3) := by decide +kernel
theorem dX10_fill_44 : decode cX10_fill 44 = .ok (.iload_n 1, 1) := by decide +kernel
theorem dX10_fill_45 : decode cX10_fill 45 = .ok (.iastore, 1) := by decide +kernel
theorem dX10_fill_46 : decode cX10_fill 46 = .ok (.aload_n 0, 1) := by decide +kernel
theorem dX10_fill_47 : decode cX10_fill 47 = .ok (.dup, 1) := by decide +kernel
theorem dX10_fill_48 : decode cX10_fill 48 = .ok (.getfield 50, 3) := by decide +kernel
theorem dX10_fill_51 : decode cX10_fill 51 = .ok (.iconst 1, 1) := by decide +kernel
theorem dX10_fill_52 : decode cX10_fill 52 = .ok (.iadd, 1) := by decide +kernel
theorem dX10_fill_53 : decode cX10_fill 53 = .ok (.putfield 50, 3) := by decide +kernel
theorem dX10_fill_56 : decode cX10_fill 56 = .ok (.iinc 3 1, 3) := by decide +kernel
theorem dX10_fill_59 : decode cX10_fill 59 = .ok (.goto (-28), 3) := by decide +kernel
theorem dX10_fill_62 : decode cX10_fill 62 = .ok (.aload_n 0, 1) := by decide +kernel
theorem dX10_fill_63 : decode cX10_fill 63 = .ok (.getfield 50, 3) := by decide +kernel
theorem dX10_fill_66 : decode cX10_fill 66 = .ok (.ireturn, 1) := by decide +kernel
theorem dX10_peek_0 : decode cX10_peek 0 = .ok (.iload_n 1, 1) := by decide +kernel
theorem dX10_peek_1 : decode cX10_peek 1 = .ok (.ifCond .lt 11, 3) := by decide +kernel
theorem dX10_peek_4 : decode cX10_peek 4 = .ok (.iload_n 1, 1) := by decide +kernel
theorem dX10_peek_5 : decode cX10_peek 5 = .ok (.aload_n 0, 1) := by decide +kernel
theorem dX10_peek_6 : decode cX10_peek 6 = .ok (.getfield 50, 3) := by decide +kernel
theorem dX10_peek_9 : decode cX10_peek 9 = .ok (.if_icmp .lt 7, 3) := by decide +kernel
theorem dX10_peek_12 : decode cX10_peek 12 = .ok (.iconst (-1), 1) := by decide +kernel
theorem dX10_peek_13 : decode cX10_peek 13 = .ok (.goto 9, 3) := by decide +kernel
theorem dX10_peek_16 : decode cX10_peek 16 = .ok (.aload_n 0, 1) := by decide +kernel
theorem dX10_peek_17 : decode cX10_peek 17 = .ok (.getfield 7, 3) := by decide +kernel
theorem dX10_peek_20 : decode cX10_peek 20 = .ok (.iload_n 1, 1) := by decide +kernel
theorem dX10_peek_21 : decode cX10_peek 21 = .ok (.iaload, 1) := by decide +kernel
theorem dX10_peek_22 : decode cX10_peek 22 = .ok (.ireturn, 1) := by decide +kernel
theorem dX10_poke_0 : decode cX10_poke 0 = .ok (.iload_n 1, 1) := by decide +kernel
theorem dX10_poke_1 : decode cX10_poke 1 = .ok (.ifCond .lt 22, 3) := by decide +kernel
theorem dX10_poke_4 : decode cX10_poke 4 = .ok (.iload_n 1, 1) := by decide +kernel
theorem dX10_poke_5 : decode cX10_poke 5 = .ok (.aload_n 0, 1) := by decide +kernel
theorem dX10_poke_6 : decode cX10_poke 6 = .ok (.getfield 50, 3) := by decide +kernel
theorem dX10_poke_9 : decode cX10_poke 9 = .ok (.if_icmp .ge 14, 3) := by decide +kernel
theorem dX10_poke_12 : decode cX10_poke 12 = .ok (.iload_n 2, 1) := by decide +kernel
theorem dX10_poke_13 : decode cX10_poke 13 = .ok (.ifCond .lt 10, 3) := by decide +kernel
theorem dX10_poke_16 : decode cX10_poke 16 = .ok (.iload_n 2, 1) := by decide +kernel
theorem dX10_poke_17 : decode cX10_poke 17 = .ok (.sipush 255, 3) := by decide +kernel
theorem dX10_poke_20 : decode cX10_poke 20 = .ok (.if_icmp .le 5, 3) := by decide +kernel
theorem dX10_poke_23 : decode cX10_poke 23 = .ok (.iconst 0, 1) := by decide +kernel
theorem dX10_poke_24 : decode cX10_poke 24 = .ok (.ireturn, 1) := by decide +kernel
theorem dX10_poke_25 : decode cX10_poke 25 = .ok (.aload_n 0, 1) := by decide +kernel
theorem dX10_poke_26 : decode cX10_poke 26 = .ok (.getfield 7, 3) := by decide +kernel
theorem dX10_poke_29 : decode cX10_poke 29 = .ok (.iload_n 1, 1) := by decide +kernel
theorem dX10_poke_30 : decode cX10_poke 30 = .ok (.iload_n 2, 1) := by decide +kernel
theorem dX10_poke_31 : decode cX10_poke 31 = .ok (.iastore, 1) := by decide +kernel
theorem dX10_poke_32 : decode cX10_poke 32 = .ok (.iconst 1, 1) := by decide +kernel
theorem dX10_poke_33 : decode cX10_poke 33 = .ok (.ireturn, 1) := by decide +kernel
theorem dX10_clear_0 : decode cX10_clear 0 = .ok (.aload_n 0, 1) := by decide +kernel
theorem dX10_clear_1 : decode cX10_clear 1 = .ok (.iconst 0, 1) := by decide +kernel
theorem dX10_clear_2 : decode cX10_clear 2 = .ok (.putfield 50, 3) := by decide +kernel
theorem dX10_clear_5 : decode cX10_clear 5 = .ok (.return_, 1) := by decide +kernel
theorem dX10_begin_0 : decode cX10_begin 0 = .ok (.aload_n 0, 1) := by decide +kernel
theorem dX10_begin_1 : decode cX10_begin 1 = .ok (.iconst 0, 1) := by decide +kernel
theorem dX10_begin_2 : decode cX10_begin 2 = .ok (.putfield 54, 3) := by decide +kernel
theorem dX10_begin_5 : decode cX10_begin 5 = .ok (.aload_n 0, 1) := by decide +kernel
theorem dX10_begin_6 : decode cX10_begin 6 = .ok (.iconst 1, 1) := by decide +kernel
theorem dX10_begin_7 : decode cX10_begin 7 = .ok (.putfield 57, 3) := by decide +kernel
theorem dX10_begin_10 : decode cX10_begin 10 = .ok (.aload_n 0, 1) := by decide +kernel
theorem dX10_begin_11 : decode cX10_begin 11 = .ok (.iconst 0, 1) := by decide +kernel
theorem dX10_begin_12 : decode cX10_begin 12 = .ok (.putfield 61, 3) := by decide +kernel
theorem dX10_begin_15 : decode cX10_begin 15 = .ok (.aload_n 0, 1) := by decide +kernel
theorem dX10_begin_16 : decode cX10_begin 16 = .ok (.iconst 0, 1) := by decide +kernel
theorem dX10_begin_17 : decode cX10_begin 17 = .ok (.putfield 64, 3) := by decide +kernel
theorem dX10_begin_20 : decode cX10_begin 20 = .ok (.aload_n 0, 1) := by decide +kernel
theorem dX10_begin_21 : decode cX10_begin 21 = .ok (.iconst 0, 1) := by decide +kernel
theorem dX10_begin_22 : decode cX10_begin 22 = .ok (.putfield 67, 3) := by decide +kernel
theorem dX10_begin_25 : decode cX10_begin 25 = .ok (.aload_n 0, 1) := by decide +kernel
theorem dX10_begin_26 : decode cX10_begin 26 = .ok (.iconst 0, 1) := by decide +kernel
theorem dX10_begin_27 : decode cX10_begin 27 = .ok (.putfield 70, 3) := by decide +kernel
theorem dX10_begin_30 : decode cX10_begin 30 = .ok (.aload_n 0, 1) := by decide +kernel
theorem dX10_begin_31 : decode cX10_begin 31 = .ok (.iconst 0, 1) := by decide +kernel
theorem dX10_begin_32 : decode cX10_begin 32 = .ok (.putfield 73, 3) := by decide +kernel
theorem dX10_begin_35 : decode cX10_begin 35 = .ok (.aload_n 0, 1) := by decide +kernel
theorem dX10_begin_36 : decode cX10_begin 36 = .ok (.invokevirtual 76, 3) := by decide +kernel
theorem dX10_begin_39 : decode cX10_begin 39 = .ok (.return_, 1) := by decide +kernel
theorem dX10_clearTrees_0 : decode cX10_clearTrees 0 = .ok (.iconst 0, 1) := by decide +kernel
theorem dX10_clearTrees_1 : decode cX10_clearTrees 1 = .ok (.istore_n 1, 1) := by decide +kernel
theorem dX10_clearTrees_2 : decode cX10_clearTrees 2 = .ok (.iload_n 1, 1) := by decide +kernel
theorem dX10_clearTrees_3 : decode cX10_clearTrees 3 = .ok (.sipush 1800, 3) := by decide +kernel
theorem dX10_clearTrees_6 : decode cX10_clearTrees 6 = .ok (.if_icmp .ge 16, 3) := by decide +kernel
theorem dX10_clearTrees_9 : decode cX10_clearTrees 9 = .ok (.aload_n 0, 1) := by decide +kernel
theorem dX10_clearTrees_10 : decode cX10_clearTrees 10 = .ok (.getfield 16, 3) := by decide +kernel
theorem dX10_clearTrees_13 : decode cX10_clearTrees 13 = .ok (.iload_n 1, 1) := by decide +kernel
theorem dX10_clearTrees_14 : decode cX10_clearTrees 14 = .ok (.iconst 0, 1) := by decide +kernel
theorem dX10_clearTrees_15 : decode cX10_clearTrees 15 = .ok (.iastore, 1) := by decide +kernel
theorem dX10_clearTrees_16 : decode cX10_clearTrees 16 = .ok (.iinc 1 1, 3) := by decide +kernel
theorem dX10_clearTrees_19 : decode cX10_clearTrees 19 = .ok (.goto (-17), 3) := by decide +kernel
theorem dX10_clearTrees_22 : decode cX10_clearTrees 22 = .ok (.iconst 0, 1) := by decide +kernel
theorem dX10_clearTrees_23 : decode cX10_clearTrees 23 = .ok (.istore_n 1, 1) := by decide +kernel
theorem dX10_clearTrees_24 : decode cX10_clearTrees 24 = .ok (.iload_n 1, 1) := by decide +kernel
theorem dX10_clearTrees_25 : decode cX10_clearTrees 25 = .ok (.iconst 3, 1) := by decide +kernel
theorem dX10_clearTrees_26 : decode cX10_clearTrees 26 = .ok (.if_icmp .ge 16, 3) := by decide +kernel
theorem dX10_clearTrees_29 : decode cX10_clearTrees 29 = .ok (.aload_n 0, 1) := by decide +kernel
theorem dX10_clearTrees_30 : decode cX10_clearTrees 30 = .ok (.getfield 22, 3) := by decide +kernel
theorem dX10_clearTrees_33 : decode cX10_clearTrees 33 = .ok (.iload_n 1, 1) := by decide +kernel
theorem dX10_clearTrees_34 : decode cX10_clearTrees 34 = .ok (.iconst (-1), 1) := by decide +kernel
theorem dX10_clearTrees_35 : decode cX10_clearTrees 35 = .ok (.iastore, 1) := by decide +kernel
theorem dX10_clearTrees_36 : decode cX10_clearTrees 36 = .ok (.iinc 1 1, 3) := by decide +kernel
theorem dX10_clearTrees_39 : decode cX10_clearTrees 39 = .ok (.goto (-15), 3) := by decide +kernel
theorem dX10_clearTrees_42 : decode cX10_clearTrees 42 = .ok (.return_, 1) := by decide +kernel
theorem dX10_symbols_0 : decode cX10_symbols 0 = .ok (.iload_n 0, 1) := by decide +kernel
theorem dX10_symbols_1 : decode cX10_symbols 1 = .ok (.ifCond .ne 8, 3) := by decide +kernel
theorem dX10_symbols_4 : decode cX10_symbols 4 = .ok (.bipush 19, 2) := by decide +kernel
theorem dX10_symbols_6 : decode cX10_symbols 6 = .ok (.goto 16, 3) := by decide +kernel
theorem dX10_symbols_9 : decode cX10_symbols 9 = .ok (.iload_n 0, 1) := by decide +kernel
theorem dX10_symbols_10 : decode cX10_symbols 10 = .ok (.iconst 1, 1) := by decide +kernel
theorem dX10_symbols_11 : decode cX10_symbols 11 = .ok (.if_icmp .ne 9, 3) := by decide +kernel
theorem dX10_symbols_14 : decode cX10_symbols 14 = .ok (.sipush 510, 3) := by decide +kernel
theorem dX10_symbols_17 : decode cX10_symbols 17 = .ok (.goto 5, 3) := by decide +kernel
theorem dX10_symbols_20 : decode cX10_symbols 20 = .ok (.bipush 14, 2) := by decide +kernel
theorem dX10_symbols_22 : decode cX10_symbols 22 = .ok (.ireturn, 1) := by decide +kernel
theorem dX10_number_0 : decode cX10_number 0 = .ok (.iconst 0, 1) := by decide +kernel
theorem dX10_number_1 : decode cX10_number 1 = .ok (.istore_n 2, 1) := by decide +kernel
theorem dX10_number_2 : decode cX10_number 2 = .ok (.iconst 1, 1) := by decide +kernel
theorem dX10_number_3 : decode cX10_number 3 = .ok (.istore_n 3, 1) := by decide +kernel
theorem dX10_number_4 : decode cX10_number 4 = .ok (.iload_n 3, 1) := by decide +kernel
theorem dX10_number_5 : decode cX10_number 5 = .ok (.bipush 16, 2) := by decide +kernel
theorem dX10_number_7 : decode cX10_number 7 = .ok (.if_icmp .gt 65, 3) := by decide +kernel
theorem dX10_number_10 : decode cX10_number 10 = .ok (.iload_n 2, 1) := by decide +kernel
theorem dX10_number_11 : decode cX10_number 11 = .ok (.iconst 1, 1) := by decide +kernel
theorem dX10_number_12 : decode cX10_number 12 = .ok (.ishl, 1) := by decide +kernel
theorem dX10_number_13 : decode cX10_number 13 = .ok (.istore_n 2, 1) := by decide +kernel
theorem dX10_number_14 : decode cX10_number 14 = .ok (.iconst 0, 1) := by decide +kernel
theorem dX10_number_15 : decode cX10_number 15 = .ok (.istore 4, 2) := by decide +kernel
theorem dX10_number_17 : decode cX10_number 17 = .ok (.iload 4, 2) := by decide +kernel
theorem dX10_number_19 : decode cX10_number 19 = .ok (.iload_n 1, 1) := by decide +kernel
theorem dX10_number_20 : decode cX10_number 20 = .ok (.invokestatic 79, 3) := by decide +kernel
theorem dX10_number_23 : decode cX10_number 23 = .ok (.if_icmp .ge 43, 3) := by decide +kernel
theorem dX10_number_26 : decode cX10_number 26 = .ok (.aload_n 0, 1) := by decide +kernel
theorem dX10_number_27 : decode cX10_number 27 = .ok (.getfield 16, 3) := by decide +kernel
theorem dX10_number_30 : decode cX10_number 30 = .ok (.sipush 600, 3) := by decide +kernel
theorem dX10_number_33 : decode cX10_number 33 = .ok (.iload_n 1, 1) := by decide +kernel
theorem dX10_number_34 : decode cX10_number 34 = .ok (.imul, 1) := by decide +kernel
theorem dX10_number_35 : decode cX10_number 35 = .ok (.iload 4, 2) := by decide +kernel
theorem dX10_number_37 : decode cX10_number 37 = .ok (.iadd, 1) := by decide +kernel
theorem dX10_number_38 : decode cX10_number 38 = .ok (.iaload, 1) := by decide +kernel
theorem dX10_number_39 : decode cX10_number 39 = .ok (.iload_n 3, 1) := by decide +kernel
theorem dX10_number_40 : decode cX10_number 40 = .ok (.if_icmp .ne 20, 3) := by decide +kernel
theorem dX10_number_43 : decode cX10_number 43 = .ok (.aload_n 0, 1) := by decide +kernel
theorem dX10_number_44 : decode cX10_number 44 = .ok (.getfield 19, 3) := by decide +kernel
theorem dX10_number_47 : decode cX10_number 47 = .ok (.sipush 600, 3) := by decide +kernel
theorem dX10_number_50 : decode cX10_number 50 = .ok (.iload_n 1, 1) := by decide +kernel
theorem dX10_number_51 : decode cX10_number 51 = .ok (.imul, 1) := by decide +kernel
theorem dX10_number_52 : decode cX10_number 52 = .ok (.iload 4, 2) := by decide +kernel
theorem dX10_number_54 : decode cX10_number 54 = .ok (.iadd, 1) := by decide +kernel
theorem dX10_number_55 : decode cX10_number 55 = .ok (.iload_n 2, 1) := by decide +kernel
theorem dX10_number_56 : decode cX10_number 56 = .ok (.iastore, 1) := by decide +kernel
theorem dX10_number_57 : decode cX10_number 57 = .ok (.iinc 2 1, 3) := by decide +kernel
theorem dX10_number_60 : decode cX10_number 60 = .ok (.iinc 4 1, 3) := by decide +kernel
theorem dX10_number_63 : decode cX10_number 63 = .ok (.goto (-46), 3) := by decide +kernel
theorem dX10_number_66 : decode cX10_number 66 = .ok (.iinc 3 1, 3) := by decide +kernel
theorem dX10_number_69 : decode cX10_number 69 = .ok (.goto (-65), 3) := by decide +kernel
theorem dX10_number_72 : decode cX10_number 72 = .ok (.return_, 1) := by decide +kernel
theorem dX10_fails_0 : decode cX10_fails 0 = .ok (.aload_n 0, 1) := by decide +kernel
theorem dX10_fails_1 : decode cX10_fails 1 = .ok (.aload_n 0, 1) := by decide +kernel
theorem dX10_fails_2 : decode cX10_fails 2 = .ok (.getfield 73, 3) := by decide +kernel
theorem dX10_fails_5 : decode cX10_fails 5 = .ok (.ifCond .ne 7, 3) := by decide +kernel
theorem dX10_fails_8 : decode cX10_fails 8 = .ok (.iload_n 1, 1) := by decide +kernel
theorem dX10_fails_9 : decode cX10_fails 9 = .ok (.goto 7, 3) := by decide +kernel
theorem dX10_fails_12 : decode cX10_fails 12 = .ok (.aload_n 0, 1) := by decide +kernel
theorem dX10_fails_13 : decode cX10_fails 13 = .ok (.getfield 73, 3) := by decide +kernel
theorem dX10_fails_16 : decode cX10_fails 16 = .ok (.putfield 73, 3) := by decide +kernel
theorem dX10_fails_19 : decode cX10_fails 19 = .ok (.return_, 1) := by decide +kernel
theorem dX10_take_0 : decode cX10_take 0 = .ok (.iconst 0, 1) := by decide +kernel
theorem dX10_take_1 : decode cX10_take 1 = .ok (.istore_n 2, 1) := by decide +kernel
theorem dX10_take_2 : decode cX10_take 2 = .ok (.iconst 0, 1) := by decide +kernel
theorem dX10_take_3 : decode cX10_take 3 = .ok (.istore_n 3, 1) := by decide +kernel
theorem dX10_take_4 : decode cX10_take 4 = .ok (.iload_n 3, 1) := by decide +kernel
theorem dX10_take_5 : decode cX10_take 5 = .ok (.iload_n 1, 1) := by decide +kernel
theorem dX10_take_6 : decode cX10_take 6 = .ok (.if_icmp .ge 75, 3) := by decide +kernel
theorem dX10_take_9 : decode cX10_take 9 = .ok (.aload_n 0, 1) := by decide +kernel
theorem dX10_take_10 : decode cX10_take 10 = .ok (.getfield 73, 3) := by decide +kernel
theorem dX10_take_13 : decode cX10_take 13 = .ok (.ifCond .ne 68, 3) := by decide +kernel
theorem dX10_take_16 : decode cX10_take 16 = .ok (.aload_n 0, 1) := by decide +kernel
theorem dX10_take_17 : decode cX10_take 17 = .ok (.getfield 70, 3) := by decide +kernel
theorem dX10_take_20 : decode cX10_take 20 = .ok (.aload_n 0, 1) := by decide +kernel
theorem dX10_take_21 : decode cX10_take 21 = .ok (.getfield 83, 3) := by decide +kernel
theorem dX10_take_24 : decode cX10_take 24 = .ok (.if_icmp .ne 11, 3) := by decide +kernel
theorem dX10_take_27 : decode cX10_take 27 = .ok (.aload_n 0, 1) := by decide +kernel
theorem dX10_take_28 : decode cX10_take 28 = .ok (.iconst 1, 1) := by decide +kernel
theorem dX10_take_29 : decode cX10_take 29 = .ok (.invokevirtual 86, 3) := by decide +kernel
theorem dX10_take_32 : decode cX10_take 32 = .ok (.goto 43, 3) := by decide +kernel
theorem dX10_take_35 : decode cX10_take 35 = .ok (.iload_n 2, 1) := by decide +kernel
theorem dX10_take_36 : decode cX10_take 36 = .ok (.iconst 1, 1) := by decide +kernel
theorem dX10_take_37 : decode cX10_take 37 = .ok (.ishl, 1) := by decide +kernel
theorem dX10_take_38 : decode cX10_take 38 = .ok (.aload_n 0, 1) := by decide +kernel
theorem dX10_take_39 : decode cX10_take 39 = .ok (.getfield 7, 3) := by decide +kernel
theorem dX10_take_42 : decode cX10_take 42 = .ok (.aload_n 0, 1) := by decide +kernel
theorem dX10_take_43 : decode cX10_take 43 = .ok (.getfield 70, 3) := by decide +kernel
theorem dX10_take_46 : decode cX10_take 46 = .ok (.bipush 8, 2) := by decide +kernel
theorem dX10_take_48 : decode cX10_take 48 = .ok (.idiv, 1) := by decide +kernel
theorem dX10_take_49 : decode cX10_take 49 = .ok (.iaload, 1) := by decide +kernel
theorem dX10_take_50 : decode cX10_take 50 = .ok (.bipush 7, 2) := by decide +kernel
theorem dX10_take_52 : decode cX10_take 52 = .ok (.aload_n 0, 1) := by decide +kernel
theorem dX10_take_53 : decode cX10_take 53 = .ok (.getfield 70, 3) := by decide +kernel
theorem dX10_take_56 : decode cX10_take 56 = .ok (.bipush 8, 2) := by decide +kernel
theorem dX10_take_58 : decode cX10_take 58 = .ok (.irem, 1) := by decide +kernel
theorem dX10_take_59 : decode cX10_take 59 = .ok (.isub, 1) := by decide +kernel
theorem dX10_take_60 : decode cX10_take 60 = .ok (.ishr, 1) := by decide +kernel
theorem dX10_take_61 : decode cX10_take 61 = .ok (.iconst 1, 1) := by decide +kernel
theorem dX10_take_62 : decode cX10_take 62 = .ok (.iand, 1) := by decide +kernel
theorem dX10_take_63 : decode cX10_take 63 = .ok (.ior, 1) := by decide +kernel
theorem dX10_take_64 : decode cX10_take 64 = .ok (.istore_n 2, 1) := by decide +kernel
theorem dX10_take_65 : decode cX10_take 65 = .ok (.aload_n 0, 1) := by decide +kernel
theorem dX10_take_66 : decode cX10_take 66 = .ok (.dup, 1) := by decide +kernel
theorem dX10_take_67 : decode cX10_take 67 = .ok (.getfield 70, 3) := by decide +kernel
theorem dX10_take_70 : decode cX10_take 70 = .ok (.iconst 1, 1) := by decide +kernel
theorem dX10_take_71 : decode cX10_take 71 = .ok (.iadd, 1) := by decide +kernel
theorem dX10_take_72 : decode cX10_take 72 = .ok (.putfield 70, 3) := by decide +kernel
theorem dX10_take_75 : decode cX10_take 75 = .ok (.iinc 3 1, 3) := by decide +kernel
theorem dX10_take_78 : decode cX10_take 78 = .ok (.goto (-74), 3) := by decide +kernel
theorem dX10_take_81 : decode cX10_take 81 = .ok (.iload_n 2, 1) := by decide +kernel
theorem dX10_take_82 : decode cX10_take 82 = .ok (.ireturn, 1) := by decide +kernel
theorem dX10_symbol_0 : decode cX10_symbol 0 = .ok (.aload_n 0, 1) := by decide +kernel
theorem dX10_symbol_1 : decode cX10_symbol 1 = .ok (.getfield 22, 3) := by decide +kernel
theorem dX10_symbol_4 : decode cX10_symbol 4 = .ok (.iload_n 1, 1) := by decide +kernel
theorem dX10_symbol_5 : decode cX10_symbol 5 = .ok (.iaload, 1) := by decide +kernel
theorem dX10_symbol_6 : decode cX10_symbol 6 = .ok (.iconst (-1), 1) := by decide +kernel
theorem dX10_symbol_7 : decode cX10_symbol 7 = .ok (.if_icmp .eq 10, 3) := by decide +kernel
theorem dX10_symbol_10 : decode cX10_symbol 10 = .ok (.aload_n 0, 1) := by decide +kernel
theorem dX10_symbol_11 : decode cX10_symbol 11 = .ok (.getfield 22, 3) := by decide +kernel
theorem dX10_symbol_14 : decode cX10_symbol 14 = .ok (.iload_n 1, 1) := by decide +kernel
theorem dX10_symbol_15 : decode cX10_symbol 15 = .ok (.iaload, 1) := by decide +kernel
theorem dX10_symbol_16 : decode cX10_symbol 16 = .ok (.ireturn, 1) := by decide +kernel
theorem dX10_symbol_17 : decode cX10_symbol 17 = .ok (.iconst 0, 1) := by decide +kernel
theorem dX10_symbol_18 : decode cX10_symbol 18 = .ok (.istore_n 2, 1) := by decide +kernel
theorem dX10_symbol_19 : decode cX10_symbol 19 = .ok (.iconst 1, 1) := by decide +kernel
theorem dX10_symbol_20 : decode cX10_symbol 20 = .ok (.istore_n 3, 1) := by decide +kernel
theorem dX10_symbol_21 : decode cX10_symbol 21 = .ok (.iload_n 3, 1) := by decide +kernel
theorem dX10_symbol_22 : decode cX10_symbol 22 = .ok (.bipush 16, 2) := by decide +kernel
theorem dX10_symbol_24 : decode cX10_symbol 24 = .ok (.if_icmp .gt 88, 3) := by decide +kernel
theorem dX10_symbol_27 : decode cX10_symbol 27 = .ok (.aload_n 0, 1) := by decide +kernel
theorem dX10_symbol_28 : decode cX10_symbol 28 = .ok (.getfield 73, 3) := by decide +kernel
theorem dX10_symbol_31 : decode cX10_symbol 31 = .ok (.ifCond .ne 81, 3) := by decide +kernel
theorem dX10_symbol_34 : decode cX10_symbol 34 = .ok (.iload_n 2, 1) := by decide +kernel
theorem dX10_symbol_35 : decode cX10_symbol 35 = .ok (.iconst 1, 1) := by decide +kernel
theorem dX10_symbol_36 : decode cX10_symbol 36 = .ok (.ishl, 1) := by decide +kernel
theorem dX10_symbol_37 : decode cX10_symbol 37 = .ok (.aload_n 0, 1) := by decide +kernel
theorem dX10_symbol_38 : decode cX10_symbol 38 = .ok (.iconst 1, 1) := by decide +kernel
theorem dX10_symbol_39 : decode cX10_symbol 39 = .ok (.invokevirtual 90, 3) := by decide +kernel
theorem dX10_symbol_42 : decode cX10_symbol 42 = .ok (.ior, 1) := by decide +kernel
theorem dX10_symbol_43 : decode cX10_symbol 43 = .ok (.istore_n 2, 1) := by decide +kernel
theorem dX10_symbol_44 : decode cX10_symbol 44 = .ok (.iconst 0, 1) := by decide +kernel
theorem dX10_symbol_45 : decode cX10_symbol 45 = .ok (.istore 4, 2) := by decide +kernel
theorem dX10_symbol_47 : decode cX10_symbol 47 = .ok (.iload 4, 2) := by decide +kernel
theorem dX10_symbol_49 : decode cX10_symbol 49 = .ok (.iload_n 1, 1) := by decide +kernel
theorem dX10_symbol_50 : decode cX10_symbol 50 = .ok (.invokestatic 79, 3) := by decide +kernel
theorem dX10_symbol_53 : decode cX10_symbol 53 = .ok (.if_icmp .ge 53, 3) := by decide +kernel
theorem dX10_symbol_56 : decode cX10_symbol 56 = .ok (.aload_n 0, 1) := by decide +kernel
theorem dX10_symbol_57 : decode cX10_symbol 57 = .ok (.getfield 73, 3) := by decide +kernel
theorem dX10_symbol_60 : decode cX10_symbol 60 = .ok (.ifCond .ne 46, 3) := by decide +kernel
theorem dX10_symbol_63 : decode cX10_symbol 63 = .ok (.aload_n 0, 1) := by decide +kernel
theorem dX10_symbol_64 : decode cX10_symbol 64 = .ok (.getfield 16, 3) := by decide +kernel
theorem dX10_symbol_67 : decode cX10_symbol 67 = .ok (.sipush 600, 3) := by decide +kernel
theorem dX10_symbol_70 : decode cX10_symbol 70 = .ok (.iload_n 1, 1) := by decide +kernel
theorem dX10_symbol_71 : decode cX10_symbol 71 = .ok (.imul, 1) := by decide +kernel
theorem dX10_symbol_72 : decode cX10_symbol 72 = .ok (.iload 4, 2) := by decide +kernel
theorem dX10_symbol_74 : decode cX10_symbol 74 = .ok (.iadd, 1) := by decide +kernel
theorem dX10_symbol_75 : decode cX10_symbol 75 = .ok (.iaload, 1) := by decide +kernel
theorem dX10_symbol_76 : decode cX10_symbol 76 = .ok (.iload_n 3, 1) := by decide +kernel
theorem dX10_symbol_77 : decode cX10_symbol 77 = .ok (.if_icmp .ne 23, 3) := by decide +kernel
theorem dX10_symbol_80 : decode cX10_symbol 80 = .ok (.aload_n 0, 1) := by decide +kernel
theorem dX10_symbol_81 : decode cX10_symbol 81 = .ok (.getfield 19, 3) := by decide +kernel
theorem dX10_symbol_84 : decode cX10_symbol 84 = .ok (.sipush 600, 3) := by decide +kernel
theorem dX10_symbol_87 : decode cX10_symbol 87 = .ok (.iload_n 1, 1) := by decide +kernel
theorem dX10_symbol_88 : decode cX10_symbol 88 = .ok (.imul, 1) := by decide +kernel
theorem dX10_symbol_89 : decode cX10_symbol 89 = .ok (.iload 4, 2) := by decide +kernel
theorem dX10_symbol_91 : decode cX10_symbol 91 = .ok (.iadd, 1) := by decide +kernel
theorem dX10_symbol_92 : decode cX10_symbol 92 = .ok (.iaload, 1) := by decide +kernel
theorem dX10_symbol_93 : decode cX10_symbol 93 = .ok (.iload_n 2, 1) := by decide +kernel
theorem dX10_symbol_94 : decode cX10_symbol 94 = .ok (.if_icmp .ne 6, 3) := by decide +kernel
theorem dX10_symbol_97 : decode cX10_symbol 97 = .ok (.iload 4, 2) := by decide +kernel
theorem dX10_symbol_99 : decode cX10_symbol 99 = .ok (.ireturn, 1) := by decide +kernel
theorem dX10_symbol_100 : decode cX10_symbol 100 = .ok (.iinc 4 1, 3) := by decide +kernel
theorem dX10_symbol_103 : decode cX10_symbol 103 = .ok (.goto (-56), 3) := by decide +kernel
theorem dX10_symbol_106 : decode cX10_symbol 106 = .ok (.iinc 3 1, 3) := by decide +kernel
theorem dX10_symbol_109 : decode cX10_symbol 109 = .ok (.goto (-88), 3) := by decide +kernel
theorem dX10_symbol_112 : decode cX10_symbol 112 = .ok (.iconst 0, 1) := by decide +kernel
theorem dX10_symbol_113 : decode cX10_symbol 113 = .ok (.ireturn, 1) := by decide +kernel
theorem dX10_complete_0 : decode cX10_complete 0 = .ok (.iconst 0, 1) := by decide +kernel
theorem dX10_complete_1 : decode cX10_complete 1 = .ok (.istore_n 2, 1) := by decide +kernel
theorem dX10_complete_2 : decode cX10_complete 2 = .ok (.iconst 0, 1) := by decide +kernel
theorem dX10_complete_3 : decode cX10_complete 3 = .ok (.istore_n 3, 1) := by decide +kernel
theorem dX10_complete_4 : decode cX10_complete 4 = .ok (.iload_n 3, 1) := by decide +kernel
theorem dX10_complete_5 : decode cX10_complete 5 = .ok (.iload_n 1, 1) := by decide +kernel
theorem dX10_complete_6 : decode cX10_complete 6 = .ok (.invokestatic 79, 3) := by decide +kernel
theorem dX10_complete_9 : decode cX10_complete 9 = .ok (.if_icmp .ge 40, 3) := by decide +kernel
theorem dX10_complete_12 : decode cX10_complete 12 = .ok (.aload_n 0, 1) := by decide +kernel
theorem dX10_complete_13 : decode cX10_complete 13 = .ok (.getfield 16, 3) := by decide +kernel
theorem dX10_complete_16 : decode cX10_complete 16 = .ok (.sipush 600, 3) := by decide +kernel
theorem dX10_complete_19 : decode cX10_complete 19 = .ok (.iload_n 1, 1) := by decide +kernel
theorem dX10_complete_20 : decode cX10_complete 20 = .ok (.imul, 1) := by decide +kernel
theorem dX10_complete_21 : decode cX10_complete 21 = .ok (.iload_n 3, 1) := by decide +kernel
theorem dX10_complete_22 : decode cX10_complete 22 = .ok (.iadd, 1) := by decide +kernel
theorem dX10_complete_23 : decode cX10_complete 23 = .ok (.iaload, 1) := by decide +kernel
theorem dX10_complete_24 : decode cX10_complete 24 = .ok (.istore 4, 2) := by decide +kernel
theorem dX10_complete_26 : decode cX10_complete 26 = .ok (.iload_n 2, 1) := by decide +kernel
theorem dX10_complete_27 : decode cX10_complete 27 = .ok (.iload 4, 2) := by decide +kernel
theorem dX10_complete_29 : decode cX10_complete 29 = .ok (.ifCond .ne 7, 3) := by decide +kernel
theorem dX10_complete_32 : decode cX10_complete 32 = .ok (.iconst 0, 1) := by decide +kernel
theorem dX10_complete_33 : decode cX10_complete 33 = .ok (.goto 8, 3) := by decide +kernel
theorem dX10_complete_36 : decode cX10_complete 36 = .ok (.ldc 93, 2) := by decide +kernel
theorem dX10_complete_38 : decode cX10_complete 38 = .ok (.iload 4, 2) := by decide +kernel
theorem dX10_complete_40 : decode cX10_complete 40 = .ok (.ishr, 1) := by decide +kernel
theorem dX10_complete_41 : decode cX10_complete 41 = .ok (.iadd, 1) := by decide +kernel
theorem dX10_complete_42 : decode cX10_complete 42 = .ok (.istore_n 2, 1) := by decide +kernel
theorem dX10_complete_43 : decode cX10_complete 43 = .ok (.iinc 3 1, 3) := by decide +kernel
theorem dX10_complete_46 : decode cX10_complete 46 = .ok (.goto (-42), 3) := by decide +kernel
theorem dX10_complete_49 : decode cX10_complete 49 = .ok (.iload_n 2, 1) := by decide +kernel
theorem dX10_complete_50 : decode cX10_complete 50 = .ok (.ldc 93, 2) := by decide +kernel
theorem dX10_complete_52 : decode cX10_complete 52 = .ok (.if_icmp .eq 8, 3) := by decide +kernel
theorem dX10_complete_55 : decode cX10_complete 55 = .ok (.aload_n 0, 1) := by decide +kernel
theorem dX10_complete_56 : decode cX10_complete 56 = .ok (.iconst 2, 1) := by decide +kernel
theorem dX10_complete_57 : decode cX10_complete 57 = .ok (.invokevirtual 86, 3) := by decide +kernel
theorem dX10_complete_60 : decode cX10_complete 60 = .ok (.aload_n 0, 1) := by decide +kernel
theorem dX10_complete_61 : decode cX10_complete 61 = .ok (.iload_n 1, 1) := by decide +kernel
theorem dX10_complete_62 : decode cX10_complete 62 = .ok (.invokevirtual 94, 3) := by decide +kernel
theorem dX10_complete_65 : decode cX10_complete 65 = .ok (.return_, 1) := by decide +kernel
theorem dX10_many_0 : decode cX10_many 0 = .ok (.aload_n 0, 1) := by decide +kernel
theorem dX10_many_1 : decode cX10_many 1 = .ok (.iload_n 2, 1) := by decide +kernel
theorem dX10_many_2 : decode cX10_many 2 = .ok (.invokevirtual 90, 3) := by decide +kernel
theorem dX10_many_5 : decode cX10_many 5 = .ok (.istore_n 3, 1) := by decide +kernel
theorem dX10_many_6 : decode cX10_many 6 = .ok (.aload_n 0, 1) := by decide +kernel
theorem dX10_many_7 : decode cX10_many 7 = .ok (.getfield 73, 3) := by decide +kernel
theorem dX10_many_10 : decode cX10_many 10 = .ok (.ifCond .ne 36, 3) := by decide +kernel
theorem dX10_many_13 : decode cX10_many 13 = .ok (.iload_n 3, 1) := by decide +kernel
theorem dX10_many_14 : decode cX10_many 14 = .ok (.ifCond .ne 32, 3) := by decide +kernel
theorem dX10_many_17 : decode cX10_many 17 = .ok (.aload_n 0, 1) := by decide +kernel
theorem dX10_many_18 : decode cX10_many 18 = .ok (.iload_n 2, 1) := by decide +kernel
theorem dX10_many_19 : decode cX10_many 19 = .ok (.invokevirtual 90, 3) := by decide +kernel
theorem dX10_many_22 : decode cX10_many 22 = .ok (.istore 4, 2) := by decide +kernel
theorem dX10_many_24 : decode cX10_many 24 = .ok (.iload 4, 2) := by decide +kernel
theorem dX10_many_26 : decode cX10_many 26 = .ok (.iload_n 1, 1) := by decide +kernel
theorem dX10_many_27 : decode cX10_many 27 = .ok (.invokestatic 79, 3) := by decide +kernel
theorem dX10_many_30 : decode cX10_many 30 = .ok (.if_icmp .lt 8, 3) := by decide +kernel
theorem dX10_many_33 : decode cX10_many 33 = .ok (.aload_n 0, 1) := by decide +kernel
theorem dX10_many_34 : decode cX10_many 34 = .ok (.iconst 3, 1) := by decide +kernel
theorem dX10_many_35 : decode cX10_many 35 = .ok (.invokevirtual 86, 3) := by decide +kernel
theorem dX10_many_38 : decode cX10_many 38 = .ok (.aload_n 0, 1) := by decide +kernel
theorem dX10_many_39 : decode cX10_many 39 = .ok (.getfield 22, 3) := by decide +kernel
theorem dX10_many_42 : decode cX10_many 42 = .ok (.iload_n 1, 1) := by decide +kernel
theorem dX10_many_43 : decode cX10_many 43 = .ok (.iload 4, 2) := by decide +kernel
theorem dX10_many_45 : decode cX10_many 45 = .ok (.iastore, 1) := by decide +kernel
theorem dX10_many_46 : decode cX10_many 46 = .ok (.iload_n 3, 1) := by decide +kernel
theorem dX10_many_47 : decode cX10_many 47 = .ok (.iload_n 1, 1) := by decide +kernel
theorem dX10_many_48 : decode cX10_many 48 = .ok (.invokestatic 79, 3) := by decide +kernel
theorem dX10_many_51 : decode cX10_many 51 = .ok (.if_icmp .le 8, 3) := by decide +kernel
theorem dX10_many_54 : decode cX10_many 54 = .ok (.aload_n 0, 1) := by decide +kernel
theorem dX10_many_55 : decode cX10_many 55 = .ok (.iconst 3, 1) := by decide +kernel
theorem dX10_many_56 : decode cX10_many 56 = .ok (.invokevirtual 86, 3) := by decide +kernel
theorem dX10_many_59 : decode cX10_many 59 = .ok (.aload_n 0, 1) := by decide +kernel
theorem dX10_many_60 : decode cX10_many 60 = .ok (.getfield 73, 3) := by decide +kernel
theorem dX10_many_63 : decode cX10_many 63 = .ok (.ifCond .ne 7, 3) := by decide +kernel
theorem dX10_many_66 : decode cX10_many 66 = .ok (.iload_n 3, 1) := by decide +kernel
theorem dX10_many_67 : decode cX10_many 67 = .ok (.goto 4, 3) := by decide +kernel
theorem dX10_many_70 : decode cX10_many 70 = .ok (.iconst 0, 1) := by decide +kernel
theorem dX10_many_71 : decode cX10_many 71 = .ok (.ireturn, 1) := by decide +kernel
theorem dX10_small_0 : decode cX10_small 0 = .ok (.aload_n 0, 1) := by decide +kernel
theorem dX10_small_1 : decode cX10_small 1 = .ok (.iload_n 1, 1) := by decide +kernel
theorem dX10_small_2 : decode cX10_small 2 = .ok (.iload_n 2, 1) := by decide +kernel
theorem dX10_small_3 : decode cX10_small 3 = .ok (.invokevirtual 97, 3) := by decide +kernel
theorem dX10_small_6 : decode cX10_small 6 = .ok (.istore_n 3, 1) := by decide +kernel
theorem dX10_small_7 : decode cX10_small 7 = .ok (.iconst 0, 1) := by decide +kernel
theorem dX10_small_8 : decode cX10_small 8 = .ok (.istore 4, 2) := by decide +kernel
theorem dX10_small_10 : decode cX10_small 10 = .ok (.iload 4, 2) := by decide +kernel
theorem dX10_small_12 : decode cX10_small 12 = .ok (.iload_n 3, 1) := by decide +kernel
theorem dX10_small_13 : decode cX10_small 13 = .ok (.if_icmp .ge 106, 3) := by decide +kernel
theorem dX10_small_16 : decode cX10_small 16 = .ok (.aload_n 0, 1) := by decide +kernel
theorem dX10_small_17 : decode cX10_small 17 = .ok (.getfield 73, 3) := by decide +kernel
theorem dX10_small_20 : decode cX10_small 20 = .ok (.ifCond .ne 99, 3) := by decide +kernel
theorem dX10_small_23 : decode cX10_small 23 = .ok (.aload_n 0, 1) := by decide +kernel
theorem dX10_small_24 : decode cX10_small 24 = .ok (.iconst 3, 1) := by decide +kernel
theorem dX10_small_25 : decode cX10_small 25 = .ok (.invokevirtual 90, 3) := by decide +kernel
theorem dX10_small_28 : decode cX10_small 28 = .ok (.istore 5, 2) := by decide +kernel
theorem dX10_small_30 : decode cX10_small 30 = .ok (.iload 5, 2) := by decide +kernel
theorem dX10_small_32 : decode cX10_small 32 = .ok (.bipush 7, 2) := by decide +kernel
theorem dX10_small_34 : decode cX10_small 34 = .ok (.if_icmp .lt 37, 3) := by decide +kernel
theorem dX10_small_37 : decode cX10_small 37 = .ok (.aload_n 0, 1) := by decide +kernel
theorem dX10_small_38 : decode cX10_small 38 = .ok (.getfield 73, 3) := by decide +kernel
theorem dX10_small_41 : decode cX10_small 41 = .ok (.ifCond .ne 30, 3) := by decide +kernel
theorem dX10_small_44 : decode cX10_small 44 = .ok (.aload_n 0, 1) := by decide +kernel
theorem dX10_small_45 : decode cX10_small 45 = .ok (.iconst 1, 1) := by decide +kernel
theorem dX10_small_46 : decode cX10_small 46 = .ok (.invokevirtual 90, 3) := by decide +kernel
theorem dX10_small_49 : decode cX10_small 49 = .ok (.iconst 1, 1) := by decide +kernel
theorem dX10_small_50 : decode cX10_small 50 = .ok (.if_icmp .ne 21, 3) := by decide +kernel
theorem dX10_small_53 : decode cX10_small 53 = .ok (.iinc 5 1, 3) := by decide +kernel
theorem dX10_small_56 : decode cX10_small 56 = .ok (.iload 5, 2) := by decide +kernel
theorem dX10_small_58 : decode cX10_small 58 = .ok (.bipush 16, 2) := by decide +kernel
theorem dX10_small_60 : decode cX10_small 60 = .ok (.if_icmp .le (-30), 3) := by decide +kernel
theorem dX10_small_63 : decode cX10_small 63 = .ok (.aload_n 0, 1) := by decide +kernel
theorem dX10_small_64 : decode cX10_small 64 = .ok (.iconst 2, 1) := by decide +kernel
theorem dX10_small_65 : decode cX10_small 65 = .ok (.invokevirtual 86, 3) := by decide +kernel
theorem dX10_small_68 : decode cX10_small 68 = .ok (.goto (-38), 3) := by decide +kernel
theorem dX10_small_71 : decode cX10_small 71 = .ok (.aload_n 0, 1) := by decide +kernel
theorem dX10_small_72 : decode cX10_small 72 = .ok (.getfield 73, 3) := by decide +kernel
theorem dX10_small_75 : decode cX10_small 75 = .ok (.ifCond .ne 18, 3) := by decide +kernel
theorem dX10_small_78 : decode cX10_small 78 = .ok (.aload_n 0, 1) := by decide +kernel
theorem dX10_small_79 : decode cX10_small 79 = .ok (.getfield 16, 3) := by decide +kernel
theorem dX10_small_82 : decode cX10_small 82 = .ok (.sipush 600, 3) := by decide +kernel
theorem dX10_small_85 : decode cX10_small 85 = .ok (.iload_n 1, 1) := by decide +kernel
theorem dX10_small_86 : decode cX10_small 86 = .ok (.imul, 1) := by decide +kernel
theorem dX10_small_87 : decode cX10_small 87 = .ok (.iload 4, 2) := by decide +kernel
theorem dX10_small_89 : decode cX10_small 89 = .ok (.iadd, 1) := by decide +kernel
theorem dX10_small_90 : decode cX10_small 90 = .ok (.iload 5, 2) := by decide +kernel
theorem dX10_small_92 : decode cX10_small 92 = .ok (.iastore, 1) := by decide +kernel
theorem dX10_small_93 : decode cX10_small 93 = .ok (.iinc 4 1, 3) := by decide +kernel
theorem dX10_small_96 : decode cX10_small 96 = .ok (.iload_n 1, 1) := by decide +kernel
theorem dX10_small_97 : decode cX10_small 97 = .ok (.ifCond .ne 19, 3) := by decide +kernel
theorem dX10_small_100 : decode cX10_small 100 = .ok (.iload 4, 2) := by decide +kernel
theorem dX10_small_102 : decode cX10_small 102 = .ok (.iconst 3, 1) := by decide +kernel
theorem dX10_small_103 : decode cX10_small 103 = .ok (.if_icmp .ne 13, 3) := by decide +kernel
theorem dX10_small_106 : decode cX10_small 106 = .ok (.iload 4, 2) := by decide +kernel
theorem dX10_small_108 : decode cX10_small 108 = .ok (.aload_n 0, 1) := by decide +kernel
theorem dX10_small_109 : decode cX10_small 109 = .ok (.iconst 2, 1) := by decide +kernel
theorem dX10_small_110 : decode cX10_small 110 = .ok (.invokevirtual 90, 3) := by decide +kernel
theorem dX10_small_113 : decode cX10_small 113 = .ok (.iadd, 1) := by decide +kernel
theorem dX10_small_114 : decode cX10_small 114 = .ok (.istore 4, 2) := by decide +kernel
theorem dX10_small_116 : decode cX10_small 116 = .ok (.goto (-106), 3) := by decide +kernel
theorem dX10_small_119 : decode cX10_small 119 = .ok (.iload_n 3, 1) := by decide +kernel
theorem dX10_small_120 : decode cX10_small 120 = .ok (.ifCond .le 15, 3) := by decide +kernel
theorem dX10_small_123 : decode cX10_small 123 = .ok (.aload_n 0, 1) := by decide +kernel
theorem dX10_small_124 : decode cX10_small 124 = .ok (.getfield 73, 3) := by decide +kernel
theorem dX10_small_127 : decode cX10_small 127 = .ok (.ifCond .ne 8, 3) := by decide +kernel
theorem dX10_small_130 : decode cX10_small 130 = .ok (.aload_n 0, 1) := by decide +kernel
theorem dX10_small_131 : decode cX10_small 131 = .ok (.iload_n 1, 1) := by decide +kernel
theorem dX10_small_132 : decode cX10_small 132 = .ok (.invokevirtual 101, 3) := by decide +kernel
theorem dX10_small_135 : decode cX10_small 135 = .ok (.return_, 1) := by decide +kernel
theorem dX10_great_0 : decode cX10_great 0 = .ok (.aload_n 0, 1) := by decide +kernel
theorem dX10_great_1 : decode cX10_great 1 = .ok (.iconst 1, 1) := by decide +kernel
theorem dX10_great_2 : decode cX10_great 2 = .ok (.bipush 9, 2) := by decide +kernel
theorem dX10_great_4 : decode cX10_great 4 = .ok (.invokevirtual 97, 3) := by decide +kernel
theorem dX10_great_7 : decode cX10_great 7 = .ok (.istore_n 1, 1) := by decide +kernel
theorem dX10_great_8 : decode cX10_great 8 = .ok (.iconst 0, 1) := by decide +kernel
theorem dX10_great_9 : decode cX10_great 9 = .ok (.istore_n 2, 1) := by decide +kernel
theorem dX10_great_10 : decode cX10_great 10 = .ok (.iload_n 2, 1) := by decide +kernel
theorem dX10_great_11 : decode cX10_great 11 = .ok (.iload_n 1, 1) := by decide +kernel
theorem dX10_great_12 : decode cX10_great 12 = .ok (.if_icmp .ge 102, 3) := by decide +kernel
theorem dX10_great_15 : decode cX10_great 15 = .ok (.aload_n 0, 1) := by decide +kernel
theorem dX10_great_16 : decode cX10_great 16 = .ok (.getfield 73, 3) := by decide +kernel
theorem dX10_great_19 : decode cX10_great 19 = .ok (.ifCond .ne 95, 3) := by decide +kernel
theorem dX10_great_22 : decode cX10_great 22 = .ok (.aload_n 0, 1) := by decide +kernel
theorem dX10_great_23 : decode cX10_great 23 = .ok (.iconst 0, 1) := by decide +kernel
theorem dX10_great_24 : decode cX10_great 24 = .ok (.invokevirtual 104, 3) := by decide +kernel
theorem dX10_great_27 : decode cX10_great 27 = .ok (.istore_n 3, 1) := by decide +kernel
theorem dX10_great_28 : decode cX10_great 28 = .ok (.iload_n 3, 1) := by decide +kernel
theorem dX10_great_29 : decode cX10_great 29 = .ok (.iconst 2, 1) := by decide +kernel
theorem dX10_great_30 : decode cX10_great 30 = .ok (.if_icmp .le 29, 3) := by decide +kernel
theorem dX10_great_33 : decode cX10_great 33 = .ok (.aload_n 0, 1) := by decide +kernel
theorem dX10_great_34 : decode cX10_great 34 = .ok (.getfield 73, 3) := by decide +kernel
theorem dX10_great_37 : decode cX10_great 37 = .ok (.ifCond .ne 16, 3) := by decide +kernel
theorem dX10_great_40 : decode cX10_great 40 = .ok (.aload_n 0, 1) := by decide +kernel
theorem dX10_great_41 : decode cX10_great 41 = .ok (.getfield 16, 3) := by decide +kernel
theorem dX10_great_44 : decode cX10_great 44 = .ok (.sipush 600, 3) := by decide +kernel
theorem dX10_great_47 : decode cX10_great 47 = .ok (.iload_n 2, 1) := by decide +kernel
theorem dX10_great_48 : decode cX10_great 48 = .ok (.iadd, 1) := by decide +kernel
theorem dX10_great_49 : decode cX10_great 49 = .ok (.iload_n 3, 1) := by decide +kernel
theorem dX10_great_50 : decode cX10_great 50 = .ok (.iconst 2, 1) := by decide +kernel
theorem dX10_great_51 : decode cX10_great 51 = .ok (.isub, 1) := by decide +kernel
theorem dX10_great_52 : decode cX10_great 52 = .ok (.iastore, 1) := by decide +kernel
theorem dX10_great_53 : decode cX10_great 53 = .ok (.iinc 2 1, 3) := by decide +kernel
theorem dX10_great_56 : decode cX10_great 56 = .ok (.goto 55, 3) := by decide +kernel
theorem dX10_great_59 : decode cX10_great 59 = .ok (.iload_n 2, 1) := by decide +kernel
theorem dX10_great_60 : decode cX10_great 60 = .ok (.iload_n 3, 1) := by decide +kernel
theorem dX10_great_61 : decode cX10_great 61 = .ok (.ifCond .ne 7, 3) := by decide +kernel
theorem dX10_great_64 : decode cX10_great 64 = .ok (.iconst 1, 1) := by decide +kernel
theorem dX10_great_65 : decode cX10_great 65 = .ok (.goto 27, 3) := by decide +kernel
theorem dX10_great_68 : decode cX10_great 68 = .ok (.iload_n 3, 1) := by decide +kernel
theorem dX10_great_69 : decode cX10_great 69 = .ok (.iconst 1, 1) := by decide +kernel
theorem dX10_great_70 : decode cX10_great 70 = .ok (.if_icmp .ne 13, 3) := by decide +kernel
theorem dX10_great_73 : decode cX10_great 73 = .ok (.iconst 3, 1) := by decide +kernel
theorem dX10_great_74 : decode cX10_great 74 = .ok (.aload_n 0, 1) := by decide +kernel
theorem dX10_great_75 : decode cX10_great 75 = .ok (.iconst 4, 1) := by decide +kernel
theorem dX10_great_76 : decode cX10_great 76 = .ok (.invokevirtual 90, 3) := by decide +kernel
theorem dX10_great_79 : decode cX10_great 79 = .ok (.iadd, 1) := by decide +kernel
theorem dX10_great_80 : decode cX10_great 80 = .ok (.goto 12, 3) := by decide +kernel
theorem dX10_great_83 : decode cX10_great 83 = .ok (.bipush 20, 2) := by decide +kernel
theorem dX10_great_85 : decode cX10_great 85 = .ok (.aload_n 0, 1) := by decide +kernel
theorem dX10_great_86 : decode cX10_great 86 = .ok (.bipush 9, 2) := by decide +kernel
theorem dX10_great_88 : decode cX10_great 88 = .ok (.invokevirtual 90, 3) := by decide +kernel
theorem dX10_great_91 : decode cX10_great 91 = .ok (.iadd, 1) := by decide +kernel
theorem dX10_great_92 : decode cX10_great 92 = .ok (.iadd, 1) := by decide +kernel
theorem dX10_great_93 : decode cX10_great 93 = .ok (.istore_n 2, 1) := by decide +kernel
theorem dX10_great_94 : decode cX10_great 94 = .ok (.aload_n 0, 1) := by decide +kernel
theorem dX10_great_95 : decode cX10_great 95 = .ok (.getfield 73, 3) := by decide +kernel
theorem dX10_great_98 : decode cX10_great 98 = .ok (.ifCond .ne 13, 3) := by decide +kernel
theorem dX10_great_101 : decode cX10_great 101 = .ok (.iload_n 2, 1) := by decide +kernel
theorem dX10_great_102 : decode cX10_great 102 = .ok (.iload_n 1, 1) := by decide +kernel
theorem dX10_great_103 : decode cX10_great 103 = .ok (.if_icmp .le 8, 3) := by decide +kernel
theorem dX10_great_106 : decode cX10_great 106 = .ok (.aload_n 0, 1) := by decide +kernel
theorem dX10_great_107 : decode cX10_great 107 = .ok (.iconst 3, 1) := by decide +kernel
theorem dX10_great_108 : decode cX10_great 108 = .ok (.invokevirtual 86, 3) := by decide +kernel
theorem dX10_great_111 : decode cX10_great 111 = .ok (.goto (-101), 3) := by decide +kernel
theorem dX10_great_114 : decode cX10_great 114 = .ok (.iload_n 1, 1) := by decide +kernel
theorem dX10_great_115 : decode cX10_great 115 = .ok (.ifCond .le 15, 3) := by decide +kernel
theorem dX10_great_118 : decode cX10_great 118 = .ok (.aload_n 0, 1) := by decide +kernel
theorem dX10_great_119 : decode cX10_great 119 = .ok (.getfield 73, 3) := by decide +kernel
theorem dX10_great_122 : decode cX10_great 122 = .ok (.ifCond .ne 8, 3) := by decide +kernel
theorem dX10_great_125 : decode cX10_great 125 = .ok (.aload_n 0, 1) := by decide +kernel
end
section
theorem dX10_great_126 : decode cX10_great 126 = .ok (.iconst 1, 1) := by decide +kernel
theorem dX10_great_127 : decode cX10_great 127 = .ok (.invokevirtual 101, 3) := by decide +kernel
theorem dX10_great_130 : decode cX10_great 130 = .ok (.return_, 1) := by decide +kernel
theorem dX10_one_0 : decode cX10_one 0 = .ok (.aload_n 0, 1) := by decide +kernel
theorem dX10_one_1 : decode cX10_one 1 = .ok (.iconst 1, 1) := by decide +kernel
theorem dX10_one_2 : decode cX10_one 2 = .ok (.invokevirtual 104, 3) := by decide +kernel
theorem dX10_one_5 : decode cX10_one 5 = .ok (.istore_n 2, 1) := by decide +kernel
theorem dX10_one_6 : decode cX10_one 6 = .ok (.aload_n 0, 1) := by decide +kernel
theorem dX10_one_7 : decode cX10_one 7 = .ok (.getfield 73, 3) := by decide +kernel
theorem dX10_one_10 : decode cX10_one 10 = .ok (.ifCond .eq 4, 3) := by decide +kernel
theorem dX10_one_13 : decode cX10_one 13 = .ok (.return_, 1) := by decide +kernel
theorem dX10_one_14 : decode cX10_one 14 = .ok (.iload_n 2, 1) := by decide +kernel
theorem dX10_one_15 : decode cX10_one 15 = .ok (.sipush 256, 3) := by decide +kernel
theorem dX10_one_18 : decode cX10_one 18 = .ok (.if_icmp .ge 34, 3) := by decide +kernel
theorem dX10_one_21 : decode cX10_one 21 = .ok (.aload_n 0, 1) := by decide +kernel
theorem dX10_one_22 : decode cX10_one 22 = .ok (.dup, 1) := by decide +kernel
theorem dX10_one_23 : decode cX10_one 23 = .ok (.getfield 64, 3) := by decide +kernel
theorem dX10_one_26 : decode cX10_one 26 = .ok (.iconst 1, 1) := by decide +kernel
theorem dX10_one_27 : decode cX10_one 27 = .ok (.iadd, 1) := by decide +kernel
theorem dX10_one_28 : decode cX10_one 28 = .ok (.putfield 64, 3) := by decide +kernel
theorem dX10_one_31 : decode cX10_one 31 = .ok (.aload_n 0, 1) := by decide +kernel
theorem dX10_one_32 : decode cX10_one 32 = .ok (.getfield 13, 3) := by decide +kernel
theorem dX10_one_35 : decode cX10_one 35 = .ok (.aload_n 0, 1) := by decide +kernel
theorem dX10_one_36 : decode cX10_one 36 = .ok (.getfield 54, 3) := by decide +kernel
theorem dX10_one_39 : decode cX10_one 39 = .ok (.iload_n 2, 1) := by decide +kernel
theorem dX10_one_40 : decode cX10_one 40 = .ok (.iastore, 1) := by decide +kernel
theorem dX10_one_41 : decode cX10_one 41 = .ok (.aload_n 0, 1) := by decide +kernel
theorem dX10_one_42 : decode cX10_one 42 = .ok (.dup, 1) := by decide +kernel
theorem dX10_one_43 : decode cX10_one 43 = .ok (.getfield 54, 3) := by decide +kernel
theorem dX10_one_46 : decode cX10_one 46 = .ok (.iconst 1, 1) := by decide +kernel
theorem dX10_one_47 : decode cX10_one 47 = .ok (.iadd, 1) := by decide +kernel
theorem dX10_one_48 : decode cX10_one 48 = .ok (.putfield 54, 3) := by decide +kernel
theorem dX10_one_51 : decode cX10_one 51 = .ok (.return_, 1) := by decide +kernel
theorem dX10_one_52 : decode cX10_one 52 = .ok (.aload_n 0, 1) := by decide +kernel
theorem dX10_one_53 : decode cX10_one 53 = .ok (.iconst 2, 1) := by decide +kernel
theorem dX10_one_54 : decode cX10_one 54 = .ok (.invokevirtual 104, 3) := by decide +kernel
theorem dX10_one_57 : decode cX10_one 57 = .ok (.istore_n 3, 1) := by decide +kernel
theorem dX10_one_58 : decode cX10_one 58 = .ok (.iload_n 3, 1) := by decide +kernel
theorem dX10_one_59 : decode cX10_one 59 = .ok (.ifCond .ne 7, 3) := by decide +kernel
theorem dX10_one_62 : decode cX10_one 62 = .ok (.iconst 1, 1) := by decide +kernel
theorem dX10_one_63 : decode cX10_one 63 = .ok (.goto 18, 3) := by decide +kernel
theorem dX10_one_66 : decode cX10_one 66 = .ok (.iconst 1, 1) := by decide +kernel
theorem dX10_one_67 : decode cX10_one 67 = .ok (.iload_n 3, 1) := by decide +kernel
theorem dX10_one_68 : decode cX10_one 68 = .ok (.iconst 1, 1) := by decide +kernel
theorem dX10_one_69 : decode cX10_one 69 = .ok (.isub, 1) := by decide +kernel
theorem dX10_one_70 : decode cX10_one 70 = .ok (.ishl, 1) := by decide +kernel
theorem dX10_one_71 : decode cX10_one 71 = .ok (.aload_n 0, 1) := by decide +kernel
theorem dX10_one_72 : decode cX10_one 72 = .ok (.iload_n 3, 1) := by decide +kernel
theorem dX10_one_73 : decode cX10_one 73 = .ok (.iconst 1, 1) := by decide +kernel
theorem dX10_one_74 : decode cX10_one 74 = .ok (.isub, 1) := by decide +kernel
theorem dX10_one_75 : decode cX10_one 75 = .ok (.invokevirtual 90, 3) := by decide +kernel
theorem dX10_one_78 : decode cX10_one 78 = .ok (.iadd, 1) := by decide +kernel
theorem dX10_one_79 : decode cX10_one 79 = .ok (.iconst 1, 1) := by decide +kernel
theorem dX10_one_80 : decode cX10_one 80 = .ok (.iadd, 1) := by decide +kernel
theorem dX10_one_81 : decode cX10_one 81 = .ok (.istore 4, 2) := by decide +kernel
theorem dX10_one_83 : decode cX10_one 83 = .ok (.aload_n 0, 1) := by decide +kernel
theorem dX10_one_84 : decode cX10_one 84 = .ok (.getfield 73, 3) := by decide +kernel
theorem dX10_one_87 : decode cX10_one 87 = .ok (.ifCond .ne 17, 3) := by decide +kernel
theorem dX10_one_90 : decode cX10_one 90 = .ok (.iload 4, 2) := by decide +kernel
theorem dX10_one_92 : decode cX10_one 92 = .ok (.aload_n 0, 1) := by decide +kernel
theorem dX10_one_93 : decode cX10_one 93 = .ok (.getfield 54, 3) := by decide +kernel
theorem dX10_one_96 : decode cX10_one 96 = .ok (.if_icmp .le 8, 3) := by decide +kernel
theorem dX10_one_99 : decode cX10_one 99 = .ok (.aload_n 0, 1) := by decide +kernel
theorem dX10_one_100 : decode cX10_one 100 = .ok (.iconst 4, 1) := by decide +kernel
theorem dX10_one_101 : decode cX10_one 101 = .ok (.invokevirtual 86, 3) := by decide +kernel
theorem dX10_one_104 : decode cX10_one 104 = .ok (.aload_n 0, 1) := by decide +kernel
theorem dX10_one_105 : decode cX10_one 105 = .ok (.getfield 73, 3) := by decide +kernel
theorem dX10_one_108 : decode cX10_one 108 = .ok (.ifCond .eq 4, 3) := by decide +kernel
theorem dX10_one_111 : decode cX10_one 111 = .ok (.return_, 1) := by decide +kernel
theorem dX10_one_112 : decode cX10_one 112 = .ok (.aload_n 0, 1) := by decide +kernel
theorem dX10_one_113 : decode cX10_one 113 = .ok (.dup, 1) := by decide +kernel
theorem dX10_one_114 : decode cX10_one 114 = .ok (.getfield 64, 3) := by decide +kernel
theorem dX10_one_117 : decode cX10_one 117 = .ok (.iconst 1, 1) := by decide +kernel
theorem dX10_one_118 : decode cX10_one 118 = .ok (.iadd, 1) := by decide +kernel
theorem dX10_one_119 : decode cX10_one 119 = .ok (.putfield 64, 3) := by decide +kernel
theorem dX10_one_122 : decode cX10_one 122 = .ok (.aload_n 0, 1) := by decide +kernel
theorem dX10_one_123 : decode cX10_one 123 = .ok (.dup, 1) := by decide +kernel
theorem dX10_one_124 : decode cX10_one 124 = .ok (.getfield 67, 3) := by decide +kernel
theorem dX10_one_127 : decode cX10_one 127 = .ok (.iconst 1, 1) := by decide +kernel
theorem dX10_one_128 : decode cX10_one 128 = .ok (.iadd, 1) := by decide +kernel
theorem dX10_one_129 : decode cX10_one 129 = .ok (.putfield 67, 3) := by decide +kernel
theorem dX10_one_132 : decode cX10_one 132 = .ok (.iconst 0, 1) := by decide +kernel
theorem dX10_one_133 : decode cX10_one 133 = .ok (.istore 5, 2) := by decide +kernel
theorem dX10_one_135 : decode cX10_one 135 = .ok (.iload 5, 2) := by decide +kernel
theorem dX10_one_137 : decode cX10_one 137 = .ok (.iload_n 2, 1) := by decide +kernel
theorem dX10_one_138 : decode cX10_one 138 = .ok (.sipush 253, 3) := by decide +kernel
theorem dX10_one_141 : decode cX10_one 141 = .ok (.isub, 1) := by decide +kernel
theorem dX10_one_142 : decode cX10_one 142 = .ok (.if_icmp .ge 63, 3) := by decide +kernel
theorem dX10_one_145 : decode cX10_one 145 = .ok (.aload_n 0, 1) := by decide +kernel
theorem dX10_one_146 : decode cX10_one 146 = .ok (.getfield 73, 3) := by decide +kernel
theorem dX10_one_149 : decode cX10_one 149 = .ok (.ifCond .ne 56, 3) := by decide +kernel
theorem dX10_one_152 : decode cX10_one 152 = .ok (.aload_n 0, 1) := by decide +kernel
theorem dX10_one_153 : decode cX10_one 153 = .ok (.getfield 54, 3) := by decide +kernel
theorem dX10_one_156 : decode cX10_one 156 = .ok (.iload_n 1, 1) := by decide +kernel
theorem dX10_one_157 : decode cX10_one 157 = .ok (.if_icmp .ne 11, 3) := by decide +kernel
theorem dX10_one_160 : decode cX10_one 160 = .ok (.aload_n 0, 1) := by decide +kernel
theorem dX10_one_161 : decode cX10_one 161 = .ok (.iconst 5, 1) := by decide +kernel
theorem dX10_one_162 : decode cX10_one 162 = .ok (.invokevirtual 86, 3) := by decide +kernel
theorem dX10_one_165 : decode cX10_one 165 = .ok (.goto 34, 3) := by decide +kernel
theorem dX10_one_168 : decode cX10_one 168 = .ok (.aload_n 0, 1) := by decide +kernel
theorem dX10_one_169 : decode cX10_one 169 = .ok (.getfield 13, 3) := by decide +kernel
theorem dX10_one_172 : decode cX10_one 172 = .ok (.aload_n 0, 1) := by decide +kernel
theorem dX10_one_173 : decode cX10_one 173 = .ok (.getfield 54, 3) := by decide +kernel
theorem dX10_one_176 : decode cX10_one 176 = .ok (.aload_n 0, 1) := by decide +kernel
theorem dX10_one_177 : decode cX10_one 177 = .ok (.getfield 13, 3) := by decide +kernel
theorem dX10_one_180 : decode cX10_one 180 = .ok (.aload_n 0, 1) := by decide +kernel
theorem dX10_one_181 : decode cX10_one 181 = .ok (.getfield 54, 3) := by decide +kernel
theorem dX10_one_184 : decode cX10_one 184 = .ok (.iload 4, 2) := by decide +kernel
theorem dX10_one_186 : decode cX10_one 186 = .ok (.isub, 1) := by decide +kernel
theorem dX10_one_187 : decode cX10_one 187 = .ok (.iaload, 1) := by decide +kernel
theorem dX10_one_188 : decode cX10_one 188 = .ok (.iastore, 1) := by decide +kernel
theorem dX10_one_189 : decode cX10_one 189 = .ok (.aload_n 0, 1) := by decide +kernel
theorem dX10_one_190 : decode cX10_one 190 = .ok (.dup, 1) := by decide +kernel
theorem dX10_one_191 : decode cX10_one 191 = .ok (.getfield 54, 3) := by decide +kernel
theorem dX10_one_194 : decode cX10_one 194 = .ok (.iconst 1, 1) := by decide +kernel
theorem dX10_one_195 : decode cX10_one 195 = .ok (.iadd, 1) := by decide +kernel
theorem dX10_one_196 : decode cX10_one 196 = .ok (.putfield 54, 3) := by decide +kernel
theorem dX10_one_199 : decode cX10_one 199 = .ok (.iinc 5 1, 3) := by decide +kernel
theorem dX10_one_202 : decode cX10_one 202 = .ok (.goto (-67), 3) := by decide +kernel
theorem dX10_one_205 : decode cX10_one 205 = .ok (.return_, 1) := by decide +kernel
theorem dX10_read_0 : decode cX10_read 0 = .ok (.iload_n 1, 1) := by decide +kernel
theorem dX10_read_1 : decode cX10_read 1 = .ok (.ifCond .lt 22, 3) := by decide +kernel
theorem dX10_read_4 : decode cX10_read 4 = .ok (.iload_n 1, 1) := by decide +kernel
theorem dX10_read_5 : decode cX10_read 5 = .ok (.aload_n 0, 1) := by decide +kernel
theorem dX10_read_6 : decode cX10_read 6 = .ok (.getfield 50, 3) := by decide +kernel
theorem dX10_read_9 : decode cX10_read 9 = .ok (.if_icmp .gt 14, 3) := by decide +kernel
theorem dX10_read_12 : decode cX10_read 12 = .ok (.iload_n 2, 1) := by decide +kernel
theorem dX10_read_13 : decode cX10_read 13 = .ok (.ifCond .lt 10, 3) := by decide +kernel
theorem dX10_read_16 : decode cX10_read 16 = .ok (.iload_n 2, 1) := by decide +kernel
theorem dX10_read_17 : decode cX10_read 17 = .ok (.sipush 8000, 3) := by decide +kernel
theorem dX10_read_20 : decode cX10_read 20 = .ok (.if_icmp .le 5, 3) := by decide +kernel
theorem dX10_read_23 : decode cX10_read 23 = .ok (.iconst (-1), 1) := by decide +kernel
theorem dX10_read_24 : decode cX10_read 24 = .ok (.ireturn, 1) := by decide +kernel
theorem dX10_read_25 : decode cX10_read 25 = .ok (.aload_n 0, 1) := by decide +kernel
theorem dX10_read_26 : decode cX10_read 26 = .ok (.invokevirtual 107, 3) := by decide +kernel
theorem dX10_read_29 : decode cX10_read 29 = .ok (.aload_n 0, 1) := by decide +kernel
theorem dX10_read_30 : decode cX10_read 30 = .ok (.bipush 8, 2) := by decide +kernel
theorem dX10_read_32 : decode cX10_read 32 = .ok (.iload_n 1, 1) := by decide +kernel
theorem dX10_read_33 : decode cX10_read 33 = .ok (.imul, 1) := by decide +kernel
theorem dX10_read_34 : decode cX10_read 34 = .ok (.putfield 83, 3) := by decide +kernel
theorem dX10_read_37 : decode cX10_read 37 = .ok (.aload_n 0, 1) := by decide +kernel
theorem dX10_read_38 : decode cX10_read 38 = .ok (.getfield 54, 3) := by decide +kernel
theorem dX10_read_41 : decode cX10_read 41 = .ok (.iload_n 2, 1) := by decide +kernel
theorem dX10_read_42 : decode cX10_read 42 = .ok (.if_icmp .ge 116, 3) := by decide +kernel
theorem dX10_read_45 : decode cX10_read 45 = .ok (.aload_n 0, 1) := by decide +kernel
theorem dX10_read_46 : decode cX10_read 46 = .ok (.getfield 73, 3) := by decide +kernel
theorem dX10_read_49 : decode cX10_read 49 = .ok (.ifCond .ne 109, 3) := by decide +kernel
theorem dX10_read_52 : decode cX10_read 52 = .ok (.aload_n 0, 1) := by decide +kernel
theorem dX10_read_53 : decode cX10_read 53 = .ok (.dup, 1) := by decide +kernel
theorem dX10_read_54 : decode cX10_read 54 = .ok (.getfield 61, 3) := by decide +kernel
theorem dX10_read_57 : decode cX10_read 57 = .ok (.iconst 1, 1) := by decide +kernel
theorem dX10_read_58 : decode cX10_read 58 = .ok (.iadd, 1) := by decide +kernel
theorem dX10_read_59 : decode cX10_read 59 = .ok (.putfield 61, 3) := by decide +kernel
theorem dX10_read_62 : decode cX10_read 62 = .ok (.aload_n 0, 1) := by decide +kernel
theorem dX10_read_63 : decode cX10_read 63 = .ok (.invokevirtual 76, 3) := by decide +kernel
theorem dX10_read_66 : decode cX10_read 66 = .ok (.aload_n 0, 1) := by decide +kernel
theorem dX10_read_67 : decode cX10_read 67 = .ok (.bipush 16, 2) := by decide +kernel
theorem dX10_read_69 : decode cX10_read 69 = .ok (.invokevirtual 90, 3) := by decide +kernel
theorem dX10_read_72 : decode cX10_read 72 = .ok (.istore_n 3, 1) := by decide +kernel
theorem dX10_read_73 : decode cX10_read 73 = .ok (.iload_n 3, 1) := by decide +kernel
theorem dX10_read_74 : decode cX10_read 74 = .ok (.ifCond .ne 9, 3) := by decide +kernel
theorem dX10_read_77 : decode cX10_read 77 = .ok (.aload_n 0, 1) := by decide +kernel
theorem dX10_read_78 : decode cX10_read 78 = .ok (.bipush 6, 2) := by decide +kernel
theorem dX10_read_80 : decode cX10_read 80 = .ok (.invokevirtual 86, 3) := by decide +kernel
theorem dX10_read_83 : decode cX10_read 83 = .ok (.aload_n 0, 1) := by decide +kernel
theorem dX10_read_84 : decode cX10_read 84 = .ok (.getfield 73, 3) := by decide +kernel
theorem dX10_read_87 : decode cX10_read 87 = .ok (.ifCond .ne 9, 3) := by decide +kernel
theorem dX10_read_90 : decode cX10_read 90 = .ok (.aload_n 0, 1) := by decide +kernel
theorem dX10_read_91 : decode cX10_read 91 = .ok (.iconst 0, 1) := by decide +kernel
theorem dX10_read_92 : decode cX10_read 92 = .ok (.iconst 5, 1) := by decide +kernel
theorem dX10_read_93 : decode cX10_read 93 = .ok (.invokevirtual 110, 3) := by decide +kernel
theorem dX10_read_96 : decode cX10_read 96 = .ok (.aload_n 0, 1) := by decide +kernel
theorem dX10_read_97 : decode cX10_read 97 = .ok (.getfield 73, 3) := by decide +kernel
theorem dX10_read_100 : decode cX10_read 100 = .ok (.ifCond .ne 7, 3) := by decide +kernel
theorem dX10_read_103 : decode cX10_read 103 = .ok (.aload_n 0, 1) := by decide +kernel
theorem dX10_read_104 : decode cX10_read 104 = .ok (.invokevirtual 114, 3) := by decide +kernel
theorem dX10_read_107 : decode cX10_read 107 = .ok (.aload_n 0, 1) := by decide +kernel
theorem dX10_read_108 : decode cX10_read 108 = .ok (.getfield 73, 3) := by decide +kernel
theorem dX10_read_111 : decode cX10_read 111 = .ok (.ifCond .ne 9, 3) := by decide +kernel
theorem dX10_read_114 : decode cX10_read 114 = .ok (.aload_n 0, 1) := by decide +kernel
theorem dX10_read_115 : decode cX10_read 115 = .ok (.iconst 2, 1) := by decide +kernel
theorem dX10_read_116 : decode cX10_read 116 = .ok (.iconst 4, 1) := by decide +kernel
theorem dX10_read_117 : decode cX10_read 117 = .ok (.invokevirtual 110, 3) := by decide +kernel
theorem dX10_read_120 : decode cX10_read 120 = .ok (.iconst 0, 1) := by decide +kernel
theorem dX10_read_121 : decode cX10_read 121 = .ok (.istore 4, 2) := by decide +kernel
theorem dX10_read_123 : decode cX10_read 123 = .ok (.iload 4, 2) := by decide +kernel
theorem dX10_read_125 : decode cX10_read 125 = .ok (.iload_n 3, 1) := by decide +kernel
theorem dX10_read_126 : decode cX10_read 126 = .ok (.if_icmp .ge 29, 3) := by decide +kernel
theorem dX10_read_129 : decode cX10_read 129 = .ok (.aload_n 0, 1) := by decide +kernel
theorem dX10_read_130 : decode cX10_read 130 = .ok (.getfield 54, 3) := by decide +kernel
theorem dX10_read_133 : decode cX10_read 133 = .ok (.iload_n 2, 1) := by decide +kernel
theorem dX10_read_134 : decode cX10_read 134 = .ok (.if_icmp .ge 21, 3) := by decide +kernel
theorem dX10_read_137 : decode cX10_read 137 = .ok (.aload_n 0, 1) := by decide +kernel
theorem dX10_read_138 : decode cX10_read 138 = .ok (.getfield 73, 3) := by decide +kernel
theorem dX10_read_141 : decode cX10_read 141 = .ok (.ifCond .ne 14, 3) := by decide +kernel
theorem dX10_read_144 : decode cX10_read 144 = .ok (.aload_n 0, 1) := by decide +kernel
theorem dX10_read_145 : decode cX10_read 145 = .ok (.iload_n 2, 1) := by decide +kernel
theorem dX10_read_146 : decode cX10_read 146 = .ok (.invokevirtual 117, 3) := by decide +kernel
theorem dX10_read_149 : decode cX10_read 149 = .ok (.iinc 4 1, 3) := by decide +kernel
theorem dX10_read_152 : decode cX10_read 152 = .ok (.goto (-29), 3) := by decide +kernel
theorem dX10_read_155 : decode cX10_read 155 = .ok (.goto (-118), 3) := by decide +kernel
theorem dX10_read_158 : decode cX10_read 158 = .ok (.aload_n 0, 1) := by decide +kernel
theorem dX10_read_159 : decode cX10_read 159 = .ok (.getfield 73, 3) := by decide +kernel
theorem dX10_read_162 : decode cX10_read 162 = .ok (.ireturn, 1) := by decide +kernel
theorem dX10_give_0 : decode cX10_give 0 = .ok (.iload_n 2, 1) := by decide +kernel
theorem dX10_give_1 : decode cX10_give 1 = .ok (.iconst 1, 1) := by decide +kernel
theorem dX10_give_2 : decode cX10_give 2 = .ok (.isub, 1) := by decide +kernel
theorem dX10_give_3 : decode cX10_give 3 = .ok (.istore_n 3, 1) := by decide +kernel
theorem dX10_give_4 : decode cX10_give 4 = .ok (.iload_n 3, 1) := by decide +kernel
theorem dX10_give_5 : decode cX10_give 5 = .ok (.ifCond .lt 79, 3) := by decide +kernel
theorem dX10_give_8 : decode cX10_give 8 = .ok (.aload_n 0, 1) := by decide +kernel
theorem dX10_give_9 : decode cX10_give 9 = .ok (.getfield 70, 3) := by decide +kernel
theorem dX10_give_12 : decode cX10_give 12 = .ok (.bipush 8, 2) := by decide +kernel
theorem dX10_give_14 : decode cX10_give 14 = .ok (.irem, 1) := by decide +kernel
theorem dX10_give_15 : decode cX10_give 15 = .ok (.ifCond .ne 23, 3) := by decide +kernel
theorem dX10_give_18 : decode cX10_give 18 = .ok (.aload_n 0, 1) := by decide +kernel
theorem dX10_give_19 : decode cX10_give 19 = .ok (.getfield 13, 3) := by decide +kernel
theorem dX10_give_22 : decode cX10_give 22 = .ok (.aload_n 0, 1) := by decide +kernel
theorem dX10_give_23 : decode cX10_give 23 = .ok (.getfield 54, 3) := by decide +kernel
theorem dX10_give_26 : decode cX10_give 26 = .ok (.iconst 0, 1) := by decide +kernel
theorem dX10_give_27 : decode cX10_give 27 = .ok (.iastore, 1) := by decide +kernel
theorem dX10_give_28 : decode cX10_give 28 = .ok (.aload_n 0, 1) := by decide +kernel
theorem dX10_give_29 : decode cX10_give 29 = .ok (.dup, 1) := by decide +kernel
theorem dX10_give_30 : decode cX10_give 30 = .ok (.getfield 54, 3) := by decide +kernel
theorem dX10_give_33 : decode cX10_give 33 = .ok (.iconst 1, 1) := by decide +kernel
theorem dX10_give_34 : decode cX10_give 34 = .ok (.iadd, 1) := by decide +kernel
theorem dX10_give_35 : decode cX10_give 35 = .ok (.putfield 54, 3) := by decide +kernel
theorem dX10_give_38 : decode cX10_give 38 = .ok (.aload_n 0, 1) := by decide +kernel
theorem dX10_give_39 : decode cX10_give 39 = .ok (.getfield 13, 3) := by decide +kernel
theorem dX10_give_42 : decode cX10_give 42 = .ok (.aload_n 0, 1) := by decide +kernel
theorem dX10_give_43 : decode cX10_give 43 = .ok (.getfield 54, 3) := by decide +kernel
theorem dX10_give_46 : decode cX10_give 46 = .ok (.iconst 1, 1) := by decide +kernel
theorem dX10_give_47 : decode cX10_give 47 = .ok (.isub, 1) := by decide +kernel
theorem dX10_give_48 : decode cX10_give 48 = .ok (.dup2, 1) := by decide +kernel
theorem dX10_give_49 : decode cX10_give 49 = .ok (.iaload, 1) := by decide +kernel
theorem dX10_give_50 : decode cX10_give 50 = .ok (.iload_n 1, 1) := by decide +kernel
theorem dX10_give_51 : decode cX10_give 51 = .ok (.iload_n 3, 1) := by decide +kernel
theorem dX10_give_52 : decode cX10_give 52 = .ok (.ishr, 1) := by decide +kernel
theorem dX10_give_53 : decode cX10_give 53 = .ok (.iconst 1, 1) := by decide +kernel
theorem dX10_give_54 : decode cX10_give 54 = .ok (.iand, 1) := by decide +kernel
theorem dX10_give_55 : decode cX10_give 55 = .ok (.bipush 7, 2) := by decide +kernel
theorem dX10_give_57 : decode cX10_give 57 = .ok (.aload_n 0, 1) := by decide +kernel
theorem dX10_give_58 : decode cX10_give 58 = .ok (.getfield 70, 3) := by decide +kernel
theorem dX10_give_61 : decode cX10_give 61 = .ok (.bipush 8, 2) := by decide +kernel
theorem dX10_give_63 : decode cX10_give 63 = .ok (.irem, 1) := by decide +kernel
theorem dX10_give_64 : decode cX10_give 64 = .ok (.isub, 1) := by decide +kernel
theorem dX10_give_65 : decode cX10_give 65 = .ok (.ishl, 1) := by decide +kernel
theorem dX10_give_66 : decode cX10_give 66 = .ok (.ior, 1) := by decide +kernel
theorem dX10_give_67 : decode cX10_give 67 = .ok (.iastore, 1) := by decide +kernel
theorem dX10_give_68 : decode cX10_give 68 = .ok (.aload_n 0, 1) := by decide +kernel
theorem dX10_give_69 : decode cX10_give 69 = .ok (.dup, 1) := by decide +kernel
theorem dX10_give_70 : decode cX10_give 70 = .ok (.getfield 70, 3) := by decide +kernel
theorem dX10_give_73 : decode cX10_give 73 = .ok (.iconst 1, 1) := by decide +kernel
theorem dX10_give_74 : decode cX10_give 74 = .ok (.iadd, 1) := by decide +kernel
theorem dX10_give_75 : decode cX10_give 75 = .ok (.putfield 70, 3) := by decide +kernel
theorem dX10_give_78 : decode cX10_give 78 = .ok (.iinc 3 (-1), 3) := by decide +kernel
theorem dX10_give_81 : decode cX10_give 81 = .ok (.goto (-77), 3) := by decide +kernel
theorem dX10_give_84 : decode cX10_give 84 = .ok (.return_, 1) := by decide +kernel
theorem dX10_same_0 : decode cX10_same 0 = .ok (.iconst 0, 1) := by decide +kernel
theorem dX10_same_1 : decode cX10_same 1 = .ok (.istore 4, 2) := by decide +kernel
theorem dX10_same_3 : decode cX10_same 3 = .ok (.iload 4, 2) := by decide +kernel
theorem dX10_same_5 : decode cX10_same 5 = .ok (.sipush 256, 3) := by decide +kernel
theorem dX10_same_8 : decode cX10_same 8 = .ok (.if_icmp .ge 40, 3) := by decide +kernel
theorem dX10_same_11 : decode cX10_same 11 = .ok (.iload_n 1, 1) := by decide +kernel
theorem dX10_same_12 : decode cX10_same 12 = .ok (.iload 4, 2) := by decide +kernel
theorem dX10_same_14 : decode cX10_same 14 = .ok (.iadd, 1) := by decide +kernel
theorem dX10_same_15 : decode cX10_same 15 = .ok (.iload_n 3, 1) := by decide +kernel
theorem dX10_same_16 : decode cX10_same 16 = .ok (.if_icmp .ge 32, 3) := by decide +kernel
theorem dX10_same_19 : decode cX10_same 19 = .ok (.aload_n 0, 1) := by decide +kernel
theorem dX10_same_20 : decode cX10_same 20 = .ok (.getfield 7, 3) := by decide +kernel
theorem dX10_same_23 : decode cX10_same 23 = .ok (.iload_n 1, 1) := by decide +kernel
theorem dX10_same_24 : decode cX10_same 24 = .ok (.iload 4, 2) := by decide +kernel
theorem dX10_same_26 : decode cX10_same 26 = .ok (.iadd, 1) := by decide +kernel
theorem dX10_same_27 : decode cX10_same 27 = .ok (.iaload, 1) := by decide +kernel
theorem dX10_same_28 : decode cX10_same 28 = .ok (.aload_n 0, 1) := by decide +kernel
theorem dX10_same_29 : decode cX10_same 29 = .ok (.getfield 7, 3) := by decide +kernel
theorem dX10_same_32 : decode cX10_same 32 = .ok (.iload_n 1, 1) := by decide +kernel
theorem dX10_same_33 : decode cX10_same 33 = .ok (.iload 4, 2) := by decide +kernel
theorem dX10_same_35 : decode cX10_same 35 = .ok (.iadd, 1) := by decide +kernel
theorem dX10_same_36 : decode cX10_same 36 = .ok (.iload_n 2, 1) := by decide +kernel
theorem dX10_same_37 : decode cX10_same 37 = .ok (.isub, 1) := by decide +kernel
theorem dX10_same_38 : decode cX10_same 38 = .ok (.iaload, 1) := by decide +kernel
theorem dX10_same_39 : decode cX10_same 39 = .ok (.if_icmp .ne 9, 3) := by decide +kernel
theorem dX10_same_42 : decode cX10_same 42 = .ok (.iinc 4 1, 3) := by decide +kernel
theorem dX10_same_45 : decode cX10_same 45 = .ok (.goto (-42), 3) := by decide +kernel
theorem dX10_same_48 : decode cX10_same 48 = .ok (.iload 4, 2) := by decide +kernel
theorem dX10_same_50 : decode cX10_same 50 = .ok (.ireturn, 1) := by decide +kernel
theorem dX10_cut_0 : decode cX10_cut 0 = .ok (.iconst 0, 1) := by decide +kernel
theorem dX10_cut_1 : decode cX10_cut 1 = .ok (.istore_n 2, 1) := by decide +kernel
theorem dX10_cut_2 : decode cX10_cut 2 = .ok (.iconst 0, 1) := by decide +kernel
theorem dX10_cut_3 : decode cX10_cut 3 = .ok (.istore_n 3, 1) := by decide +kernel
theorem dX10_cut_4 : decode cX10_cut 4 = .ok (.iload_n 3, 1) := by decide +kernel
theorem dX10_cut_5 : decode cX10_cut 5 = .ok (.iload_n 1, 1) := by decide +kernel
theorem dX10_cut_6 : decode cX10_cut 6 = .ok (.if_icmp .ge 128, 3) := by decide +kernel
theorem dX10_cut_9 : decode cX10_cut 9 = .ok (.iconst 2, 1) := by decide +kernel
theorem dX10_cut_10 : decode cX10_cut 10 = .ok (.istore 4, 2) := by decide +kernel
theorem dX10_cut_12 : decode cX10_cut 12 = .ok (.iconst 0, 1) := by decide +kernel
theorem dX10_cut_13 : decode cX10_cut 13 = .ok (.istore 5, 2) := by decide +kernel
theorem dX10_cut_15 : decode cX10_cut 15 = .ok (.iconst 1, 1) := by decide +kernel
theorem dX10_cut_16 : decode cX10_cut 16 = .ok (.istore 6, 2) := by decide +kernel
theorem dX10_cut_18 : decode cX10_cut 18 = .ok (.iload 6, 2) := by decide +kernel
theorem dX10_cut_20 : decode cX10_cut 20 = .ok (.iload_n 3, 1) := by decide +kernel
theorem dX10_cut_21 : decode cX10_cut 21 = .ok (.if_icmp .gt 59, 3) := by decide +kernel
theorem dX10_cut_24 : decode cX10_cut 24 = .ok (.iload 6, 2) := by decide +kernel
theorem dX10_cut_26 : decode cX10_cut 26 = .ok (.sipush 8191, 3) := by decide +kernel
theorem dX10_cut_29 : decode cX10_cut 29 = .ok (.if_icmp .gt 51, 3) := by decide +kernel
theorem dX10_cut_32 : decode cX10_cut 32 = .ok (.aload_n 0, 1) := by decide +kernel
theorem dX10_cut_33 : decode cX10_cut 33 = .ok (.iload_n 3, 1) := by decide +kernel
theorem dX10_cut_34 : decode cX10_cut 34 = .ok (.iload 6, 2) := by decide +kernel
theorem dX10_cut_36 : decode cX10_cut 36 = .ok (.iload_n 1, 1) := by decide +kernel
theorem dX10_cut_37 : decode cX10_cut 37 = .ok (.invokevirtual 120, 3) := by decide +kernel
theorem dX10_cut_40 : decode cX10_cut 40 = .ok (.istore 7, 2) := by decide +kernel
theorem dX10_cut_42 : decode cX10_cut 42 = .ok (.iload 7, 2) := by decide +kernel
theorem dX10_cut_44 : decode cX10_cut 44 = .ok (.iload 4, 2) := by decide +kernel
theorem dX10_cut_46 : decode cX10_cut 46 = .ok (.if_icmp .le 8, 3) := by decide +kernel
theorem dX10_cut_49 : decode cX10_cut 49 = .ok (.iload 6, 2) := by decide +kernel
theorem dX10_cut_51 : decode cX10_cut 51 = .ok (.goto 5, 3) := by decide +kernel
theorem dX10_cut_54 : decode cX10_cut 54 = .ok (.iload 5, 2) := by decide +kernel
theorem dX10_cut_56 : decode cX10_cut 56 = .ok (.istore 5, 2) := by decide +kernel
theorem dX10_cut_58 : decode cX10_cut 58 = .ok (.iload 7, 2) := by decide +kernel
theorem dX10_cut_60 : decode cX10_cut 60 = .ok (.iload 4, 2) := by decide +kernel
theorem dX10_cut_62 : decode cX10_cut 62 = .ok (.if_icmp .le 8, 3) := by decide +kernel
theorem dX10_cut_65 : decode cX10_cut 65 = .ok (.iload 7, 2) := by decide +kernel
theorem dX10_cut_67 : decode cX10_cut 67 = .ok (.goto 5, 3) := by decide +kernel
theorem dX10_cut_70 : decode cX10_cut 70 = .ok (.iload 4, 2) := by decide +kernel
theorem dX10_cut_72 : decode cX10_cut 72 = .ok (.istore 4, 2) := by decide +kernel
theorem dX10_cut_74 : decode cX10_cut 74 = .ok (.iinc 6 1, 3) := by decide +kernel
theorem dX10_cut_77 : decode cX10_cut 77 = .ok (.goto (-59), 3) := by decide +kernel
theorem dX10_cut_80 : decode cX10_cut 80 = .ok (.aload_n 0, 1) := by decide +kernel
theorem dX10_cut_81 : decode cX10_cut 81 = .ok (.getfield 25, 3) := by decide +kernel
theorem dX10_cut_84 : decode cX10_cut 84 = .ok (.iload_n 2, 1) := by decide +kernel
theorem dX10_cut_85 : decode cX10_cut 85 = .ok (.iload 5, 2) := by decide +kernel
theorem dX10_cut_87 : decode cX10_cut 87 = .ok (.ifCond .ne 12, 3) := by decide +kernel
theorem dX10_cut_90 : decode cX10_cut 90 = .ok (.aload_n 0, 1) := by decide +kernel
theorem dX10_cut_91 : decode cX10_cut 91 = .ok (.getfield 7, 3) := by decide +kernel
theorem dX10_cut_94 : decode cX10_cut 94 = .ok (.iload_n 3, 1) := by decide +kernel
theorem dX10_cut_95 : decode cX10_cut 95 = .ok (.iaload, 1) := by decide +kernel
theorem dX10_cut_96 : decode cX10_cut 96 = .ok (.goto 9, 3) := by decide +kernel
theorem dX10_cut_99 : decode cX10_cut 99 = .ok (.sipush 253, 3) := by decide +kernel
theorem dX10_cut_102 : decode cX10_cut 102 = .ok (.iload 4, 2) := by decide +kernel
theorem dX10_cut_104 : decode cX10_cut 104 = .ok (.iadd, 1) := by decide +kernel
theorem dX10_cut_105 : decode cX10_cut 105 = .ok (.iastore, 1) := by decide +kernel
theorem dX10_cut_106 : decode cX10_cut 106 = .ok (.aload_n 0, 1) := by decide +kernel
theorem dX10_cut_107 : decode cX10_cut 107 = .ok (.getfield 28, 3) := by decide +kernel
theorem dX10_cut_110 : decode cX10_cut 110 = .ok (.iload_n 2, 1) := by decide +kernel
theorem dX10_cut_111 : decode cX10_cut 111 = .ok (.iload 5, 2) := by decide +kernel
theorem dX10_cut_113 : decode cX10_cut 113 = .ok (.iastore, 1) := by decide +kernel
theorem dX10_cut_114 : decode cX10_cut 114 = .ok (.iload_n 3, 1) := by decide +kernel
theorem dX10_cut_115 : decode cX10_cut 115 = .ok (.iload 5, 2) := by decide +kernel
theorem dX10_cut_117 : decode cX10_cut 117 = .ok (.ifCond .ne 7, 3) := by decide +kernel
theorem dX10_cut_120 : decode cX10_cut 120 = .ok (.iconst 1, 1) := by decide +kernel
theorem dX10_cut_121 : decode cX10_cut 121 = .ok (.goto 5, 3) := by decide +kernel
theorem dX10_cut_124 : decode cX10_cut 124 = .ok (.iload 4, 2) := by decide +kernel
theorem dX10_cut_126 : decode cX10_cut 126 = .ok (.iadd, 1) := by decide +kernel
theorem dX10_cut_127 : decode cX10_cut 127 = .ok (.istore_n 3, 1) := by decide +kernel
theorem dX10_cut_128 : decode cX10_cut 128 = .ok (.iinc 2 1, 3) := by decide +kernel
theorem dX10_cut_131 : decode cX10_cut 131 = .ok (.goto (-127), 3) := by decide +kernel
theorem dX10_cut_134 : decode cX10_cut 134 = .ok (.iload_n 2, 1) := by decide +kernel
theorem dX10_cut_135 : decode cX10_cut 135 = .ok (.ireturn, 1) := by decide +kernel
theorem dX10_least_0 : decode cX10_least 0 = .ok (.iconst (-1), 1) := by decide +kernel
theorem dX10_least_1 : decode cX10_least 1 = .ok (.istore_n 2, 1) := by decide +kernel
theorem dX10_least_2 : decode cX10_least 2 = .ok (.iconst 0, 1) := by decide +kernel
theorem dX10_least_3 : decode cX10_least 3 = .ok (.istore_n 3, 1) := by decide +kernel
theorem dX10_least_4 : decode cX10_least 4 = .ok (.iload_n 3, 1) := by decide +kernel
theorem dX10_least_5 : decode cX10_least 5 = .ok (.iload_n 1, 1) := by decide +kernel
theorem dX10_least_6 : decode cX10_least 6 = .ok (.if_icmp .ge 44, 3) := by decide +kernel
theorem dX10_least_9 : decode cX10_least 9 = .ok (.aload_n 0, 1) := by decide +kernel
theorem dX10_least_10 : decode cX10_least 10 = .ok (.getfield 37, 3) := by decide +kernel
theorem dX10_least_13 : decode cX10_least 13 = .ok (.iload_n 3, 1) := by decide +kernel
theorem dX10_least_14 : decode cX10_least 14 = .ok (.baload, 1) := by decide +kernel
theorem dX10_least_15 : decode cX10_least 15 = .ok (.ifCond .eq 27, 3) := by decide +kernel
theorem dX10_least_18 : decode cX10_least 18 = .ok (.iload_n 2, 1) := by decide +kernel
theorem dX10_least_19 : decode cX10_least 19 = .ok (.iconst (-1), 1) := by decide +kernel
theorem dX10_least_20 : decode cX10_least 20 = .ok (.if_icmp .eq 18, 3) := by decide +kernel
theorem dX10_least_23 : decode cX10_least 23 = .ok (.aload_n 0, 1) := by decide +kernel
theorem dX10_least_24 : decode cX10_least 24 = .ok (.getfield 31, 3) := by decide +kernel
theorem dX10_least_27 : decode cX10_least 27 = .ok (.iload_n 3, 1) := by decide +kernel
theorem dX10_least_28 : decode cX10_least 28 = .ok (.iaload, 1) := by decide +kernel
theorem dX10_least_29 : decode cX10_least 29 = .ok (.aload_n 0, 1) := by decide +kernel
theorem dX10_least_30 : decode cX10_least 30 = .ok (.getfield 31, 3) := by decide +kernel
theorem dX10_least_33 : decode cX10_least 33 = .ok (.iload_n 2, 1) := by decide +kernel
theorem dX10_least_34 : decode cX10_least 34 = .ok (.iaload, 1) := by decide +kernel
theorem dX10_least_35 : decode cX10_least 35 = .ok (.if_icmp .ge 7, 3) := by decide +kernel
theorem dX10_least_38 : decode cX10_least 38 = .ok (.iload_n 3, 1) := by decide +kernel
theorem dX10_least_39 : decode cX10_least 39 = .ok (.goto 4, 3) := by decide +kernel
theorem dX10_least_42 : decode cX10_least 42 = .ok (.iload_n 2, 1) := by decide +kernel
theorem dX10_least_43 : decode cX10_least 43 = .ok (.istore_n 2, 1) := by decide +kernel
theorem dX10_least_44 : decode cX10_least 44 = .ok (.iinc 3 1, 3) := by decide +kernel
theorem dX10_least_47 : decode cX10_least 47 = .ok (.goto (-43), 3) := by decide +kernel
theorem dX10_least_50 : decode cX10_least 50 = .ok (.iload_n 2, 1) := by decide +kernel
theorem dX10_least_51 : decode cX10_least 51 = .ok (.ireturn, 1) := by decide +kernel
theorem dX10_merge_0 : decode cX10_merge 0 = .ok (.iload_n 1, 1) := by decide +kernel
theorem dX10_merge_1 : decode cX10_merge 1 = .ok (.invokestatic 79, 3) := by decide +kernel
theorem dX10_merge_4 : decode cX10_merge 4 = .ok (.istore_n 2, 1) := by decide +kernel
theorem dX10_merge_5 : decode cX10_merge 5 = .ok (.iconst 0, 1) := by decide +kernel
theorem dX10_merge_6 : decode cX10_merge 6 = .ok (.istore_n 3, 1) := by decide +kernel
theorem dX10_merge_7 : decode cX10_merge 7 = .ok (.iconst 0, 1) := by decide +kernel
theorem dX10_merge_8 : decode cX10_merge 8 = .ok (.istore 4, 2) := by decide +kernel
theorem dX10_merge_10 : decode cX10_merge 10 = .ok (.iconst 0, 1) := by decide +kernel
theorem dX10_merge_11 : decode cX10_merge 11 = .ok (.istore 5, 2) := by decide +kernel
theorem dX10_merge_13 : decode cX10_merge 13 = .ok (.iload 5, 2) := by decide +kernel
theorem dX10_merge_15 : decode cX10_merge 15 = .ok (.iconst 2, 1) := by decide +kernel
theorem dX10_merge_16 : decode cX10_merge 16 = .ok (.iload_n 2, 1) := by decide +kernel
theorem dX10_merge_17 : decode cX10_merge 17 = .ok (.imul, 1) := by decide +kernel
theorem dX10_merge_18 : decode cX10_merge 18 = .ok (.if_icmp .ge 106, 3) := by decide +kernel
theorem dX10_merge_21 : decode cX10_merge 21 = .ok (.aload_n 0, 1) := by decide +kernel
theorem dX10_merge_22 : decode cX10_merge 22 = .ok (.getfield 31, 3) := by decide +kernel
theorem dX10_merge_25 : decode cX10_merge 25 = .ok (.iload 5, 2) := by decide +kernel
theorem dX10_merge_27 : decode cX10_merge 27 = .ok (.iload 5, 2) := by decide +kernel
theorem dX10_merge_29 : decode cX10_merge 29 = .ok (.iload_n 2, 1) := by decide +kernel
theorem dX10_merge_30 : decode cX10_merge 30 = .ok (.if_icmp .ge 13, 3) := by decide +kernel
theorem dX10_merge_33 : decode cX10_merge 33 = .ok (.aload_n 0, 1) := by decide +kernel
theorem dX10_merge_34 : decode cX10_merge 34 = .ok (.getfield 41, 3) := by decide +kernel
theorem dX10_merge_37 : decode cX10_merge 37 = .ok (.iload 5, 2) := by decide +kernel
theorem dX10_merge_39 : decode cX10_merge 39 = .ok (.iaload, 1) := by decide +kernel
theorem dX10_merge_40 : decode cX10_merge 40 = .ok (.goto 4, 3) := by decide +kernel
theorem dX10_merge_43 : decode cX10_merge 43 = .ok (.iconst 0, 1) := by decide +kernel
theorem dX10_merge_44 : decode cX10_merge 44 = .ok (.iastore, 1) := by decide +kernel
theorem dX10_merge_45 : decode cX10_merge 45 = .ok (.aload_n 0, 1) := by decide +kernel
theorem dX10_merge_46 : decode cX10_merge 46 = .ok (.getfield 37, 3) := by decide +kernel
theorem dX10_merge_49 : decode cX10_merge 49 = .ok (.iload 5, 2) := by decide +kernel
theorem dX10_merge_51 : decode cX10_merge 51 = .ok (.iload 5, 2) := by decide +kernel
theorem dX10_merge_53 : decode cX10_merge 53 = .ok (.iload_n 2, 1) := by decide +kernel
theorem dX10_merge_54 : decode cX10_merge 54 = .ok (.if_icmp .ge 17, 3) := by decide +kernel
theorem dX10_merge_57 : decode cX10_merge 57 = .ok (.aload_n 0, 1) := by decide +kernel
theorem dX10_merge_58 : decode cX10_merge 58 = .ok (.getfield 41, 3) := by decide +kernel
theorem dX10_merge_61 : decode cX10_merge 61 = .ok (.iload 5, 2) := by decide +kernel
theorem dX10_merge_63 : decode cX10_merge 63 = .ok (.iaload, 1) := by decide +kernel
theorem dX10_merge_64 : decode cX10_merge 64 = .ok (.ifCond .le 7, 3) := by decide +kernel
theorem dX10_merge_67 : decode cX10_merge 67 = .ok (.iconst 1, 1) := by decide +kernel
theorem dX10_merge_68 : decode cX10_merge 68 = .ok (.goto 4, 3) := by decide +kernel
theorem dX10_merge_71 : decode cX10_merge 71 = .ok (.iconst 0, 1) := by decide +kernel
theorem dX10_merge_72 : decode cX10_merge 72 = .ok (.bastore, 1) := by decide +kernel
theorem dX10_merge_73 : decode cX10_merge 73 = .ok (.aload_n 0, 1) := by decide +kernel
theorem dX10_merge_74 : decode cX10_merge 74 = .ok (.getfield 34, 3) := by decide +kernel
theorem dX10_merge_77 : decode cX10_merge 77 = .ok (.iload 5, 2) := by decide +kernel
theorem dX10_merge_79 : decode cX10_merge 79 = .ok (.iconst (-1), 1) := by decide +kernel
theorem dX10_merge_80 : decode cX10_merge 80 = .ok (.iastore, 1) := by decide +kernel
theorem dX10_merge_81 : decode cX10_merge 81 = .ok (.iload_n 3, 1) := by decide +kernel
theorem dX10_merge_82 : decode cX10_merge 82 = .ok (.aload_n 0, 1) := by decide +kernel
theorem dX10_merge_83 : decode cX10_merge 83 = .ok (.getfield 37, 3) := by decide +kernel
theorem dX10_merge_86 : decode cX10_merge 86 = .ok (.iload 5, 2) := by decide +kernel
theorem dX10_merge_88 : decode cX10_merge 88 = .ok (.baload, 1) := by decide +kernel
theorem dX10_merge_89 : decode cX10_merge 89 = .ok (.ifCond .eq 7, 3) := by decide +kernel
theorem dX10_merge_92 : decode cX10_merge 92 = .ok (.iconst 1, 1) := by decide +kernel
theorem dX10_merge_93 : decode cX10_merge 93 = .ok (.goto 4, 3) := by decide +kernel
theorem dX10_merge_96 : decode cX10_merge 96 = .ok (.iconst 0, 1) := by decide +kernel
theorem dX10_merge_97 : decode cX10_merge 97 = .ok (.iadd, 1) := by decide +kernel
theorem dX10_merge_98 : decode cX10_merge 98 = .ok (.istore_n 3, 1) := by decide +kernel
theorem dX10_merge_99 : decode cX10_merge 99 = .ok (.aload_n 0, 1) := by decide +kernel
theorem dX10_merge_100 : decode cX10_merge 100 = .ok (.getfield 37, 3) := by decide +kernel
theorem dX10_merge_103 : decode cX10_merge 103 = .ok (.iload 5, 2) := by decide +kernel
theorem dX10_merge_105 : decode cX10_merge 105 = .ok (.baload, 1) := by decide +kernel
theorem dX10_merge_106 : decode cX10_merge 106 = .ok (.ifCond .eq 8, 3) := by decide +kernel
theorem dX10_merge_109 : decode cX10_merge 109 = .ok (.iload 5, 2) := by decide +kernel
theorem dX10_merge_111 : decode cX10_merge 111 = .ok (.goto 5, 3) := by decide +kernel
theorem dX10_merge_114 : decode cX10_merge 114 = .ok (.iload 4, 2) := by decide +kernel
theorem dX10_merge_116 : decode cX10_merge 116 = .ok (.istore 4, 2) := by decide +kernel
theorem dX10_merge_118 : decode cX10_merge 118 = .ok (.iinc 5 1, 3) := by decide +kernel
theorem dX10_merge_121 : decode cX10_merge 121 = .ok (.goto (-108), 3) := by decide +kernel
theorem dX10_merge_124 : decode cX10_merge 124 = .ok (.iload_n 3, 1) := by decide +kernel
theorem dX10_merge_125 : decode cX10_merge 125 = .ok (.iconst 2, 1) := by decide +kernel
theorem dX10_merge_126 : decode cX10_merge 126 = .ok (.if_icmp .ge 12, 3) := by decide +kernel
theorem dX10_merge_129 : decode cX10_merge 129 = .ok (.aload_n 0, 1) := by decide +kernel
theorem dX10_merge_130 : decode cX10_merge 130 = .ok (.getfield 22, 3) := by decide +kernel
theorem dX10_merge_133 : decode cX10_merge 133 = .ok (.iload_n 1, 1) := by decide +kernel
theorem dX10_merge_134 : decode cX10_merge 134 = .ok (.iload 4, 2) := by decide +kernel
theorem dX10_merge_136 : decode cX10_merge 136 = .ok (.iastore, 1) := by decide +kernel
theorem dX10_merge_137 : decode cX10_merge 137 = .ok (.return_, 1) := by decide +kernel
theorem dX10_merge_138 : decode cX10_merge 138 = .ok (.iload_n 2, 1) := by decide +kernel
theorem dX10_merge_139 : decode cX10_merge 139 = .ok (.istore 5, 2) := by decide +kernel
theorem dX10_merge_141 : decode cX10_merge 141 = .ok (.iconst 1, 1) := by decide +kernel
theorem dX10_merge_142 : decode cX10_merge 142 = .ok (.istore 6, 2) := by decide +kernel
theorem dX10_merge_144 : decode cX10_merge 144 = .ok (.iload 6, 2) := by decide +kernel
theorem dX10_merge_146 : decode cX10_merge 146 = .ok (.iload_n 3, 1) := by decide +kernel
theorem dX10_merge_147 : decode cX10_merge 147 = .ok (.if_icmp .ge 92, 3) := by decide +kernel
theorem dX10_merge_150 : decode cX10_merge 150 = .ok (.aload_n 0, 1) := by decide +kernel
theorem dX10_merge_151 : decode cX10_merge 151 = .ok (.iload 5, 2) := by decide +kernel
theorem dX10_merge_153 : decode cX10_merge 153 = .ok (.invokevirtual 124, 3) := by decide +kernel
theorem dX10_merge_156 : decode cX10_merge 156 = .ok (.istore 7, 2) := by decide +kernel
theorem dX10_merge_158 : decode cX10_merge 158 = .ok (.aload_n 0, 1) := by decide +kernel
theorem dX10_merge_159 : decode cX10_merge 159 = .ok (.getfield 37, 3) := by decide +kernel
theorem dX10_merge_162 : decode cX10_merge 162 = .ok (.iload 7, 2) := by decide +kernel
theorem dX10_merge_164 : decode cX10_merge 164 = .ok (.iconst 0, 1) := by decide +kernel
theorem dX10_merge_165 : decode cX10_merge 165 = .ok (.bastore, 1) := by decide +kernel
theorem dX10_merge_166 : decode cX10_merge 166 = .ok (.aload_n 0, 1) := by decide +kernel
theorem dX10_merge_167 : decode cX10_merge 167 = .ok (.iload 5, 2) := by decide +kernel
theorem dX10_merge_169 : decode cX10_merge 169 = .ok (.invokevirtual 124, 3) := by decide +kernel
theorem dX10_merge_172 : decode cX10_merge 172 = .ok (.istore 8, 2) := by decide +kernel
theorem dX10_merge_174 : decode cX10_merge 174 = .ok (.aload_n 0, 1) := by decide +kernel
theorem dX10_merge_175 : decode cX10_merge 175 = .ok (.getfield 37, 3) := by decide +kernel
theorem dX10_merge_178 : decode cX10_merge 178 = .ok (.iload 8, 2) := by decide +kernel
theorem dX10_merge_180 : decode cX10_merge 180 = .ok (.iconst 0, 1) := by decide +kernel
theorem dX10_merge_181 : decode cX10_merge 181 = .ok (.bastore, 1) := by decide +kernel
theorem dX10_merge_182 : decode cX10_merge 182 = .ok (.aload_n 0, 1) := by decide +kernel
theorem dX10_merge_183 : decode cX10_merge 183 = .ok (.getfield 31, 3) := by decide +kernel
theorem dX10_merge_186 : decode cX10_merge 186 = .ok (.iload 5, 2) := by decide +kernel
theorem dX10_merge_188 : decode cX10_merge 188 = .ok (.aload_n 0, 1) := by decide +kernel
theorem dX10_merge_189 : decode cX10_merge 189 = .ok (.getfield 31, 3) := by decide +kernel
theorem dX10_merge_192 : decode cX10_merge 192 = .ok (.iload 7, 2) := by decide +kernel
theorem dX10_merge_194 : decode cX10_merge 194 = .ok (.iaload, 1) := by decide +kernel
theorem dX10_merge_195 : decode cX10_merge 195 = .ok (.aload_n 0, 1) := by decide +kernel
theorem dX10_merge_196 : decode cX10_merge 196 = .ok (.getfield 31, 3) := by decide +kernel
theorem dX10_merge_199 : decode cX10_merge 199 = .ok (.iload 8, 2) := by decide +kernel
theorem dX10_merge_201 : decode cX10_merge 201 = .ok (.iaload, 1) := by decide +kernel
theorem dX10_merge_202 : decode cX10_merge 202 = .ok (.iadd, 1) := by decide +kernel
theorem dX10_merge_203 : decode cX10_merge 203 = .ok (.iastore, 1) := by decide +kernel
theorem dX10_merge_204 : decode cX10_merge 204 = .ok (.aload_n 0, 1) := by decide +kernel
theorem dX10_merge_205 : decode cX10_merge 205 = .ok (.getfield 34, 3) := by decide +kernel
theorem dX10_merge_208 : decode cX10_merge 208 = .ok (.iload 7, 2) := by decide +kernel
theorem dX10_merge_210 : decode cX10_merge 210 = .ok (.iload 5, 2) := by decide +kernel
theorem dX10_merge_212 : decode cX10_merge 212 = .ok (.iastore, 1) := by decide +kernel
theorem dX10_merge_213 : decode cX10_merge 213 = .ok (.aload_n 0, 1) := by decide +kernel
theorem dX10_merge_214 : decode cX10_merge 214 = .ok (.getfield 34, 3) := by decide +kernel
theorem dX10_merge_217 : decode cX10_merge 217 = .ok (.iload 8, 2) := by decide +kernel
theorem dX10_merge_219 : decode cX10_merge 219 = .ok (.iload 5, 2) := by decide +kernel
theorem dX10_merge_221 : decode cX10_merge 221 = .ok (.iastore, 1) := by decide +kernel
theorem dX10_merge_222 : decode cX10_merge 222 = .ok (.aload_n 0, 1) := by decide +kernel
theorem dX10_merge_223 : decode cX10_merge 223 = .ok (.getfield 37, 3) := by decide +kernel
theorem dX10_merge_226 : decode cX10_merge 226 = .ok (.iload 5, 2) := by decide +kernel
theorem dX10_merge_228 : decode cX10_merge 228 = .ok (.iconst 1, 1) := by decide +kernel
theorem dX10_merge_229 : decode cX10_merge 229 = .ok (.bastore, 1) := by decide +kernel
theorem dX10_merge_230 : decode cX10_merge 230 = .ok (.iinc 5 1, 3) := by decide +kernel
theorem dX10_merge_233 : decode cX10_merge 233 = .ok (.iinc 6 1, 3) := by decide +kernel
theorem dX10_merge_236 : decode cX10_merge 236 = .ok (.goto (-92), 3) := by decide +kernel
theorem dX10_merge_239 : decode cX10_merge 239 = .ok (.iconst 0, 1) := by decide +kernel
theorem dX10_merge_240 : decode cX10_merge 240 = .ok (.istore 6, 2) := by decide +kernel
theorem dX10_merge_242 : decode cX10_merge 242 = .ok (.iload 6, 2) := by decide +kernel
theorem dX10_merge_244 : decode cX10_merge 244 = .ok (.iload_n 2, 1) := by decide +kernel
theorem dX10_merge_245 : decode cX10_merge 245 = .ok (.if_icmp .ge 71, 3) := by decide +kernel
theorem dX10_merge_248 : decode cX10_merge 248 = .ok (.iconst 0, 1) := by decide +kernel
theorem dX10_merge_249 : decode cX10_merge 249 = .ok (.istore 7, 2) := by decide +kernel
theorem dX10_merge_251 : decode cX10_merge 251 = .ok (.iload 6, 2) := by decide +kernel
theorem dX10_merge_253 : decode cX10_merge 253 = .ok (.istore 8, 2) := by decide +kernel
theorem dX10_merge_255 : decode cX10_merge 255 = .ok (.aload_n 0, 1) := by decide +kernel
theorem dX10_merge_256 : decode cX10_merge 256 = .ok (.getfield 34, 3) := by decide +kernel
theorem dX10_merge_259 : decode cX10_merge 259 = .ok (.iload 8, 2) := by decide +kernel
theorem dX10_merge_261 : decode cX10_merge 261 = .ok (.iaload, 1) := by decide +kernel
theorem dX10_merge_262 : decode cX10_merge 262 = .ok (.iconst (-1), 1) := by decide +kernel
theorem dX10_merge_263 : decode cX10_merge 263 = .ok (.if_icmp .eq 18, 3) := by decide +kernel
theorem dX10_merge_266 : decode cX10_merge 266 = .ok (.iinc 7 1, 3) := by decide +kernel
theorem dX10_merge_269 : decode cX10_merge 269 = .ok (.aload_n 0, 1) := by decide +kernel
theorem dX10_merge_270 : decode cX10_merge 270 = .ok (.getfield 34, 3) := by decide +kernel
theorem dX10_merge_273 : decode cX10_merge 273 = .ok (.iload 8, 2) := by decide +kernel
theorem dX10_merge_275 : decode cX10_merge 275 = .ok (.iaload, 1) := by decide +kernel
theorem dX10_merge_276 : decode cX10_merge 276 = .ok (.istore 8, 2) := by decide +kernel
theorem dX10_merge_278 : decode cX10_merge 278 = .ok (.goto (-23), 3) := by decide +kernel
theorem dX10_merge_281 : decode cX10_merge 281 = .ok (.aload_n 0, 1) := by decide +kernel
theorem dX10_merge_282 : decode cX10_merge 282 = .ok (.getfield 16, 3) := by decide +kernel
theorem dX10_merge_285 : decode cX10_merge 285 = .ok (.sipush 600, 3) := by decide +kernel
theorem dX10_merge_288 : decode cX10_merge 288 = .ok (.iload_n 1, 1) := by decide +kernel
theorem dX10_merge_289 : decode cX10_merge 289 = .ok (.imul, 1) := by decide +kernel
theorem dX10_merge_290 : decode cX10_merge 290 = .ok (.iload 6, 2) := by decide +kernel
theorem dX10_merge_292 : decode cX10_merge 292 = .ok (.iadd, 1) := by decide +kernel
theorem dX10_merge_293 : decode cX10_merge 293 = .ok (.aload_n 0, 1) := by decide +kernel
theorem dX10_merge_294 : decode cX10_merge 294 = .ok (.getfield 41, 3) := by decide +kernel
theorem dX10_merge_297 : decode cX10_merge 297 = .ok (.iload 6, 2) := by decide +kernel
theorem dX10_merge_299 : decode cX10_merge 299 = .ok (.iaload, 1) := by decide +kernel
theorem dX10_merge_300 : decode cX10_merge 300 = .ok (.ifCond .le 8, 3) := by decide +kernel
theorem dX10_merge_303 : decode cX10_merge 303 = .ok (.iload 7, 2) := by decide +kernel
theorem dX10_merge_305 : decode cX10_merge 305 = .ok (.goto 4, 3) := by decide +kernel
theorem dX10_merge_308 : decode cX10_merge 308 = .ok (.iconst 0, 1) := by decide +kernel
theorem dX10_merge_309 : decode cX10_merge 309 = .ok (.iastore, 1) := by decide +kernel
theorem dX10_merge_310 : decode cX10_merge 310 = .ok (.iinc 6 1, 3) := by decide +kernel
theorem dX10_merge_313 : decode cX10_merge 313 = .ok (.goto (-71), 3) := by decide +kernel
theorem dX10_merge_316 : decode cX10_merge 316 = .ok (.aload_n 0, 1) := by decide +kernel
theorem dX10_merge_317 : decode cX10_merge 317 = .ok (.iload_n 1, 1) := by decide +kernel
theorem dX10_merge_318 : decode cX10_merge 318 = .ok (.invokevirtual 94, 3) := by decide +kernel
theorem dX10_merge_321 : decode cX10_merge 321 = .ok (.return_, 1) := by decide +kernel
theorem dX10_clearTimes_0 : decode cX10_clearTimes 0 = .ok (.iconst 0, 1) := by decide +kernel
theorem dX10_clearTimes_1 : decode cX10_clearTimes 1 = .ok (.istore_n 1, 1) := by decide +kernel
theorem dX10_clearTimes_2 : decode cX10_clearTimes 2 = .ok (.iload_n 1, 1) := by decide +kernel
theorem dX10_clearTimes_3 : decode cX10_clearTimes 3 = .ok (.sipush 600, 3) := by decide +kernel
theorem dX10_clearTimes_6 : decode cX10_clearTimes 6 = .ok (.if_icmp .ge 16, 3) := by decide +kernel
theorem dX10_clearTimes_9 : decode cX10_clearTimes 9 = .ok (.aload_n 0, 1) := by decide +kernel
theorem dX10_clearTimes_10 : decode cX10_clearTimes 10 = .ok (.getfield 41, 3) := by decide +kernel
theorem dX10_clearTimes_13 : decode cX10_clearTimes 13 = .ok (.iload_n 1, 1) := by decide +kernel
theorem dX10_clearTimes_14 : decode cX10_clearTimes 14 = .ok (.iconst 0, 1) := by decide +kernel
theorem dX10_clearTimes_15 : decode cX10_clearTimes 15 = .ok (.iastore, 1) := by decide +kernel
theorem dX10_clearTimes_16 : decode cX10_clearTimes 16 = .ok (.iinc 1 1, 3) := by decide +kernel
theorem dX10_clearTimes_19 : decode cX10_clearTimes 19 = .ok (.goto (-17), 3) := by decide +kernel
theorem dX10_clearTimes_22 : decode cX10_clearTimes 22 = .ok (.return_, 1) := by decide +kernel
theorem dX10_rank_0 : decode cX10_rank 0 = .ok (.iconst 0, 1) := by decide +kernel
theorem dX10_rank_1 : decode cX10_rank 1 = .ok (.istore_n 1, 1) := by decide +kernel
theorem dX10_rank_2 : decode cX10_rank 2 = .ok (.iload_n 0, 1) := by decide +kernel
theorem dX10_rank_3 : decode cX10_rank 3 = .ok (.iconst 1, 1) := by decide +kernel
theorem dX10_rank_4 : decode cX10_rank 4 = .ok (.isub, 1) := by decide +kernel
theorem dX10_rank_5 : decode cX10_rank 5 = .ok (.istore_n 2, 1) := by decide +kernel
theorem dX10_rank_6 : decode cX10_rank 6 = .ok (.iload_n 2, 1) := by decide +kernel
theorem dX10_rank_7 : decode cX10_rank 7 = .ok (.ifCond .le 13, 3) := by decide +kernel
theorem dX10_rank_10 : decode cX10_rank 10 = .ok (.iinc 1 1, 3) := by decide +kernel
theorem dX10_rank_13 : decode cX10_rank 13 = .ok (.iload_n 2, 1) := by decide +kernel
theorem dX10_rank_14 : decode cX10_rank 14 = .ok (.iconst 1, 1) := by decide +kernel
theorem dX10_rank_15 : decode cX10_rank 15 = .ok (.ishr, 1) := by decide +kernel
theorem dX10_rank_16 : decode cX10_rank 16 = .ok (.istore_n 2, 1) := by decide +kernel
theorem dX10_rank_17 : decode cX10_rank 17 = .ok (.goto (-11), 3) := by decide +kernel
theorem dX10_rank_20 : decode cX10_rank 20 = .ok (.iload_n 1, 1) := by decide +kernel
theorem dX10_rank_21 : decode cX10_rank 21 = .ok (.ireturn, 1) := by decide +kernel
theorem dX10_last_0 : decode cX10_last 0 = .ok (.iload_n 1, 1) := by decide +kernel
theorem dX10_last_1 : decode cX10_last 1 = .ok (.invokestatic 79, 3) := by decide +kernel
theorem dX10_last_4 : decode cX10_last 4 = .ok (.istore_n 2, 1) := by decide +kernel
theorem dX10_last_5 : decode cX10_last 5 = .ok (.iload_n 2, 1) := by decide +kernel
theorem dX10_last_6 : decode cX10_last 6 = .ok (.ifCond .le 26, 3) := by decide +kernel
theorem dX10_last_9 : decode cX10_last 9 = .ok (.aload_n 0, 1) := by decide +kernel
theorem dX10_last_10 : decode cX10_last 10 = .ok (.getfield 16, 3) := by decide +kernel
theorem dX10_last_13 : decode cX10_last 13 = .ok (.sipush 600, 3) := by decide +kernel
theorem dX10_last_16 : decode cX10_last 16 = .ok (.iload_n 1, 1) := by decide +kernel
theorem dX10_last_17 : decode cX10_last 17 = .ok (.imul, 1) := by decide +kernel
theorem dX10_last_18 : decode cX10_last 18 = .ok (.iload_n 2, 1) := by decide +kernel
theorem dX10_last_19 : decode cX10_last 19 = .ok (.iadd, 1) := by decide +kernel
theorem dX10_last_20 : decode cX10_last 20 = .ok (.iconst 1, 1) := by decide +kernel
theorem dX10_last_21 : decode cX10_last 21 = .ok (.isub, 1) := by decide +kernel
theorem dX10_last_22 : decode cX10_last 22 = .ok (.iaload, 1) := by decide +kernel
theorem dX10_last_23 : decode cX10_last 23 = .ok (.ifCond .ne 9, 3) := by decide +kernel
theorem dX10_last_26 : decode cX10_last 26 = .ok (.iinc 2 (-1), 3) := by decide +kernel
theorem dX10_last_29 : decode cX10_last 29 = .ok (.goto (-24), 3) := by decide +kernel
theorem dX10_last_32 : decode cX10_last 32 = .ok (.iload_n 2, 1) := by decide +kernel
theorem dX10_last_33 : decode cX10_last 33 = .ok (.ireturn, 1) := by decide +kernel
theorem dX10_tell_0 : decode cX10_tell 0 = .ok (.aload_n 0, 1) := by decide +kernel
theorem dX10_tell_1 : decode cX10_tell 1 = .ok (.getfield 44, 3) := by decide +kernel
theorem dX10_tell_4 : decode cX10_tell 4 = .ok (.aload_n 0, 1) := by decide +kernel
theorem dX10_tell_5 : decode cX10_tell 5 = .ok (.getfield 127, 3) := by decide +kernel
theorem dX10_tell_8 : decode cX10_tell 8 = .ok (.iload_n 1, 1) := by decide +kernel
theorem dX10_tell_9 : decode cX10_tell 9 = .ok (.iastore, 1) := by decide +kernel
theorem dX10_tell_10 : decode cX10_tell 10 = .ok (.aload_n 0, 1) := by decide +kernel
theorem dX10_tell_11 : decode cX10_tell 11 = .ok (.getfield 47, 3) := by decide +kernel
theorem dX10_tell_14 : decode cX10_tell 14 = .ok (.aload_n 0, 1) := by decide +kernel
theorem dX10_tell_15 : decode cX10_tell 15 = .ok (.getfield 127, 3) := by decide +kernel
theorem dX10_tell_18 : decode cX10_tell 18 = .ok (.iload_n 2, 1) := by decide +kernel
theorem dX10_tell_19 : decode cX10_tell 19 = .ok (.iastore, 1) := by decide +kernel
theorem dX10_tell_20 : decode cX10_tell 20 = .ok (.aload_n 0, 1) := by decide +kernel
theorem dX10_tell_21 : decode cX10_tell 21 = .ok (.dup, 1) := by decide +kernel
theorem dX10_tell_22 : decode cX10_tell 22 = .ok (.getfield 127, 3) := by decide +kernel
theorem dX10_tell_25 : decode cX10_tell 25 = .ok (.iconst 1, 1) := by decide +kernel
theorem dX10_tell_26 : decode cX10_tell 26 = .ok (.iadd, 1) := by decide +kernel
theorem dX10_tell_27 : decode cX10_tell 27 = .ok (.putfield 127, 3) := by decide +kernel
theorem dX10_tell_30 : decode cX10_tell 30 = .ok (.aload_n 0, 1) := by decide +kernel
theorem dX10_tell_31 : decode cX10_tell 31 = .ok (.getfield 41, 3) := by decide +kernel
theorem dX10_tell_34 : decode cX10_tell 34 = .ok (.iload_n 1, 1) := by decide +kernel
theorem dX10_tell_35 : decode cX10_tell 35 = .ok (.dup2, 1) := by decide +kernel
theorem dX10_tell_36 : decode cX10_tell 36 = .ok (.iaload, 1) := by decide +kernel
theorem dX10_tell_37 : decode cX10_tell 37 = .ok (.iconst 1, 1) := by decide +kernel
theorem dX10_tell_38 : decode cX10_tell 38 = .ok (.iadd, 1) := by decide +kernel
theorem dX10_tell_39 : decode cX10_tell 39 = .ok (.iastore, 1) := by decide +kernel
theorem dX10_tell_40 : decode cX10_tell 40 = .ok (.return_, 1) := by decide +kernel
theorem dX10_tellAll_0 : decode cX10_tellAll 0 = .ok (.aload_n 0, 1) := by decide +kernel
theorem dX10_tellAll_1 : decode cX10_tellAll 1 = .ok (.invokevirtual 130, 3) := by decide +kernel
theorem dX10_tellAll_4 : decode cX10_tellAll 4 = .ok (.aload_n 0, 1) := by decide +kernel
theorem dX10_tellAll_5 : decode cX10_tellAll 5 = .ok (.iconst 0, 1) := by decide +kernel
theorem dX10_tellAll_6 : decode cX10_tellAll 6 = .ok (.putfield 127, 3) := by decide +kernel
theorem dX10_tellAll_9 : decode cX10_tellAll 9 = .ok (.aload_n 0, 1) := by decide +kernel
theorem dX10_tellAll_10 : decode cX10_tellAll 10 = .ok (.iconst 1, 1) := by decide +kernel
theorem dX10_tellAll_11 : decode cX10_tellAll 11 = .ok (.invokevirtual 133, 3) := by decide +kernel
theorem dX10_tellAll_14 : decode cX10_tellAll 14 = .ok (.istore_n 1, 1) := by decide +kernel
theorem dX10_tellAll_15 : decode cX10_tellAll 15 = .ok (.iconst 0, 1) := by decide +kernel
theorem dX10_tellAll_16 : decode cX10_tellAll 16 = .ok (.istore_n 2, 1) := by decide +kernel
theorem dX10_tellAll_17 : decode cX10_tellAll 17 = .ok (.iload_n 2, 1) := by decide +kernel
theorem dX10_tellAll_18 : decode cX10_tellAll 18 = .ok (.iload_n 1, 1) := by decide +kernel
theorem dX10_tellAll_19 : decode cX10_tellAll 19 = .ok (.if_icmp .ge 133, 3) := by decide +kernel
theorem dX10_tellAll_22 : decode cX10_tellAll 22 = .ok (.iconst 0, 1) := by decide +kernel
theorem dX10_tellAll_23 : decode cX10_tellAll 23 = .ok (.istore_n 3, 1) := by decide +kernel
theorem dX10_tellAll_24 : decode cX10_tellAll 24 = .ok (.aload_n 0, 1) := by decide +kernel
theorem dX10_tellAll_25 : decode cX10_tellAll 25 = .ok (.getfield 16, 3) := by decide +kernel
theorem dX10_tellAll_28 : decode cX10_tellAll 28 = .ok (.sipush 600, 3) := by decide +kernel
theorem dX10_tellAll_31 : decode cX10_tellAll 31 = .ok (.iload_n 2, 1) := by decide +kernel
theorem dX10_tellAll_32 : decode cX10_tellAll 32 = .ok (.iadd, 1) := by decide +kernel
theorem dX10_tellAll_33 : decode cX10_tellAll 33 = .ok (.iload_n 3, 1) := by decide +kernel
theorem dX10_tellAll_34 : decode cX10_tellAll 34 = .ok (.iadd, 1) := by decide +kernel
theorem dX10_tellAll_35 : decode cX10_tellAll 35 = .ok (.iaload, 1) := by decide +kernel
theorem dX10_tellAll_36 : decode cX10_tellAll 36 = .ok (.ifCond .ne 9, 3) := by decide +kernel
theorem dX10_tellAll_39 : decode cX10_tellAll 39 = .ok (.iinc 3 1, 3) := by decide +kernel
theorem dX10_tellAll_42 : decode cX10_tellAll 42 = .ok (.goto (-18), 3) := by decide +kernel
theorem dX10_tellAll_45 : decode cX10_tellAll 45 = .ok (.iload_n 3, 1) := by decide +kernel
theorem dX10_tellAll_46 : decode cX10_tellAll 46 = .ok (.ifCond .ne 26, 3) := by decide +kernel
theorem dX10_tellAll_49 : decode cX10_tellAll 49 = .ok (.aload_n 0, 1) := by decide +kernel
theorem dX10_tellAll_50 : decode cX10_tellAll 50 = .ok (.aload_n 0, 1) := by decide +kernel
theorem dX10_tellAll_51 : decode cX10_tellAll 51 = .ok (.getfield 16, 3) := by decide +kernel
theorem dX10_tellAll_54 : decode cX10_tellAll 54 = .ok (.sipush 600, 3) := by decide +kernel
theorem dX10_tellAll_57 : decode cX10_tellAll 57 = .ok (.iload_n 2, 1) := by decide +kernel
theorem dX10_tellAll_58 : decode cX10_tellAll 58 = .ok (.iadd, 1) := by decide +kernel
theorem dX10_tellAll_59 : decode cX10_tellAll 59 = .ok (.iaload, 1) := by decide +kernel
theorem dX10_tellAll_60 : decode cX10_tellAll 60 = .ok (.iconst 2, 1) := by decide +kernel
theorem dX10_tellAll_61 : decode cX10_tellAll 61 = .ok (.iadd, 1) := by decide +kernel
theorem dX10_tellAll_62 : decode cX10_tellAll 62 = .ok (.iconst 0, 1) := by decide +kernel
theorem dX10_tellAll_63 : decode cX10_tellAll 63 = .ok (.invokevirtual 136, 3) := by decide +kernel
theorem dX10_tellAll_66 : decode cX10_tellAll 66 = .ok (.iinc 2 1, 3) := by decide +kernel
theorem dX10_tellAll_69 : decode cX10_tellAll 69 = .ok (.goto 80, 3) := by decide +kernel
theorem dX10_tellAll_72 : decode cX10_tellAll 72 = .ok (.iload_n 2, 1) := by decide +kernel
theorem dX10_tellAll_73 : decode cX10_tellAll 73 = .ok (.iload_n 3, 1) := by decide +kernel
theorem dX10_tellAll_74 : decode cX10_tellAll 74 = .ok (.iadd, 1) := by decide +kernel
theorem dX10_tellAll_75 : decode cX10_tellAll 75 = .ok (.istore_n 2, 1) := by decide +kernel
theorem dX10_tellAll_76 : decode cX10_tellAll 76 = .ok (.iload_n 3, 1) := by decide +kernel
theorem dX10_tellAll_77 : decode cX10_tellAll 77 = .ok (.iconst 3, 1) := by decide +kernel
theorem dX10_tellAll_78 : decode cX10_tellAll 78 = .ok (.if_icmp .ge 23, 3) := by decide +kernel
theorem dX10_tellAll_81 : decode cX10_tellAll 81 = .ok (.aload_n 0, 1) := by decide +kernel
theorem dX10_tellAll_82 : decode cX10_tellAll 82 = .ok (.iconst 0, 1) := by decide +kernel
theorem dX10_tellAll_83 : decode cX10_tellAll 83 = .ok (.iconst 0, 1) := by decide +kernel
theorem dX10_tellAll_84 : decode cX10_tellAll 84 = .ok (.invokevirtual 136, 3) := by decide +kernel
theorem dX10_tellAll_87 : decode cX10_tellAll 87 = .ok (.iload_n 3, 1) := by decide +kernel
theorem dX10_tellAll_88 : decode cX10_tellAll 88 = .ok (.iconst 2, 1) := by decide +kernel
theorem dX10_tellAll_89 : decode cX10_tellAll 89 = .ok (.if_icmp .ne 60, 3) := by decide +kernel
theorem dX10_tellAll_92 : decode cX10_tellAll 92 = .ok (.aload_n 0, 1) := by decide +kernel
theorem dX10_tellAll_93 : decode cX10_tellAll 93 = .ok (.iconst 0, 1) := by decide +kernel
theorem dX10_tellAll_94 : decode cX10_tellAll 94 = .ok (.iconst 0, 1) := by decide +kernel
theorem dX10_tellAll_95 : decode cX10_tellAll 95 = .ok (.invokevirtual 136, 3) := by decide +kernel
theorem dX10_tellAll_98 : decode cX10_tellAll 98 = .ok (.goto 51, 3) := by decide +kernel
theorem dX10_tellAll_101 : decode cX10_tellAll 101 = .ok (.iload_n 3, 1) := by decide +kernel
theorem dX10_tellAll_102 : decode cX10_tellAll 102 = .ok (.bipush 19, 2) := by decide +kernel
theorem dX10_tellAll_104 : decode cX10_tellAll 104 = .ok (.if_icmp .ge 14, 3) := by decide +kernel
theorem dX10_tellAll_107 : decode cX10_tellAll 107 = .ok (.aload_n 0, 1) := by decide +kernel
theorem dX10_tellAll_108 : decode cX10_tellAll 108 = .ok (.iconst 1, 1) := by decide +kernel
theorem dX10_tellAll_109 : decode cX10_tellAll 109 = .ok (.iload_n 3, 1) := by decide +kernel
theorem dX10_tellAll_110 : decode cX10_tellAll 110 = .ok (.iconst 3, 1) := by decide +kernel
theorem dX10_tellAll_111 : decode cX10_tellAll 111 = .ok (.isub, 1) := by decide +kernel
theorem dX10_tellAll_112 : decode cX10_tellAll 112 = .ok (.invokevirtual 136, 3) := by decide +kernel
theorem dX10_tellAll_115 : decode cX10_tellAll 115 = .ok (.goto 34, 3) := by decide +kernel
theorem dX10_tellAll_118 : decode cX10_tellAll 118 = .ok (.iload_n 3, 1) := by decide +kernel
theorem dX10_tellAll_119 : decode cX10_tellAll 119 = .ok (.bipush 19, 2) := by decide +kernel
theorem dX10_tellAll_121 : decode cX10_tellAll 121 = .ok (.if_icmp .ne 19, 3) := by decide +kernel
theorem dX10_tellAll_124 : decode cX10_tellAll 124 = .ok (.aload_n 0, 1) := by decide +kernel
theorem dX10_tellAll_125 : decode cX10_tellAll 125 = .ok (.iconst 0, 1) := by decide +kernel
theorem dX10_tellAll_126 : decode cX10_tellAll 126 = .ok (.iconst 0, 1) := by decide +kernel
theorem dX10_tellAll_127 : decode cX10_tellAll 127 = .ok (.invokevirtual 136, 3) := by decide +kernel
theorem dX10_tellAll_130 : decode cX10_tellAll 130 = .ok (.aload_n 0, 1) := by decide +kernel
theorem dX10_tellAll_131 : decode cX10_tellAll 131 = .ok (.iconst 1, 1) := by decide +kernel
theorem dX10_tellAll_132 : decode cX10_tellAll 132 = .ok (.bipush 15, 2) := by decide +kernel
theorem dX10_tellAll_134 : decode cX10_tellAll 134 = .ok (.invokevirtual 136, 3) := by decide +kernel
theorem dX10_tellAll_137 : decode cX10_tellAll 137 = .ok (.goto 12, 3) := by decide +kernel
theorem dX10_tellAll_140 : decode cX10_tellAll 140 = .ok (.aload_n 0, 1) := by decide +kernel
theorem dX10_tellAll_141 : decode cX10_tellAll 141 = .ok (.iconst 2, 1) := by decide +kernel
theorem dX10_tellAll_142 : decode cX10_tellAll 142 = .ok (.iload_n 3, 1) := by decide +kernel
theorem dX10_tellAll_143 : decode cX10_tellAll 143 = .ok (.bipush 20, 2) := by decide +kernel
theorem dX10_tellAll_145 : decode cX10_tellAll 145 = .ok (.isub, 1) := by decide +kernel
theorem dX10_tellAll_146 : decode cX10_tellAll 146 = .ok (.invokevirtual 136, 3) := by decide +kernel
theorem dX10_tellAll_149 : decode cX10_tellAll 149 = .ok (.goto (-132), 3) := by decide +kernel
theorem dX10_tellAll_152 : decode cX10_tellAll 152 = .ok (.return_, 1) := by decide +kernel
theorem dX10_giveSmall_0 : decode cX10_giveSmall 0 = .ok (.aload_n 0, 1) := by decide +kernel
theorem dX10_giveSmall_1 : decode cX10_giveSmall 1 = .ok (.getfield 22, 3) := by decide +kernel
theorem dX10_giveSmall_4 : decode cX10_giveSmall 4 = .ok (.iload_n 1, 1) := by decide +kernel
theorem dX10_giveSmall_5 : decode cX10_giveSmall 5 = .ok (.iaload, 1) := by decide +kernel
theorem dX10_giveSmall_6 : decode cX10_giveSmall 6 = .ok (.iconst (-1), 1) := by decide +kernel
theorem dX10_giveSmall_7 : decode cX10_giveSmall 7 = .ok (.if_icmp .eq 21, 3) := by decide +kernel
theorem dX10_giveSmall_10 : decode cX10_giveSmall 10 = .ok (.aload_n 0, 1) := by decide +kernel
theorem dX10_giveSmall_11 : decode cX10_giveSmall 11 = .ok (.iconst 0, 1) := by decide +kernel
theorem dX10_giveSmall_12 : decode cX10_giveSmall 12 = .ok (.iload_n 2, 1) := by decide +kernel
theorem dX10_giveSmall_13 : decode cX10_giveSmall 13 = .ok (.invokevirtual 139, 3) := by decide +kernel
theorem dX10_giveSmall_16 : decode cX10_giveSmall 16 = .ok (.aload_n 0, 1) := by decide +kernel
theorem dX10_giveSmall_17 : decode cX10_giveSmall 17 = .ok (.aload_n 0, 1) := by decide +kernel
theorem dX10_giveSmall_18 : decode cX10_giveSmall 18 = .ok (.getfield 22, 3) := by decide +kernel
theorem dX10_giveSmall_21 : decode cX10_giveSmall 21 = .ok (.iload_n 1, 1) := by decide +kernel
theorem dX10_giveSmall_22 : decode cX10_giveSmall 22 = .ok (.iaload, 1) := by decide +kernel
theorem dX10_giveSmall_23 : decode cX10_giveSmall 23 = .ok (.iload_n 2, 1) := by decide +kernel
theorem dX10_giveSmall_24 : decode cX10_giveSmall 24 = .ok (.invokevirtual 139, 3) := by decide +kernel
theorem dX10_giveSmall_27 : decode cX10_giveSmall 27 = .ok (.return_, 1) := by decide +kernel
theorem dX10_giveSmall_28 : decode cX10_giveSmall 28 = .ok (.aload_n 0, 1) := by decide +kernel
theorem dX10_giveSmall_29 : decode cX10_giveSmall 29 = .ok (.iload_n 1, 1) := by decide +kernel
theorem dX10_giveSmall_30 : decode cX10_giveSmall 30 = .ok (.invokevirtual 133, 3) := by decide +kernel
theorem dX10_giveSmall_33 : decode cX10_giveSmall 33 = .ok (.istore_n 3, 1) := by decide +kernel
theorem dX10_giveSmall_34 : decode cX10_giveSmall 34 = .ok (.aload_n 0, 1) := by decide +kernel
theorem dX10_giveSmall_35 : decode cX10_giveSmall 35 = .ok (.iload_n 3, 1) := by decide +kernel
theorem dX10_giveSmall_36 : decode cX10_giveSmall 36 = .ok (.iload_n 2, 1) := by decide +kernel
theorem dX10_giveSmall_37 : decode cX10_giveSmall 37 = .ok (.invokevirtual 139, 3) := by decide +kernel
theorem dX10_giveSmall_40 : decode cX10_giveSmall 40 = .ok (.iconst 0, 1) := by decide +kernel
theorem dX10_giveSmall_41 : decode cX10_giveSmall 41 = .ok (.istore 4, 2) := by decide +kernel
theorem dX10_giveSmall_43 : decode cX10_giveSmall 43 = .ok (.iload 4, 2) := by decide +kernel
theorem dX10_giveSmall_45 : decode cX10_giveSmall 45 = .ok (.iload_n 3, 1) := by decide +kernel
theorem dX10_giveSmall_46 : decode cX10_giveSmall 46 = .ok (.if_icmp .ge 130, 3) := by decide +kernel
theorem dX10_giveSmall_49 : decode cX10_giveSmall 49 = .ok (.aload_n 0, 1) := by decide +kernel
theorem dX10_giveSmall_50 : decode cX10_giveSmall 50 = .ok (.getfield 16, 3) := by decide +kernel
theorem dX10_giveSmall_53 : decode cX10_giveSmall 53 = .ok (.sipush 600, 3) := by decide +kernel
theorem dX10_giveSmall_56 : decode cX10_giveSmall 56 = .ok (.iload_n 1, 1) := by decide +kernel
theorem dX10_giveSmall_57 : decode cX10_giveSmall 57 = .ok (.imul, 1) := by decide +kernel
theorem dX10_giveSmall_58 : decode cX10_giveSmall 58 = .ok (.iload 4, 2) := by decide +kernel
theorem dX10_giveSmall_60 : decode cX10_giveSmall 60 = .ok (.iadd, 1) := by decide +kernel
theorem dX10_giveSmall_61 : decode cX10_giveSmall 61 = .ok (.iaload, 1) := by decide +kernel
theorem dX10_giveSmall_62 : decode cX10_giveSmall 62 = .ok (.istore 5, 2) := by decide +kernel
theorem dX10_giveSmall_64 : decode cX10_giveSmall 64 = .ok (.aload_n 0, 1) := by decide +kernel
theorem dX10_giveSmall_65 : decode cX10_giveSmall 65 = .ok (.iload 5, 2) := by decide +kernel
theorem dX10_giveSmall_67 : decode cX10_giveSmall 67 = .ok (.bipush 7, 2) := by decide +kernel
theorem dX10_giveSmall_69 : decode cX10_giveSmall 69 = .ok (.if_icmp .ge 8, 3) := by decide +kernel
theorem dX10_giveSmall_72 : decode cX10_giveSmall 72 = .ok (.iload 5, 2) := by decide +kernel
theorem dX10_giveSmall_74 : decode cX10_giveSmall 74 = .ok (.goto 5, 3) := by decide +kernel
theorem dX10_giveSmall_77 : decode cX10_giveSmall 77 = .ok (.bipush 7, 2) := by decide +kernel
theorem dX10_giveSmall_79 : decode cX10_giveSmall 79 = .ok (.iconst 3, 1) := by decide +kernel
theorem dX10_giveSmall_80 : decode cX10_giveSmall 80 = .ok (.invokevirtual 139, 3) := by decide +kernel
theorem dX10_giveSmall_83 : decode cX10_giveSmall 83 = .ok (.bipush 7, 2) := by decide +kernel
theorem dX10_giveSmall_85 : decode cX10_giveSmall 85 = .ok (.istore 6, 2) := by decide +kernel
theorem dX10_giveSmall_87 : decode cX10_giveSmall 87 = .ok (.iload 6, 2) := by decide +kernel
theorem dX10_giveSmall_89 : decode cX10_giveSmall 89 = .ok (.iload 5, 2) := by decide +kernel
theorem dX10_giveSmall_91 : decode cX10_giveSmall 91 = .ok (.if_icmp .ge 15, 3) := by decide +kernel
theorem dX10_giveSmall_94 : decode cX10_giveSmall 94 = .ok (.aload_n 0, 1) := by decide +kernel
theorem dX10_giveSmall_95 : decode cX10_giveSmall 95 = .ok (.iconst 1, 1) := by decide +kernel
theorem dX10_giveSmall_96 : decode cX10_giveSmall 96 = .ok (.iconst 1, 1) := by decide +kernel
theorem dX10_giveSmall_97 : decode cX10_giveSmall 97 = .ok (.invokevirtual 139, 3) := by decide +kernel
theorem dX10_giveSmall_100 : decode cX10_giveSmall 100 = .ok (.iinc 6 1, 3) := by decide +kernel
theorem dX10_giveSmall_103 : decode cX10_giveSmall 103 = .ok (.goto (-16), 3) := by decide +kernel
theorem dX10_giveSmall_106 : decode cX10_giveSmall 106 = .ok (.iload 5, 2) := by decide +kernel
theorem dX10_giveSmall_108 : decode cX10_giveSmall 108 = .ok (.bipush 7, 2) := by decide +kernel
theorem dX10_giveSmall_110 : decode cX10_giveSmall 110 = .ok (.if_icmp .lt 9, 3) := by decide +kernel
theorem dX10_giveSmall_113 : decode cX10_giveSmall 113 = .ok (.aload_n 0, 1) := by decide +kernel
end
section
theorem dX10_giveSmall_114 : decode cX10_giveSmall 114 = .ok (.iconst 0, 1) := by decide +kernel
theorem dX10_giveSmall_115 : decode cX10_giveSmall 115 = .ok (.iconst 1, 1) := by decide +kernel
theorem dX10_giveSmall_116 : decode cX10_giveSmall 116 = .ok (.invokevirtual 139, 3) := by decide +kernel
theorem dX10_giveSmall_119 : decode cX10_giveSmall 119 = .ok (.iinc 4 1, 3) := by decide +kernel
theorem dX10_giveSmall_122 : decode cX10_giveSmall 122 = .ok (.iload_n 1, 1) := by decide +kernel
theorem dX10_giveSmall_123 : decode cX10_giveSmall 123 = .ok (.ifCond .ne 50, 3) := by decide +kernel
theorem dX10_giveSmall_126 : decode cX10_giveSmall 126 = .ok (.iload 4, 2) := by decide +kernel
theorem dX10_giveSmall_128 : decode cX10_giveSmall 128 = .ok (.iconst 3, 1) := by decide +kernel
theorem dX10_giveSmall_129 : decode cX10_giveSmall 129 = .ok (.if_icmp .ne 44, 3) := by decide +kernel
theorem dX10_giveSmall_132 : decode cX10_giveSmall 132 = .ok (.iconst 0, 1) := by decide +kernel
theorem dX10_giveSmall_133 : decode cX10_giveSmall 133 = .ok (.istore 6, 2) := by decide +kernel
theorem dX10_giveSmall_135 : decode cX10_giveSmall 135 = .ok (.iload 6, 2) := by decide +kernel
theorem dX10_giveSmall_137 : decode cX10_giveSmall 137 = .ok (.iconst 3, 1) := by decide +kernel
theorem dX10_giveSmall_138 : decode cX10_giveSmall 138 = .ok (.if_icmp .ge 21, 3) := by decide +kernel
theorem dX10_giveSmall_141 : decode cX10_giveSmall 141 = .ok (.aload_n 0, 1) := by decide +kernel
theorem dX10_giveSmall_142 : decode cX10_giveSmall 142 = .ok (.getfield 16, 3) := by decide +kernel
theorem dX10_giveSmall_145 : decode cX10_giveSmall 145 = .ok (.iconst 3, 1) := by decide +kernel
theorem dX10_giveSmall_146 : decode cX10_giveSmall 146 = .ok (.iload 6, 2) := by decide +kernel
theorem dX10_giveSmall_148 : decode cX10_giveSmall 148 = .ok (.iadd, 1) := by decide +kernel
theorem dX10_giveSmall_149 : decode cX10_giveSmall 149 = .ok (.iaload, 1) := by decide +kernel
theorem dX10_giveSmall_150 : decode cX10_giveSmall 150 = .ok (.ifCond .ne 9, 3) := by decide +kernel
theorem dX10_giveSmall_153 : decode cX10_giveSmall 153 = .ok (.iinc 6 1, 3) := by decide +kernel
theorem dX10_giveSmall_156 : decode cX10_giveSmall 156 = .ok (.goto (-21), 3) := by decide +kernel
theorem dX10_giveSmall_159 : decode cX10_giveSmall 159 = .ok (.aload_n 0, 1) := by decide +kernel
theorem dX10_giveSmall_160 : decode cX10_giveSmall 160 = .ok (.iload 6, 2) := by decide +kernel
theorem dX10_giveSmall_162 : decode cX10_giveSmall 162 = .ok (.iconst 2, 1) := by decide +kernel
theorem dX10_giveSmall_163 : decode cX10_giveSmall 163 = .ok (.invokevirtual 139, 3) := by decide +kernel
theorem dX10_giveSmall_166 : decode cX10_giveSmall 166 = .ok (.iload 4, 2) := by decide +kernel
theorem dX10_giveSmall_168 : decode cX10_giveSmall 168 = .ok (.iload 6, 2) := by decide +kernel
theorem dX10_giveSmall_170 : decode cX10_giveSmall 170 = .ok (.iadd, 1) := by decide +kernel
theorem dX10_giveSmall_171 : decode cX10_giveSmall 171 = .ok (.istore 4, 2) := by decide +kernel
theorem dX10_giveSmall_173 : decode cX10_giveSmall 173 = .ok (.goto (-130), 3) := by decide +kernel
theorem dX10_giveSmall_176 : decode cX10_giveSmall 176 = .ok (.return_, 1) := by decide +kernel
theorem dX10_giveSymbol_0 : decode cX10_giveSymbol 0 = .ok (.aload_n 0, 1) := by decide +kernel
theorem dX10_giveSymbol_1 : decode cX10_giveSymbol 1 = .ok (.getfield 22, 3) := by decide +kernel
theorem dX10_giveSymbol_4 : decode cX10_giveSymbol 4 = .ok (.iload_n 1, 1) := by decide +kernel
theorem dX10_giveSymbol_5 : decode cX10_giveSymbol 5 = .ok (.iaload, 1) := by decide +kernel
theorem dX10_giveSymbol_6 : decode cX10_giveSymbol 6 = .ok (.iconst (-1), 1) := by decide +kernel
theorem dX10_giveSymbol_7 : decode cX10_giveSymbol 7 = .ok (.if_icmp .ne 31, 3) := by decide +kernel
theorem dX10_giveSymbol_10 : decode cX10_giveSymbol 10 = .ok (.aload_n 0, 1) := by decide +kernel
theorem dX10_giveSymbol_11 : decode cX10_giveSymbol 11 = .ok (.aload_n 0, 1) := by decide +kernel
theorem dX10_giveSymbol_12 : decode cX10_giveSymbol 12 = .ok (.getfield 19, 3) := by decide +kernel
theorem dX10_giveSymbol_15 : decode cX10_giveSymbol 15 = .ok (.sipush 600, 3) := by decide +kernel
theorem dX10_giveSymbol_18 : decode cX10_giveSymbol 18 = .ok (.iload_n 1, 1) := by decide +kernel
theorem dX10_giveSymbol_19 : decode cX10_giveSymbol 19 = .ok (.imul, 1) := by decide +kernel
theorem dX10_giveSymbol_20 : decode cX10_giveSymbol 20 = .ok (.iload_n 2, 1) := by decide +kernel
theorem dX10_giveSymbol_21 : decode cX10_giveSymbol 21 = .ok (.iadd, 1) := by decide +kernel
theorem dX10_giveSymbol_22 : decode cX10_giveSymbol 22 = .ok (.iaload, 1) := by decide +kernel
theorem dX10_giveSymbol_23 : decode cX10_giveSymbol 23 = .ok (.aload_n 0, 1) := by decide +kernel
theorem dX10_giveSymbol_24 : decode cX10_giveSymbol 24 = .ok (.getfield 16, 3) := by decide +kernel
theorem dX10_giveSymbol_27 : decode cX10_giveSymbol 27 = .ok (.sipush 600, 3) := by decide +kernel
theorem dX10_giveSymbol_30 : decode cX10_giveSymbol 30 = .ok (.iload_n 1, 1) := by decide +kernel
theorem dX10_giveSymbol_31 : decode cX10_giveSymbol 31 = .ok (.imul, 1) := by decide +kernel
theorem dX10_giveSymbol_32 : decode cX10_giveSymbol 32 = .ok (.iload_n 2, 1) := by decide +kernel
theorem dX10_giveSymbol_33 : decode cX10_giveSymbol 33 = .ok (.iadd, 1) := by decide +kernel
theorem dX10_giveSymbol_34 : decode cX10_giveSymbol 34 = .ok (.iaload, 1) := by decide +kernel
theorem dX10_giveSymbol_35 : decode cX10_giveSymbol 35 = .ok (.invokevirtual 139, 3) := by decide +kernel
theorem dX10_giveSymbol_38 : decode cX10_giveSymbol 38 = .ok (.return_, 1) := by decide +kernel
theorem dX10_block_0 : decode cX10_block 0 = .ok (.aload_n 0, 1) := by decide +kernel
theorem dX10_block_1 : decode cX10_block 1 = .ok (.invokevirtual 76, 3) := by decide +kernel
theorem dX10_block_4 : decode cX10_block 4 = .ok (.aload_n 0, 1) := by decide +kernel
theorem dX10_block_5 : decode cX10_block 5 = .ok (.dup, 1) := by decide +kernel
theorem dX10_block_6 : decode cX10_block 6 = .ok (.getfield 61, 3) := by decide +kernel
theorem dX10_block_9 : decode cX10_block 9 = .ok (.iconst 1, 1) := by decide +kernel
theorem dX10_block_10 : decode cX10_block 10 = .ok (.iadd, 1) := by decide +kernel
theorem dX10_block_11 : decode cX10_block 11 = .ok (.putfield 61, 3) := by decide +kernel
theorem dX10_block_14 : decode cX10_block 14 = .ok (.aload_n 0, 1) := by decide +kernel
theorem dX10_block_15 : decode cX10_block 15 = .ok (.invokevirtual 130, 3) := by decide +kernel
theorem dX10_block_18 : decode cX10_block 18 = .ok (.iload_n 1, 1) := by decide +kernel
theorem dX10_block_19 : decode cX10_block 19 = .ok (.istore_n 3, 1) := by decide +kernel
theorem dX10_block_20 : decode cX10_block 20 = .ok (.iload_n 3, 1) := by decide +kernel
theorem dX10_block_21 : decode cX10_block 21 = .ok (.iload_n 1, 1) := by decide +kernel
theorem dX10_block_22 : decode cX10_block 22 = .ok (.iload_n 2, 1) := by decide +kernel
theorem dX10_block_23 : decode cX10_block 23 = .ok (.iadd, 1) := by decide +kernel
theorem dX10_block_24 : decode cX10_block 24 = .ok (.if_icmp .ge 24, 3) := by decide +kernel
theorem dX10_block_27 : decode cX10_block 27 = .ok (.aload_n 0, 1) := by decide +kernel
theorem dX10_block_28 : decode cX10_block 28 = .ok (.getfield 41, 3) := by decide +kernel
theorem dX10_block_31 : decode cX10_block 31 = .ok (.aload_n 0, 1) := by decide +kernel
theorem dX10_block_32 : decode cX10_block 32 = .ok (.getfield 25, 3) := by decide +kernel
theorem dX10_block_35 : decode cX10_block 35 = .ok (.iload_n 3, 1) := by decide +kernel
theorem dX10_block_36 : decode cX10_block 36 = .ok (.iaload, 1) := by decide +kernel
theorem dX10_block_37 : decode cX10_block 37 = .ok (.dup2, 1) := by decide +kernel
theorem dX10_block_38 : decode cX10_block 38 = .ok (.iaload, 1) := by decide +kernel
theorem dX10_block_39 : decode cX10_block 39 = .ok (.iconst 1, 1) := by decide +kernel
theorem dX10_block_40 : decode cX10_block 40 = .ok (.iadd, 1) := by decide +kernel
theorem dX10_block_41 : decode cX10_block 41 = .ok (.iastore, 1) := by decide +kernel
theorem dX10_block_42 : decode cX10_block 42 = .ok (.iinc 3 1, 3) := by decide +kernel
theorem dX10_block_45 : decode cX10_block 45 = .ok (.goto (-25), 3) := by decide +kernel
theorem dX10_block_48 : decode cX10_block 48 = .ok (.aload_n 0, 1) := by decide +kernel
theorem dX10_block_49 : decode cX10_block 49 = .ok (.iconst 1, 1) := by decide +kernel
theorem dX10_block_50 : decode cX10_block 50 = .ok (.invokevirtual 142, 3) := by decide +kernel
theorem dX10_block_53 : decode cX10_block 53 = .ok (.aload_n 0, 1) := by decide +kernel
theorem dX10_block_54 : decode cX10_block 54 = .ok (.invokevirtual 130, 3) := by decide +kernel
theorem dX10_block_57 : decode cX10_block 57 = .ok (.iload_n 1, 1) := by decide +kernel
theorem dX10_block_58 : decode cX10_block 58 = .ok (.istore_n 3, 1) := by decide +kernel
theorem dX10_block_59 : decode cX10_block 59 = .ok (.iload_n 3, 1) := by decide +kernel
theorem dX10_block_60 : decode cX10_block 60 = .ok (.iload_n 1, 1) := by decide +kernel
theorem dX10_block_61 : decode cX10_block 61 = .ok (.iload_n 2, 1) := by decide +kernel
theorem dX10_block_62 : decode cX10_block 62 = .ok (.iadd, 1) := by decide +kernel
theorem dX10_block_63 : decode cX10_block 63 = .ok (.if_icmp .ge 36, 3) := by decide +kernel
theorem dX10_block_66 : decode cX10_block 66 = .ok (.aload_n 0, 1) := by decide +kernel
theorem dX10_block_67 : decode cX10_block 67 = .ok (.getfield 28, 3) := by decide +kernel
theorem dX10_block_70 : decode cX10_block 70 = .ok (.iload_n 3, 1) := by decide +kernel
theorem dX10_block_71 : decode cX10_block 71 = .ok (.iaload, 1) := by decide +kernel
theorem dX10_block_72 : decode cX10_block 72 = .ok (.ifCond .le 21, 3) := by decide +kernel
theorem dX10_block_75 : decode cX10_block 75 = .ok (.aload_n 0, 1) := by decide +kernel
theorem dX10_block_76 : decode cX10_block 76 = .ok (.getfield 41, 3) := by decide +kernel
theorem dX10_block_79 : decode cX10_block 79 = .ok (.aload_n 0, 1) := by decide +kernel
theorem dX10_block_80 : decode cX10_block 80 = .ok (.getfield 28, 3) := by decide +kernel
theorem dX10_block_83 : decode cX10_block 83 = .ok (.iload_n 3, 1) := by decide +kernel
theorem dX10_block_84 : decode cX10_block 84 = .ok (.iaload, 1) := by decide +kernel
theorem dX10_block_85 : decode cX10_block 85 = .ok (.invokestatic 145, 3) := by decide +kernel
theorem dX10_block_88 : decode cX10_block 88 = .ok (.dup2, 1) := by decide +kernel
theorem dX10_block_89 : decode cX10_block 89 = .ok (.iaload, 1) := by decide +kernel
theorem dX10_block_90 : decode cX10_block 90 = .ok (.iconst 1, 1) := by decide +kernel
theorem dX10_block_91 : decode cX10_block 91 = .ok (.iadd, 1) := by decide +kernel
theorem dX10_block_92 : decode cX10_block 92 = .ok (.iastore, 1) := by decide +kernel
theorem dX10_block_93 : decode cX10_block 93 = .ok (.iinc 3 1, 3) := by decide +kernel
theorem dX10_block_96 : decode cX10_block 96 = .ok (.goto (-37), 3) := by decide +kernel
theorem dX10_block_99 : decode cX10_block 99 = .ok (.aload_n 0, 1) := by decide +kernel
theorem dX10_block_100 : decode cX10_block 100 = .ok (.iconst 2, 1) := by decide +kernel
theorem dX10_block_101 : decode cX10_block 101 = .ok (.invokevirtual 142, 3) := by decide +kernel
theorem dX10_block_104 : decode cX10_block 104 = .ok (.aload_n 0, 1) := by decide +kernel
theorem dX10_block_105 : decode cX10_block 105 = .ok (.iload_n 2, 1) := by decide +kernel
theorem dX10_block_106 : decode cX10_block 106 = .ok (.bipush 16, 2) := by decide +kernel
theorem dX10_block_108 : decode cX10_block 108 = .ok (.invokevirtual 139, 3) := by decide +kernel
theorem dX10_block_111 : decode cX10_block 111 = .ok (.aload_n 0, 1) := by decide +kernel
theorem dX10_block_112 : decode cX10_block 112 = .ok (.getfield 22, 3) := by decide +kernel
theorem dX10_block_115 : decode cX10_block 115 = .ok (.iconst 1, 1) := by decide +kernel
theorem dX10_block_116 : decode cX10_block 116 = .ok (.iaload, 1) := by decide +kernel
theorem dX10_block_117 : decode cX10_block 117 = .ok (.iconst (-1), 1) := by decide +kernel
theorem dX10_block_118 : decode cX10_block 118 = .ok (.if_icmp .eq 38, 3) := by decide +kernel
theorem dX10_block_121 : decode cX10_block 121 = .ok (.aload_n 0, 1) := by decide +kernel
theorem dX10_block_122 : decode cX10_block 122 = .ok (.getfield 22, 3) := by decide +kernel
theorem dX10_block_125 : decode cX10_block 125 = .ok (.iconst 0, 1) := by decide +kernel
theorem dX10_block_126 : decode cX10_block 126 = .ok (.iconst 0, 1) := by decide +kernel
theorem dX10_block_127 : decode cX10_block 127 = .ok (.iastore, 1) := by decide +kernel
theorem dX10_block_128 : decode cX10_block 128 = .ok (.aload_n 0, 1) := by decide +kernel
theorem dX10_block_129 : decode cX10_block 129 = .ok (.iconst 0, 1) := by decide +kernel
theorem dX10_block_130 : decode cX10_block 130 = .ok (.iconst 5, 1) := by decide +kernel
theorem dX10_block_131 : decode cX10_block 131 = .ok (.invokevirtual 148, 3) := by decide +kernel
theorem dX10_block_134 : decode cX10_block 134 = .ok (.aload_n 0, 1) := by decide +kernel
theorem dX10_block_135 : decode cX10_block 135 = .ok (.iconst 0, 1) := by decide +kernel
theorem dX10_block_136 : decode cX10_block 136 = .ok (.bipush 9, 2) := by decide +kernel
theorem dX10_block_138 : decode cX10_block 138 = .ok (.invokevirtual 139, 3) := by decide +kernel
theorem dX10_block_141 : decode cX10_block 141 = .ok (.aload_n 0, 1) := by decide +kernel
theorem dX10_block_142 : decode cX10_block 142 = .ok (.aload_n 0, 1) := by decide +kernel
theorem dX10_block_143 : decode cX10_block 143 = .ok (.getfield 22, 3) := by decide +kernel
theorem dX10_block_146 : decode cX10_block 146 = .ok (.iconst 1, 1) := by decide +kernel
theorem dX10_block_147 : decode cX10_block 147 = .ok (.iaload, 1) := by decide +kernel
theorem dX10_block_148 : decode cX10_block 148 = .ok (.bipush 9, 2) := by decide +kernel
theorem dX10_block_150 : decode cX10_block 150 = .ok (.invokevirtual 139, 3) := by decide +kernel
theorem dX10_block_153 : decode cX10_block 153 = .ok (.goto 96, 3) := by decide +kernel
theorem dX10_block_156 : decode cX10_block 156 = .ok (.aload_n 0, 1) := by decide +kernel
theorem dX10_block_157 : decode cX10_block 157 = .ok (.invokevirtual 151, 3) := by decide +kernel
theorem dX10_block_160 : decode cX10_block 160 = .ok (.aload_n 0, 1) := by decide +kernel
theorem dX10_block_161 : decode cX10_block 161 = .ok (.iconst 0, 1) := by decide +kernel
theorem dX10_block_162 : decode cX10_block 162 = .ok (.invokevirtual 142, 3) := by decide +kernel
theorem dX10_block_165 : decode cX10_block 165 = .ok (.aload_n 0, 1) := by decide +kernel
theorem dX10_block_166 : decode cX10_block 166 = .ok (.iconst 0, 1) := by decide +kernel
theorem dX10_block_167 : decode cX10_block 167 = .ok (.iconst 5, 1) := by decide +kernel
theorem dX10_block_168 : decode cX10_block 168 = .ok (.invokevirtual 148, 3) := by decide +kernel
theorem dX10_block_171 : decode cX10_block 171 = .ok (.aload_n 0, 1) := by decide +kernel
theorem dX10_block_172 : decode cX10_block 172 = .ok (.aload_n 0, 1) := by decide +kernel
theorem dX10_block_173 : decode cX10_block 173 = .ok (.iconst 1, 1) := by decide +kernel
theorem dX10_block_174 : decode cX10_block 174 = .ok (.invokevirtual 133, 3) := by decide +kernel
theorem dX10_block_177 : decode cX10_block 177 = .ok (.bipush 9, 2) := by decide +kernel
theorem dX10_block_179 : decode cX10_block 179 = .ok (.invokevirtual 139, 3) := by decide +kernel
theorem dX10_block_182 : decode cX10_block 182 = .ok (.iconst 0, 1) := by decide +kernel
theorem dX10_block_183 : decode cX10_block 183 = .ok (.istore_n 3, 1) := by decide +kernel
theorem dX10_block_184 : decode cX10_block 184 = .ok (.iload_n 3, 1) := by decide +kernel
theorem dX10_block_185 : decode cX10_block 185 = .ok (.aload_n 0, 1) := by decide +kernel
theorem dX10_block_186 : decode cX10_block 186 = .ok (.getfield 127, 3) := by decide +kernel
theorem dX10_block_189 : decode cX10_block 189 = .ok (.if_icmp .ge 60, 3) := by decide +kernel
theorem dX10_block_192 : decode cX10_block 192 = .ok (.aload_n 0, 1) := by decide +kernel
theorem dX10_block_193 : decode cX10_block 193 = .ok (.iconst 0, 1) := by decide +kernel
theorem dX10_block_194 : decode cX10_block 194 = .ok (.aload_n 0, 1) := by decide +kernel
theorem dX10_block_195 : decode cX10_block 195 = .ok (.getfield 44, 3) := by decide +kernel
theorem dX10_block_198 : decode cX10_block 198 = .ok (.iload_n 3, 1) := by decide +kernel
theorem dX10_block_199 : decode cX10_block 199 = .ok (.iaload, 1) := by decide +kernel
theorem dX10_block_200 : decode cX10_block 200 = .ok (.invokevirtual 154, 3) := by decide +kernel
theorem dX10_block_203 : decode cX10_block 203 = .ok (.aload_n 0, 1) := by decide +kernel
theorem dX10_block_204 : decode cX10_block 204 = .ok (.aload_n 0, 1) := by decide +kernel
theorem dX10_block_205 : decode cX10_block 205 = .ok (.getfield 47, 3) := by decide +kernel
theorem dX10_block_208 : decode cX10_block 208 = .ok (.iload_n 3, 1) := by decide +kernel
theorem dX10_block_209 : decode cX10_block 209 = .ok (.iaload, 1) := by decide +kernel
theorem dX10_block_210 : decode cX10_block 210 = .ok (.aload_n 0, 1) := by decide +kernel
theorem dX10_block_211 : decode cX10_block 211 = .ok (.getfield 44, 3) := by decide +kernel
theorem dX10_block_214 : decode cX10_block 214 = .ok (.iload_n 3, 1) := by decide +kernel
theorem dX10_block_215 : decode cX10_block 215 = .ok (.iaload, 1) := by decide +kernel
theorem dX10_block_216 : decode cX10_block 216 = .ok (.iconst 1, 1) := by decide +kernel
theorem dX10_block_217 : decode cX10_block 217 = .ok (.if_icmp .ne 7, 3) := by decide +kernel
theorem dX10_block_220 : decode cX10_block 220 = .ok (.iconst 4, 1) := by decide +kernel
theorem dX10_block_221 : decode cX10_block 221 = .ok (.goto 19, 3) := by decide +kernel
theorem dX10_block_224 : decode cX10_block 224 = .ok (.aload_n 0, 1) := by decide +kernel
theorem dX10_block_225 : decode cX10_block 225 = .ok (.getfield 44, 3) := by decide +kernel
theorem dX10_block_228 : decode cX10_block 228 = .ok (.iload_n 3, 1) := by decide +kernel
theorem dX10_block_229 : decode cX10_block 229 = .ok (.iaload, 1) := by decide +kernel
theorem dX10_block_230 : decode cX10_block 230 = .ok (.iconst 2, 1) := by decide +kernel
theorem dX10_block_231 : decode cX10_block 231 = .ok (.if_icmp .ne 8, 3) := by decide +kernel
theorem dX10_block_234 : decode cX10_block 234 = .ok (.bipush 9, 2) := by decide +kernel
theorem dX10_block_236 : decode cX10_block 236 = .ok (.goto 4, 3) := by decide +kernel
theorem dX10_block_239 : decode cX10_block 239 = .ok (.iconst 0, 1) := by decide +kernel
theorem dX10_block_240 : decode cX10_block 240 = .ok (.invokevirtual 139, 3) := by decide +kernel
theorem dX10_block_243 : decode cX10_block 243 = .ok (.iinc 3 1, 3) := by decide +kernel
theorem dX10_block_246 : decode cX10_block 246 = .ok (.goto (-62), 3) := by decide +kernel
theorem dX10_block_249 : decode cX10_block 249 = .ok (.aload_n 0, 1) := by decide +kernel
theorem dX10_block_250 : decode cX10_block 250 = .ok (.iconst 2, 1) := by decide +kernel
theorem dX10_block_251 : decode cX10_block 251 = .ok (.iconst 4, 1) := by decide +kernel
theorem dX10_block_252 : decode cX10_block 252 = .ok (.invokevirtual 148, 3) := by decide +kernel
theorem dX10_block_255 : decode cX10_block 255 = .ok (.iload_n 1, 1) := by decide +kernel
theorem dX10_block_256 : decode cX10_block 256 = .ok (.istore_n 3, 1) := by decide +kernel
theorem dX10_block_257 : decode cX10_block 257 = .ok (.iload_n 3, 1) := by decide +kernel
theorem dX10_block_258 : decode cX10_block 258 = .ok (.iload_n 1, 1) := by decide +kernel
theorem dX10_block_259 : decode cX10_block 259 = .ok (.iload_n 2, 1) := by decide +kernel
theorem dX10_block_260 : decode cX10_block 260 = .ok (.iadd, 1) := by decide +kernel
theorem dX10_block_261 : decode cX10_block 261 = .ok (.if_icmp .ge 108, 3) := by decide +kernel
theorem dX10_block_264 : decode cX10_block 264 = .ok (.aload_n 0, 1) := by decide +kernel
theorem dX10_block_265 : decode cX10_block 265 = .ok (.iconst 1, 1) := by decide +kernel
theorem dX10_block_266 : decode cX10_block 266 = .ok (.aload_n 0, 1) := by decide +kernel
theorem dX10_block_267 : decode cX10_block 267 = .ok (.getfield 25, 3) := by decide +kernel
theorem dX10_block_270 : decode cX10_block 270 = .ok (.iload_n 3, 1) := by decide +kernel
theorem dX10_block_271 : decode cX10_block 271 = .ok (.iaload, 1) := by decide +kernel
theorem dX10_block_272 : decode cX10_block 272 = .ok (.invokevirtual 154, 3) := by decide +kernel
theorem dX10_block_275 : decode cX10_block 275 = .ok (.aload_n 0, 1) := by decide +kernel
theorem dX10_block_276 : decode cX10_block 276 = .ok (.dup, 1) := by decide +kernel
theorem dX10_block_277 : decode cX10_block 277 = .ok (.getfield 64, 3) := by decide +kernel
theorem dX10_block_280 : decode cX10_block 280 = .ok (.iconst 1, 1) := by decide +kernel
theorem dX10_block_281 : decode cX10_block 281 = .ok (.iadd, 1) := by decide +kernel
theorem dX10_block_282 : decode cX10_block 282 = .ok (.putfield 64, 3) := by decide +kernel
theorem dX10_block_285 : decode cX10_block 285 = .ok (.aload_n 0, 1) := by decide +kernel
theorem dX10_block_286 : decode cX10_block 286 = .ok (.getfield 28, 3) := by decide +kernel
theorem dX10_block_289 : decode cX10_block 289 = .ok (.iload_n 3, 1) := by decide +kernel
theorem dX10_block_290 : decode cX10_block 290 = .ok (.iaload, 1) := by decide +kernel
theorem dX10_block_291 : decode cX10_block 291 = .ok (.ifCond .le 72, 3) := by decide +kernel
theorem dX10_block_294 : decode cX10_block 294 = .ok (.aload_n 0, 1) := by decide +kernel
theorem dX10_block_295 : decode cX10_block 295 = .ok (.dup, 1) := by decide +kernel
theorem dX10_block_296 : decode cX10_block 296 = .ok (.getfield 67, 3) := by decide +kernel
theorem dX10_block_299 : decode cX10_block 299 = .ok (.iconst 1, 1) := by decide +kernel
theorem dX10_block_300 : decode cX10_block 300 = .ok (.iadd, 1) := by decide +kernel
theorem dX10_block_301 : decode cX10_block 301 = .ok (.putfield 67, 3) := by decide +kernel
theorem dX10_block_304 : decode cX10_block 304 = .ok (.aload_n 0, 1) := by decide +kernel
theorem dX10_block_305 : decode cX10_block 305 = .ok (.getfield 28, 3) := by decide +kernel
theorem dX10_block_308 : decode cX10_block 308 = .ok (.iload_n 3, 1) := by decide +kernel
theorem dX10_block_309 : decode cX10_block 309 = .ok (.iaload, 1) := by decide +kernel
theorem dX10_block_310 : decode cX10_block 310 = .ok (.invokestatic 145, 3) := by decide +kernel
theorem dX10_block_313 : decode cX10_block 313 = .ok (.istore 4, 2) := by decide +kernel
theorem dX10_block_315 : decode cX10_block 315 = .ok (.aload_n 0, 1) := by decide +kernel
theorem dX10_block_316 : decode cX10_block 316 = .ok (.iconst 2, 1) := by decide +kernel
theorem dX10_block_317 : decode cX10_block 317 = .ok (.iload 4, 2) := by decide +kernel
theorem dX10_block_319 : decode cX10_block 319 = .ok (.invokevirtual 154, 3) := by decide +kernel
theorem dX10_block_322 : decode cX10_block 322 = .ok (.aload_n 0, 1) := by decide +kernel
theorem dX10_block_323 : decode cX10_block 323 = .ok (.iload 4, 2) := by decide +kernel
theorem dX10_block_325 : decode cX10_block 325 = .ok (.ifCond .ne 7, 3) := by decide +kernel
theorem dX10_block_328 : decode cX10_block 328 = .ok (.iconst 0, 1) := by decide +kernel
theorem dX10_block_329 : decode cX10_block 329 = .ok (.goto 18, 3) := by decide +kernel
theorem dX10_block_332 : decode cX10_block 332 = .ok (.aload_n 0, 1) := by decide +kernel
theorem dX10_block_333 : decode cX10_block 333 = .ok (.getfield 28, 3) := by decide +kernel
theorem dX10_block_336 : decode cX10_block 336 = .ok (.iload_n 3, 1) := by decide +kernel
theorem dX10_block_337 : decode cX10_block 337 = .ok (.iaload, 1) := by decide +kernel
theorem dX10_block_338 : decode cX10_block 338 = .ok (.iconst 1, 1) := by decide +kernel
theorem dX10_block_339 : decode cX10_block 339 = .ok (.isub, 1) := by decide +kernel
theorem dX10_block_340 : decode cX10_block 340 = .ok (.iconst 1, 1) := by decide +kernel
theorem dX10_block_341 : decode cX10_block 341 = .ok (.iload 4, 2) := by decide +kernel
theorem dX10_block_343 : decode cX10_block 343 = .ok (.iconst 1, 1) := by decide +kernel
theorem dX10_block_344 : decode cX10_block 344 = .ok (.isub, 1) := by decide +kernel
theorem dX10_block_345 : decode cX10_block 345 = .ok (.ishl, 1) := by decide +kernel
theorem dX10_block_346 : decode cX10_block 346 = .ok (.isub, 1) := by decide +kernel
theorem dX10_block_347 : decode cX10_block 347 = .ok (.iload 4, 2) := by decide +kernel
theorem dX10_block_349 : decode cX10_block 349 = .ok (.ifCond .ne 7, 3) := by decide +kernel
theorem dX10_block_352 : decode cX10_block 352 = .ok (.iconst 0, 1) := by decide +kernel
theorem dX10_block_353 : decode cX10_block 353 = .ok (.goto 7, 3) := by decide +kernel
theorem dX10_block_356 : decode cX10_block 356 = .ok (.iload 4, 2) := by decide +kernel
theorem dX10_block_358 : decode cX10_block 358 = .ok (.iconst 1, 1) := by decide +kernel
theorem dX10_block_359 : decode cX10_block 359 = .ok (.isub, 1) := by decide +kernel
theorem dX10_block_360 : decode cX10_block 360 = .ok (.invokevirtual 139, 3) := by decide +kernel
theorem dX10_block_363 : decode cX10_block 363 = .ok (.iinc 3 1, 3) := by decide +kernel
theorem dX10_block_366 : decode cX10_block 366 = .ok (.goto (-109), 3) := by decide +kernel
theorem dX10_block_369 : decode cX10_block 369 = .ok (.return_, 1) := by decide +kernel
theorem dX10_write_0 : decode cX10_write 0 = .ok (.iload_n 1, 1) := by decide +kernel
theorem dX10_write_1 : decode cX10_write 1 = .ok (.ifCond .lt 11, 3) := by decide +kernel
theorem dX10_write_4 : decode cX10_write 4 = .ok (.iload_n 1, 1) := by decide +kernel
theorem dX10_write_5 : decode cX10_write 5 = .ok (.aload_n 0, 1) := by decide +kernel
theorem dX10_write_6 : decode cX10_write 6 = .ok (.getfield 50, 3) := by decide +kernel
theorem dX10_write_9 : decode cX10_write 9 = .ok (.if_icmp .le 5, 3) := by decide +kernel
theorem dX10_write_12 : decode cX10_write 12 = .ok (.iconst (-1), 1) := by decide +kernel
theorem dX10_write_13 : decode cX10_write 13 = .ok (.ireturn, 1) := by decide +kernel
theorem dX10_write_14 : decode cX10_write 14 = .ok (.aload_n 0, 1) := by decide +kernel
theorem dX10_write_15 : decode cX10_write 15 = .ok (.invokevirtual 107, 3) := by decide +kernel
theorem dX10_write_18 : decode cX10_write 18 = .ok (.aload_n 0, 1) := by decide +kernel
theorem dX10_write_19 : decode cX10_write 19 = .ok (.iload_n 1, 1) := by decide +kernel
theorem dX10_write_20 : decode cX10_write 20 = .ok (.invokevirtual 157, 3) := by decide +kernel
theorem dX10_write_23 : decode cX10_write 23 = .ok (.istore_n 2, 1) := by decide +kernel
theorem dX10_write_24 : decode cX10_write 24 = .ok (.iconst 0, 1) := by decide +kernel
theorem dX10_write_25 : decode cX10_write 25 = .ok (.istore_n 3, 1) := by decide +kernel
theorem dX10_write_26 : decode cX10_write 26 = .ok (.iload_n 3, 1) := by decide +kernel
theorem dX10_write_27 : decode cX10_write 27 = .ok (.iload_n 2, 1) := by decide +kernel
theorem dX10_write_28 : decode cX10_write 28 = .ok (.if_icmp .ge 35, 3) := by decide +kernel
theorem dX10_write_31 : decode cX10_write 31 = .ok (.aload_n 0, 1) := by decide +kernel
theorem dX10_write_32 : decode cX10_write 32 = .ok (.iload_n 3, 1) := by decide +kernel
theorem dX10_write_33 : decode cX10_write 33 = .ok (.iload_n 2, 1) := by decide +kernel
theorem dX10_write_34 : decode cX10_write 34 = .ok (.iload_n 3, 1) := by decide +kernel
theorem dX10_write_35 : decode cX10_write 35 = .ok (.isub, 1) := by decide +kernel
theorem dX10_write_36 : decode cX10_write 36 = .ok (.sipush 400, 3) := by decide +kernel
theorem dX10_write_39 : decode cX10_write 39 = .ok (.if_icmp .ge 9, 3) := by decide +kernel
theorem dX10_write_42 : decode cX10_write 42 = .ok (.iload_n 2, 1) := by decide +kernel
theorem dX10_write_43 : decode cX10_write 43 = .ok (.iload_n 3, 1) := by decide +kernel
theorem dX10_write_44 : decode cX10_write 44 = .ok (.isub, 1) := by decide +kernel
theorem dX10_write_45 : decode cX10_write 45 = .ok (.goto 6, 3) := by decide +kernel
theorem dX10_write_48 : decode cX10_write 48 = .ok (.sipush 400, 3) := by decide +kernel
theorem dX10_write_51 : decode cX10_write 51 = .ok (.invokevirtual 160, 3) := by decide +kernel
theorem dX10_write_54 : decode cX10_write 54 = .ok (.iinc 3 400, 6) := by decide +kernel
theorem dX10_write_60 : decode cX10_write 60 = .ok (.goto (-34), 3) := by decide +kernel
theorem dX10_write_63 : decode cX10_write 63 = .ok (.aload_n 0, 1) := by decide +kernel
theorem dX10_write_64 : decode cX10_write 64 = .ok (.getfield 54, 3) := by decide +kernel
theorem dX10_write_67 : decode cX10_write 67 = .ok (.ireturn, 1) := by decide +kernel
theorem dX10_back_0 : decode cX10_back 0 = .ok (.aload_n 0, 1) := by decide +kernel
theorem dX10_back_1 : decode cX10_back 1 = .ok (.getfield 54, 3) := by decide +kernel
theorem dX10_back_4 : decode cX10_back 4 = .ok (.sipush 4000, 3) := by decide +kernel
theorem dX10_back_7 : decode cX10_back 7 = .ok (.if_icmp .le 5, 3) := by decide +kernel
theorem dX10_back_10 : decode cX10_back 10 = .ok (.iconst (-1), 1) := by decide +kernel
theorem dX10_back_11 : decode cX10_back 11 = .ok (.ireturn, 1) := by decide +kernel
theorem dX10_back_12 : decode cX10_back 12 = .ok (.iconst 0, 1) := by decide +kernel
theorem dX10_back_13 : decode cX10_back 13 = .ok (.istore_n 1, 1) := by decide +kernel
theorem dX10_back_14 : decode cX10_back 14 = .ok (.iload_n 1, 1) := by decide +kernel
theorem dX10_back_15 : decode cX10_back 15 = .ok (.aload_n 0, 1) := by decide +kernel
theorem dX10_back_16 : decode cX10_back 16 = .ok (.getfield 54, 3) := by decide +kernel
theorem dX10_back_19 : decode cX10_back 19 = .ok (.if_icmp .ge 21, 3) := by decide +kernel
theorem dX10_back_22 : decode cX10_back 22 = .ok (.aload_n 0, 1) := by decide +kernel
theorem dX10_back_23 : decode cX10_back 23 = .ok (.getfield 7, 3) := by decide +kernel
theorem dX10_back_26 : decode cX10_back 26 = .ok (.iload_n 1, 1) := by decide +kernel
theorem dX10_back_27 : decode cX10_back 27 = .ok (.aload_n 0, 1) := by decide +kernel
theorem dX10_back_28 : decode cX10_back 28 = .ok (.getfield 13, 3) := by decide +kernel
theorem dX10_back_31 : decode cX10_back 31 = .ok (.iload_n 1, 1) := by decide +kernel
theorem dX10_back_32 : decode cX10_back 32 = .ok (.iaload, 1) := by decide +kernel
theorem dX10_back_33 : decode cX10_back 33 = .ok (.iastore, 1) := by decide +kernel
theorem dX10_back_34 : decode cX10_back 34 = .ok (.iinc 1 1, 3) := by decide +kernel
theorem dX10_back_37 : decode cX10_back 37 = .ok (.goto (-23), 3) := by decide +kernel
theorem dX10_back_40 : decode cX10_back 40 = .ok (.aload_n 0, 1) := by decide +kernel
theorem dX10_back_41 : decode cX10_back 41 = .ok (.aload_n 0, 1) := by decide +kernel
theorem dX10_back_42 : decode cX10_back 42 = .ok (.getfield 54, 3) := by decide +kernel
theorem dX10_back_45 : decode cX10_back 45 = .ok (.putfield 50, 3) := by decide +kernel
theorem dX10_back_48 : decode cX10_back 48 = .ok (.aload_n 0, 1) := by decide +kernel
theorem dX10_back_49 : decode cX10_back 49 = .ok (.getfield 50, 3) := by decide +kernel
theorem dX10_back_52 : decode cX10_back 52 = .ok (.ireturn, 1) := by decide +kernel
theorem dX10_made_0 : decode cX10_made 0 = .ok (.aload_n 0, 1) := by decide +kernel
theorem dX10_made_1 : decode cX10_made 1 = .ok (.getfield 54, 3) := by decide +kernel
theorem dX10_made_4 : decode cX10_made 4 = .ok (.ireturn, 1) := by decide +kernel
theorem dX10_out_0 : decode cX10_out 0 = .ok (.iload_n 1, 1) := by decide +kernel
theorem dX10_out_1 : decode cX10_out 1 = .ok (.ifCond .lt 11, 3) := by decide +kernel
theorem dX10_out_4 : decode cX10_out 4 = .ok (.iload_n 1, 1) := by decide +kernel
theorem dX10_out_5 : decode cX10_out 5 = .ok (.aload_n 0, 1) := by decide +kernel
theorem dX10_out_6 : decode cX10_out 6 = .ok (.getfield 54, 3) := by decide +kernel
theorem dX10_out_9 : decode cX10_out 9 = .ok (.if_icmp .lt 7, 3) := by decide +kernel
theorem dX10_out_12 : decode cX10_out 12 = .ok (.iconst (-1), 1) := by decide +kernel
theorem dX10_out_13 : decode cX10_out 13 = .ok (.goto 9, 3) := by decide +kernel
theorem dX10_out_16 : decode cX10_out 16 = .ok (.aload_n 0, 1) := by decide +kernel
theorem dX10_out_17 : decode cX10_out 17 = .ok (.getfield 13, 3) := by decide +kernel
theorem dX10_out_20 : decode cX10_out 20 = .ok (.iload_n 1, 1) := by decide +kernel
theorem dX10_out_21 : decode cX10_out 21 = .ok (.iaload, 1) := by decide +kernel
theorem dX10_out_22 : decode cX10_out 22 = .ok (.ireturn, 1) := by decide +kernel
theorem dX10_told_0 : decode cX10_told 0 = .ok (.aload_n 0, 1) := by decide +kernel
theorem dX10_told_1 : decode cX10_told 1 = .ok (.getfield 57, 3) := by decide +kernel
theorem dX10_told_4 : decode cX10_told 4 = .ok (.ifCond .ne 7, 3) := by decide +kernel
theorem dX10_told_7 : decode cX10_told 7 = .ok (.iconst (-1), 1) := by decide +kernel
theorem dX10_told_8 : decode cX10_told 8 = .ok (.goto 51, 3) := by decide +kernel
theorem dX10_told_11 : decode cX10_told 11 = .ok (.iload_n 1, 1) := by decide +kernel
theorem dX10_told_12 : decode cX10_told 12 = .ok (.ifCond .ne 10, 3) := by decide +kernel
theorem dX10_told_15 : decode cX10_told 15 = .ok (.aload_n 0, 1) := by decide +kernel
theorem dX10_told_16 : decode cX10_told 16 = .ok (.getfield 61, 3) := by decide +kernel
theorem dX10_told_19 : decode cX10_told 19 = .ok (.goto 40, 3) := by decide +kernel
theorem dX10_told_22 : decode cX10_told 22 = .ok (.iload_n 1, 1) := by decide +kernel
theorem dX10_told_23 : decode cX10_told 23 = .ok (.iconst 1, 1) := by decide +kernel
theorem dX10_told_24 : decode cX10_told 24 = .ok (.if_icmp .ne 10, 3) := by decide +kernel
theorem dX10_told_27 : decode cX10_told 27 = .ok (.aload_n 0, 1) := by decide +kernel
theorem dX10_told_28 : decode cX10_told 28 = .ok (.getfield 64, 3) := by decide +kernel
theorem dX10_told_31 : decode cX10_told 31 = .ok (.goto 28, 3) := by decide +kernel
theorem dX10_told_34 : decode cX10_told 34 = .ok (.iload_n 1, 1) := by decide +kernel
theorem dX10_told_35 : decode cX10_told 35 = .ok (.iconst 2, 1) := by decide +kernel
theorem dX10_told_36 : decode cX10_told 36 = .ok (.if_icmp .ne 10, 3) := by decide +kernel
theorem dX10_told_39 : decode cX10_told 39 = .ok (.aload_n 0, 1) := by decide +kernel
theorem dX10_told_40 : decode cX10_told 40 = .ok (.getfield 67, 3) := by decide +kernel
theorem dX10_told_43 : decode cX10_told 43 = .ok (.goto 16, 3) := by decide +kernel
theorem dX10_told_46 : decode cX10_told 46 = .ok (.iload_n 1, 1) := by decide +kernel
theorem dX10_told_47 : decode cX10_told 47 = .ok (.iconst 3, 1) := by decide +kernel
theorem dX10_told_48 : decode cX10_told 48 = .ok (.if_icmp .ne 10, 3) := by decide +kernel
theorem dX10_told_51 : decode cX10_told 51 = .ok (.aload_n 0, 1) := by decide +kernel
theorem dX10_told_52 : decode cX10_told 52 = .ok (.getfield 70, 3) := by decide +kernel
theorem dX10_told_55 : decode cX10_told 55 = .ok (.goto 4, 3) := by decide +kernel
theorem dX10_told_58 : decode cX10_told 58 = .ok (.iconst (-1), 1) := by decide +kernel
theorem dX10_told_59 : decode cX10_told 59 = .ok (.ireturn, 1) := by decide +kernel
theorem dX10_length_0 : decode cX10_length 0 = .ok (.aload_n 0, 1) := by decide +kernel
theorem dX10_length_1 : decode cX10_length 1 = .ok (.getfield 61, 3) := by decide +kernel
theorem dX10_length_4 : decode cX10_length 4 = .ok (.ifCond .eq 24, 3) := by decide +kernel
theorem dX10_length_7 : decode cX10_length 7 = .ok (.iload_n 1, 1) := by decide +kernel
theorem dX10_length_8 : decode cX10_length 8 = .ok (.ifCond .lt 20, 3) := by decide +kernel
theorem dX10_length_11 : decode cX10_length 11 = .ok (.iload_n 1, 1) := by decide +kernel
theorem dX10_length_12 : decode cX10_length 12 = .ok (.iconst 2, 1) := by decide +kernel
theorem dX10_length_13 : decode cX10_length 13 = .ok (.if_icmp .gt 15, 3) := by decide +kernel
theorem dX10_length_16 : decode cX10_length 16 = .ok (.iload_n 2, 1) := by decide +kernel
theorem dX10_length_17 : decode cX10_length 17 = .ok (.ifCond .lt 11, 3) := by decide +kernel
theorem dX10_length_20 : decode cX10_length 20 = .ok (.iload_n 2, 1) := by decide +kernel
theorem dX10_length_21 : decode cX10_length 21 = .ok (.iload_n 1, 1) := by decide +kernel
theorem dX10_length_22 : decode cX10_length 22 = .ok (.invokestatic 79, 3) := by decide +kernel
theorem dX10_length_25 : decode cX10_length 25 = .ok (.if_icmp .lt 7, 3) := by decide +kernel
theorem dX10_length_28 : decode cX10_length 28 = .ok (.iconst (-1), 1) := by decide +kernel
theorem dX10_length_29 : decode cX10_length 29 = .ok (.goto 15, 3) := by decide +kernel
theorem dX10_length_32 : decode cX10_length 32 = .ok (.aload_n 0, 1) := by decide +kernel
theorem dX10_length_33 : decode cX10_length 33 = .ok (.getfield 16, 3) := by decide +kernel
theorem dX10_length_36 : decode cX10_length 36 = .ok (.sipush 600, 3) := by decide +kernel
theorem dX10_length_39 : decode cX10_length 39 = .ok (.iload_n 1, 1) := by decide +kernel
theorem dX10_length_40 : decode cX10_length 40 = .ok (.imul, 1) := by decide +kernel
theorem dX10_length_41 : decode cX10_length 41 = .ok (.iload_n 2, 1) := by decide +kernel
theorem dX10_length_42 : decode cX10_length 42 = .ok (.iadd, 1) := by decide +kernel
theorem dX10_length_43 : decode cX10_length 43 = .ok (.iaload, 1) := by decide +kernel
theorem dX10_length_44 : decode cX10_length 44 = .ok (.ireturn, 1) := by decide +kernel
theorem dJ9_min_7cf53_0 : decode cJ9_min_7cf53 0 = .ok (.iload_n 0, 1) := by decide +kernel
theorem dJ9_min_7cf53_1 : decode cJ9_min_7cf53 1 = .ok (.iload_n 1, 1) := by decide +kernel
theorem dJ9_min_7cf53_2 : decode cJ9_min_7cf53 2 = .ok (.if_icmp .gt 7, 3) := by decide +kernel
theorem dJ9_min_7cf53_5 : decode cJ9_min_7cf53 5 = .ok (.iload_n 0, 1) := by decide +kernel
theorem dJ9_min_7cf53_6 : decode cJ9_min_7cf53 6 = .ok (.goto 4, 3) := by decide +kernel
theorem dJ9_min_7cf53_9 : decode cJ9_min_7cf53 9 = .ok (.iload_n 1, 1) := by decide +kernel
theorem dJ9_min_7cf53_10 : decode cJ9_min_7cf53 10 = .ok (.ireturn, 1) := by decide +kernel
theorem dJ7_fill_53178_0 : decode cJ7_fill_53178 0 = .ok (.iconst 0, 1) := by decide +kernel
theorem dJ7_fill_53178_1 : decode cJ7_fill_53178 1 = .ok (.istore_n 2, 1) := by decide +kernel
theorem dJ7_fill_53178_2 : decode cJ7_fill_53178 2 = .ok (.aload_n 0, 1) := by decide +kernel
theorem dJ7_fill_53178_3 : decode cJ7_fill_53178 3 = .ok (.arraylength, 1) := by decide +kernel
theorem dJ7_fill_53178_4 : decode cJ7_fill_53178 4 = .ok (.istore_n 3, 1) := by decide +kernel
theorem dJ7_fill_53178_5 : decode cJ7_fill_53178 5 = .ok (.iload_n 2, 1) := by decide +kernel
theorem dJ7_fill_53178_6 : decode cJ7_fill_53178 6 = .ok (.iload_n 3, 1) := by decide +kernel
theorem dJ7_fill_53178_7 : decode cJ7_fill_53178 7 = .ok (.if_icmp .ge 13, 3) := by decide +kernel
theorem dJ7_fill_53178_10 : decode cJ7_fill_53178 10 = .ok (.aload_n 0, 1) := by decide +kernel
theorem dJ7_fill_53178_11 : decode cJ7_fill_53178 11 = .ok (.iload_n 2, 1) := by decide +kernel
theorem dJ7_fill_53178_12 : decode cJ7_fill_53178 12 = .ok (.iload_n 1, 1) := by decide +kernel
theorem dJ7_fill_53178_13 : decode cJ7_fill_53178 13 = .ok (.iastore, 1) := by decide +kernel
theorem dJ7_fill_53178_14 : decode cJ7_fill_53178 14 = .ok (.iinc 2 1, 3) := by decide +kernel
theorem dJ7_fill_53178_17 : decode cJ7_fill_53178 17 = .ok (.goto (-12), 3) := by decide +kernel
theorem dJ7_fill_53178_20 : decode cJ7_fill_53178 20 = .ok (.return_, 1) := by decide +kernel
theorem dL_law_0 : decode cL_law 0 = .ok (.new 7, 3) := by decide +kernel
theorem dL_law_3 : decode cL_law 3 = .ok (.dup, 1) := by decide +kernel
theorem dL_law_4 : decode cL_law 4 = .ok (.invokespecial 9, 3) := by decide +kernel
theorem dL_law_7 : decode cL_law 7 = .ok (.astore_n 1, 1) := by decide +kernel
theorem dL_law_8 : decode cL_law 8 = .ok (.new 10, 3) := by decide +kernel
theorem dL_law_11 : decode cL_law 11 = .ok (.dup, 1) := by decide +kernel
theorem dL_law_12 : decode cL_law 12 = .ok (.invokespecial 12, 3) := by decide +kernel
theorem dL_law_15 : decode cL_law 15 = .ok (.astore_n 2, 1) := by decide +kernel
theorem dL_law_16 : decode cL_law 16 = .ok (.iconst 0, 1) := by decide +kernel
theorem dL_law_17 : decode cL_law 17 = .ok (.istore_n 3, 1) := by decide +kernel
theorem dL_law_18 : decode cL_law 18 = .ok (.iload_n 3, 1) := by decide +kernel
theorem dL_law_19 : decode cL_law 19 = .ok (.aload_n 0, 1) := by decide +kernel
theorem dL_law_20 : decode cL_law 20 = .ok (.arraylength, 1) := by decide +kernel
theorem dL_law_21 : decode cL_law 21 = .ok (.bipush 6, 2) := by decide +kernel
theorem dL_law_23 : decode cL_law 23 = .ok (.isub, 1) := by decide +kernel
theorem dL_law_24 : decode cL_law 24 = .ok (.if_icmp .gt 402, 3) := by decide +kernel
theorem dL_law_27 : decode cL_law 27 = .ok (.aload_n 0, 1) := by decide +kernel
theorem dL_law_28 : decode cL_law 28 = .ok (.iload_n 3, 1) := by decide +kernel
theorem dL_law_29 : decode cL_law 29 = .ok (.iaload, 1) := by decide +kernel
theorem dL_law_30 : decode cL_law 30 = .ok (.bipush 15, 2) := by decide +kernel
theorem dL_law_32 : decode cL_law 32 = .ok (.iand, 1) := by decide +kernel
theorem dL_law_33 : decode cL_law 33 = .ok (.tableswitch 387 0 11 #[63, 126, 159, 182, 215, 226, 259, 282, 295, 308, 331, 354], 63) := by decide +kernel
theorem dL_law_96 : decode cL_law 96 = .ok (.aload_n 1, 1) := by decide +kernel
theorem dL_law_97 : decode cL_law 97 = .ok (.aload_n 0, 1) := by decide +kernel
theorem dL_law_98 : decode cL_law 98 = .ok (.iload_n 3, 1) := by decide +kernel
theorem dL_law_99 : decode cL_law 99 = .ok (.iconst 1, 1) := by decide +kernel
theorem dL_law_100 : decode cL_law 100 = .ok (.iadd, 1) := by decide +kernel
theorem dL_law_101 : decode cL_law 101 = .ok (.iaload, 1) := by decide +kernel
theorem dL_law_102 : decode cL_law 102 = .ok (.aload_n 0, 1) := by decide +kernel
theorem dL_law_103 : decode cL_law 103 = .ok (.iload_n 3, 1) := by decide +kernel
theorem dL_law_104 : decode cL_law 104 = .ok (.iconst 2, 1) := by decide +kernel
theorem dL_law_105 : decode cL_law 105 = .ok (.iadd, 1) := by decide +kernel
theorem dL_law_106 : decode cL_law 106 = .ok (.iaload, 1) := by decide +kernel
theorem dL_law_107 : decode cL_law 107 = .ok (.aload_n 0, 1) := by decide +kernel
theorem dL_law_108 : decode cL_law 108 = .ok (.iload_n 3, 1) := by decide +kernel
theorem dL_law_109 : decode cL_law 109 = .ok (.iconst 3, 1) := by decide +kernel
theorem dL_law_110 : decode cL_law 110 = .ok (.iadd, 1) := by decide +kernel
theorem dL_law_111 : decode cL_law 111 = .ok (.iaload, 1) := by decide +kernel
theorem dL_law_112 : decode cL_law 112 = .ok (.aload_n 0, 1) := by decide +kernel
theorem dL_law_113 : decode cL_law 113 = .ok (.iload_n 3, 1) := by decide +kernel
theorem dL_law_114 : decode cL_law 114 = .ok (.iconst 4, 1) := by decide +kernel
theorem dL_law_115 : decode cL_law 115 = .ok (.iadd, 1) := by decide +kernel
theorem dL_law_116 : decode cL_law 116 = .ok (.iaload, 1) := by decide +kernel
theorem dL_law_117 : decode cL_law 117 = .ok (.aload_n 0, 1) := by decide +kernel
theorem dL_law_118 : decode cL_law 118 = .ok (.iload_n 3, 1) := by decide +kernel
theorem dL_law_119 : decode cL_law 119 = .ok (.iconst 5, 1) := by decide +kernel
theorem dL_law_120 : decode cL_law 120 = .ok (.iadd, 1) := by decide +kernel
theorem dL_law_121 : decode cL_law 121 = .ok (.iaload, 1) := by decide +kernel
theorem dL_law_122 : decode cL_law 122 = .ok (.invokevirtual 13, 3) := by decide +kernel
theorem dL_law_125 : decode cL_law 125 = .ok (.aload_n 2, 1) := by decide +kernel
theorem dL_law_126 : decode cL_law 126 = .ok (.aload_n 0, 1) := by decide +kernel
theorem dL_law_127 : decode cL_law 127 = .ok (.iload_n 3, 1) := by decide +kernel
theorem dL_law_128 : decode cL_law 128 = .ok (.iconst 1, 1) := by decide +kernel
theorem dL_law_129 : decode cL_law 129 = .ok (.iadd, 1) := by decide +kernel
theorem dL_law_130 : decode cL_law 130 = .ok (.iaload, 1) := by decide +kernel
theorem dL_law_131 : decode cL_law 131 = .ok (.aload_n 0, 1) := by decide +kernel
theorem dL_law_132 : decode cL_law 132 = .ok (.iload_n 3, 1) := by decide +kernel
theorem dL_law_133 : decode cL_law 133 = .ok (.iconst 2, 1) := by decide +kernel
theorem dL_law_134 : decode cL_law 134 = .ok (.iadd, 1) := by decide +kernel
theorem dL_law_135 : decode cL_law 135 = .ok (.iaload, 1) := by decide +kernel
theorem dL_law_136 : decode cL_law 136 = .ok (.aload_n 0, 1) := by decide +kernel
theorem dL_law_137 : decode cL_law 137 = .ok (.iload_n 3, 1) := by decide +kernel
theorem dL_law_138 : decode cL_law 138 = .ok (.iconst 3, 1) := by decide +kernel
theorem dL_law_139 : decode cL_law 139 = .ok (.iadd, 1) := by decide +kernel
theorem dL_law_140 : decode cL_law 140 = .ok (.iaload, 1) := by decide +kernel
theorem dL_law_141 : decode cL_law 141 = .ok (.aload_n 0, 1) := by decide +kernel
theorem dL_law_142 : decode cL_law 142 = .ok (.iload_n 3, 1) := by decide +kernel
theorem dL_law_143 : decode cL_law 143 = .ok (.iconst 4, 1) := by decide +kernel
theorem dL_law_144 : decode cL_law 144 = .ok (.iadd, 1) := by decide +kernel
theorem dL_law_145 : decode cL_law 145 = .ok (.iaload, 1) := by decide +kernel
theorem dL_law_146 : decode cL_law 146 = .ok (.aload_n 0, 1) := by decide +kernel
theorem dL_law_147 : decode cL_law 147 = .ok (.iload_n 3, 1) := by decide +kernel
theorem dL_law_148 : decode cL_law 148 = .ok (.iconst 5, 1) := by decide +kernel
theorem dL_law_149 : decode cL_law 149 = .ok (.iadd, 1) := by decide +kernel
theorem dL_law_150 : decode cL_law 150 = .ok (.iaload, 1) := by decide +kernel
theorem dL_law_151 : decode cL_law 151 = .ok (.invokevirtual 17, 3) := by decide +kernel
theorem dL_law_154 : decode cL_law 154 = .ok (.if_icmp .eq 266, 3) := by decide +kernel
theorem dL_law_157 : decode cL_law 157 = .ok (.iconst 0, 1) := by decide +kernel
theorem dL_law_158 : decode cL_law 158 = .ok (.ireturn, 1) := by decide +kernel
theorem dL_law_159 : decode cL_law 159 = .ok (.aload_n 1, 1) := by decide +kernel
theorem dL_law_160 : decode cL_law 160 = .ok (.aload_n 0, 1) := by decide +kernel
theorem dL_law_161 : decode cL_law 161 = .ok (.iload_n 3, 1) := by decide +kernel
theorem dL_law_162 : decode cL_law 162 = .ok (.iconst 1, 1) := by decide +kernel
theorem dL_law_163 : decode cL_law 163 = .ok (.iadd, 1) := by decide +kernel
theorem dL_law_164 : decode cL_law 164 = .ok (.iaload, 1) := by decide +kernel
theorem dL_law_165 : decode cL_law 165 = .ok (.aload_n 0, 1) := by decide +kernel
theorem dL_law_166 : decode cL_law 166 = .ok (.iload_n 3, 1) := by decide +kernel
theorem dL_law_167 : decode cL_law 167 = .ok (.iconst 2, 1) := by decide +kernel
theorem dL_law_168 : decode cL_law 168 = .ok (.iadd, 1) := by decide +kernel
theorem dL_law_169 : decode cL_law 169 = .ok (.iaload, 1) := by decide +kernel
theorem dL_law_170 : decode cL_law 170 = .ok (.invokevirtual 18, 3) := by decide +kernel
theorem dL_law_173 : decode cL_law 173 = .ok (.aload_n 2, 1) := by decide +kernel
theorem dL_law_174 : decode cL_law 174 = .ok (.aload_n 0, 1) := by decide +kernel
theorem dL_law_175 : decode cL_law 175 = .ok (.iload_n 3, 1) := by decide +kernel
theorem dL_law_176 : decode cL_law 176 = .ok (.iconst 1, 1) := by decide +kernel
theorem dL_law_177 : decode cL_law 177 = .ok (.iadd, 1) := by decide +kernel
theorem dL_law_178 : decode cL_law 178 = .ok (.iaload, 1) := by decide +kernel
theorem dL_law_179 : decode cL_law 179 = .ok (.aload_n 0, 1) := by decide +kernel
theorem dL_law_180 : decode cL_law 180 = .ok (.iload_n 3, 1) := by decide +kernel
theorem dL_law_181 : decode cL_law 181 = .ok (.iconst 2, 1) := by decide +kernel
theorem dL_law_182 : decode cL_law 182 = .ok (.iadd, 1) := by decide +kernel
theorem dL_law_183 : decode cL_law 183 = .ok (.iaload, 1) := by decide +kernel
theorem dL_law_184 : decode cL_law 184 = .ok (.invokevirtual 22, 3) := by decide +kernel
theorem dL_law_187 : decode cL_law 187 = .ok (.if_icmp .eq 233, 3) := by decide +kernel
theorem dL_law_190 : decode cL_law 190 = .ok (.iconst 0, 1) := by decide +kernel
theorem dL_law_191 : decode cL_law 191 = .ok (.ireturn, 1) := by decide +kernel
theorem dL_law_192 : decode cL_law 192 = .ok (.aload_n 1, 1) := by decide +kernel
theorem dL_law_193 : decode cL_law 193 = .ok (.aload_n 0, 1) := by decide +kernel
theorem dL_law_194 : decode cL_law 194 = .ok (.iload_n 3, 1) := by decide +kernel
theorem dL_law_195 : decode cL_law 195 = .ok (.iconst 1, 1) := by decide +kernel
theorem dL_law_196 : decode cL_law 196 = .ok (.iadd, 1) := by decide +kernel
theorem dL_law_197 : decode cL_law 197 = .ok (.iaload, 1) := by decide +kernel
theorem dL_law_198 : decode cL_law 198 = .ok (.invokevirtual 23, 3) := by decide +kernel
theorem dL_law_201 : decode cL_law 201 = .ok (.aload_n 2, 1) := by decide +kernel
theorem dL_law_202 : decode cL_law 202 = .ok (.aload_n 0, 1) := by decide +kernel
theorem dL_law_203 : decode cL_law 203 = .ok (.iload_n 3, 1) := by decide +kernel
theorem dL_law_204 : decode cL_law 204 = .ok (.iconst 1, 1) := by decide +kernel
theorem dL_law_205 : decode cL_law 205 = .ok (.iadd, 1) := by decide +kernel
theorem dL_law_206 : decode cL_law 206 = .ok (.iaload, 1) := by decide +kernel
theorem dL_law_207 : decode cL_law 207 = .ok (.invokevirtual 27, 3) := by decide +kernel
theorem dL_law_210 : decode cL_law 210 = .ok (.if_icmp .eq 210, 3) := by decide +kernel
theorem dL_law_213 : decode cL_law 213 = .ok (.iconst 0, 1) := by decide +kernel
theorem dL_law_214 : decode cL_law 214 = .ok (.ireturn, 1) := by decide +kernel
theorem dL_law_215 : decode cL_law 215 = .ok (.aload_n 1, 1) := by decide +kernel
theorem dL_law_216 : decode cL_law 216 = .ok (.aload_n 0, 1) := by decide +kernel
theorem dL_law_217 : decode cL_law 217 = .ok (.iload_n 3, 1) := by decide +kernel
theorem dL_law_218 : decode cL_law 218 = .ok (.iconst 1, 1) := by decide +kernel
theorem dL_law_219 : decode cL_law 219 = .ok (.iadd, 1) := by decide +kernel
theorem dL_law_220 : decode cL_law 220 = .ok (.iaload, 1) := by decide +kernel
theorem dL_law_221 : decode cL_law 221 = .ok (.aload_n 0, 1) := by decide +kernel
theorem dL_law_222 : decode cL_law 222 = .ok (.iload_n 3, 1) := by decide +kernel
theorem dL_law_223 : decode cL_law 223 = .ok (.iconst 2, 1) := by decide +kernel
theorem dL_law_224 : decode cL_law 224 = .ok (.iadd, 1) := by decide +kernel
theorem dL_law_225 : decode cL_law 225 = .ok (.iaload, 1) := by decide +kernel
theorem dL_law_226 : decode cL_law 226 = .ok (.invokevirtual 28, 3) := by decide +kernel
theorem dL_law_229 : decode cL_law 229 = .ok (.aload_n 2, 1) := by decide +kernel
theorem dL_law_230 : decode cL_law 230 = .ok (.aload_n 0, 1) := by decide +kernel
theorem dL_law_231 : decode cL_law 231 = .ok (.iload_n 3, 1) := by decide +kernel
theorem dL_law_232 : decode cL_law 232 = .ok (.iconst 1, 1) := by decide +kernel
theorem dL_law_233 : decode cL_law 233 = .ok (.iadd, 1) := by decide +kernel
theorem dL_law_234 : decode cL_law 234 = .ok (.iaload, 1) := by decide +kernel
theorem dL_law_235 : decode cL_law 235 = .ok (.aload_n 0, 1) := by decide +kernel
theorem dL_law_236 : decode cL_law 236 = .ok (.iload_n 3, 1) := by decide +kernel
theorem dL_law_237 : decode cL_law 237 = .ok (.iconst 2, 1) := by decide +kernel
theorem dL_law_238 : decode cL_law 238 = .ok (.iadd, 1) := by decide +kernel
theorem dL_law_239 : decode cL_law 239 = .ok (.iaload, 1) := by decide +kernel
theorem dL_law_240 : decode cL_law 240 = .ok (.invokevirtual 32, 3) := by decide +kernel
theorem dL_law_243 : decode cL_law 243 = .ok (.if_icmp .eq 177, 3) := by decide +kernel
theorem dL_law_246 : decode cL_law 246 = .ok (.iconst 0, 1) := by decide +kernel
theorem dL_law_247 : decode cL_law 247 = .ok (.ireturn, 1) := by decide +kernel
theorem dL_law_248 : decode cL_law 248 = .ok (.aload_n 1, 1) := by decide +kernel
theorem dL_law_249 : decode cL_law 249 = .ok (.invokevirtual 33, 3) := by decide +kernel
theorem dL_law_252 : decode cL_law 252 = .ok (.aload_n 2, 1) := by decide +kernel
theorem dL_law_253 : decode cL_law 253 = .ok (.invokevirtual 36, 3) := by decide +kernel
theorem dL_law_256 : decode cL_law 256 = .ok (.goto 164, 3) := by decide +kernel
theorem dL_law_259 : decode cL_law 259 = .ok (.aload_n 1, 1) := by decide +kernel
theorem dL_law_260 : decode cL_law 260 = .ok (.aload_n 0, 1) := by decide +kernel
theorem dL_law_261 : decode cL_law 261 = .ok (.iload_n 3, 1) := by decide +kernel
theorem dL_law_262 : decode cL_law 262 = .ok (.iconst 1, 1) := by decide +kernel
theorem dL_law_263 : decode cL_law 263 = .ok (.iadd, 1) := by decide +kernel
theorem dL_law_264 : decode cL_law 264 = .ok (.iaload, 1) := by decide +kernel
theorem dL_law_265 : decode cL_law 265 = .ok (.aload_n 0, 1) := by decide +kernel
theorem dL_law_266 : decode cL_law 266 = .ok (.iload_n 3, 1) := by decide +kernel
theorem dL_law_267 : decode cL_law 267 = .ok (.iconst 2, 1) := by decide +kernel
theorem dL_law_268 : decode cL_law 268 = .ok (.iadd, 1) := by decide +kernel
theorem dL_law_269 : decode cL_law 269 = .ok (.iaload, 1) := by decide +kernel
theorem dL_law_270 : decode cL_law 270 = .ok (.invokevirtual 37, 3) := by decide +kernel
theorem dL_law_273 : decode cL_law 273 = .ok (.aload_n 2, 1) := by decide +kernel
theorem dL_law_274 : decode cL_law 274 = .ok (.aload_n 0, 1) := by decide +kernel
theorem dL_law_275 : decode cL_law 275 = .ok (.iload_n 3, 1) := by decide +kernel
theorem dL_law_276 : decode cL_law 276 = .ok (.iconst 1, 1) := by decide +kernel
theorem dL_law_277 : decode cL_law 277 = .ok (.iadd, 1) := by decide +kernel
theorem dL_law_278 : decode cL_law 278 = .ok (.iaload, 1) := by decide +kernel
theorem dL_law_279 : decode cL_law 279 = .ok (.aload_n 0, 1) := by decide +kernel
theorem dL_law_280 : decode cL_law 280 = .ok (.iload_n 3, 1) := by decide +kernel
theorem dL_law_281 : decode cL_law 281 = .ok (.iconst 2, 1) := by decide +kernel
theorem dL_law_282 : decode cL_law 282 = .ok (.iadd, 1) := by decide +kernel
theorem dL_law_283 : decode cL_law 283 = .ok (.iaload, 1) := by decide +kernel
theorem dL_law_284 : decode cL_law 284 = .ok (.invokevirtual 40, 3) := by decide +kernel
theorem dL_law_287 : decode cL_law 287 = .ok (.if_icmp .eq 133, 3) := by decide +kernel
theorem dL_law_290 : decode cL_law 290 = .ok (.iconst 0, 1) := by decide +kernel
theorem dL_law_291 : decode cL_law 291 = .ok (.ireturn, 1) := by decide +kernel
theorem dL_law_292 : decode cL_law 292 = .ok (.aload_n 1, 1) := by decide +kernel
theorem dL_law_293 : decode cL_law 293 = .ok (.aload_n 0, 1) := by decide +kernel
theorem dL_law_294 : decode cL_law 294 = .ok (.iload_n 3, 1) := by decide +kernel
theorem dL_law_295 : decode cL_law 295 = .ok (.iconst 1, 1) := by decide +kernel
theorem dL_law_296 : decode cL_law 296 = .ok (.iadd, 1) := by decide +kernel
theorem dL_law_297 : decode cL_law 297 = .ok (.iaload, 1) := by decide +kernel
theorem dL_law_298 : decode cL_law 298 = .ok (.invokevirtual 41, 3) := by decide +kernel
theorem dL_law_301 : decode cL_law 301 = .ok (.aload_n 2, 1) := by decide +kernel
theorem dL_law_302 : decode cL_law 302 = .ok (.aload_n 0, 1) := by decide +kernel
theorem dL_law_303 : decode cL_law 303 = .ok (.iload_n 3, 1) := by decide +kernel
theorem dL_law_304 : decode cL_law 304 = .ok (.iconst 1, 1) := by decide +kernel
theorem dL_law_305 : decode cL_law 305 = .ok (.iadd, 1) := by decide +kernel
theorem dL_law_306 : decode cL_law 306 = .ok (.iaload, 1) := by decide +kernel
theorem dL_law_307 : decode cL_law 307 = .ok (.invokevirtual 44, 3) := by decide +kernel
theorem dL_law_310 : decode cL_law 310 = .ok (.if_icmp .eq 110, 3) := by decide +kernel
theorem dL_law_313 : decode cL_law 313 = .ok (.iconst 0, 1) := by decide +kernel
theorem dL_law_314 : decode cL_law 314 = .ok (.ireturn, 1) := by decide +kernel
theorem dL_law_315 : decode cL_law 315 = .ok (.aload_n 1, 1) := by decide +kernel
theorem dL_law_316 : decode cL_law 316 = .ok (.invokevirtual 45, 3) := by decide +kernel
theorem dL_law_319 : decode cL_law 319 = .ok (.aload_n 2, 1) := by decide +kernel
theorem dL_law_320 : decode cL_law 320 = .ok (.invokevirtual 49, 3) := by decide +kernel
theorem dL_law_323 : decode cL_law 323 = .ok (.if_icmp .eq 97, 3) := by decide +kernel
theorem dL_law_326 : decode cL_law 326 = .ok (.iconst 0, 1) := by decide +kernel
theorem dL_law_327 : decode cL_law 327 = .ok (.ireturn, 1) := by decide +kernel
theorem dL_law_328 : decode cL_law 328 = .ok (.aload_n 1, 1) := by decide +kernel
theorem dL_law_329 : decode cL_law 329 = .ok (.invokevirtual 50, 3) := by decide +kernel
theorem dL_law_332 : decode cL_law 332 = .ok (.aload_n 2, 1) := by decide +kernel
theorem dL_law_333 : decode cL_law 333 = .ok (.invokevirtual 53, 3) := by decide +kernel
theorem dL_law_336 : decode cL_law 336 = .ok (.if_icmp .eq 84, 3) := by decide +kernel
theorem dL_law_339 : decode cL_law 339 = .ok (.iconst 0, 1) := by decide +kernel
theorem dL_law_340 : decode cL_law 340 = .ok (.ireturn, 1) := by decide +kernel
theorem dL_law_341 : decode cL_law 341 = .ok (.aload_n 1, 1) := by decide +kernel
theorem dL_law_342 : decode cL_law 342 = .ok (.aload_n 0, 1) := by decide +kernel
theorem dL_law_343 : decode cL_law 343 = .ok (.iload_n 3, 1) := by decide +kernel
theorem dL_law_344 : decode cL_law 344 = .ok (.iconst 1, 1) := by decide +kernel
theorem dL_law_345 : decode cL_law 345 = .ok (.iadd, 1) := by decide +kernel
theorem dL_law_346 : decode cL_law 346 = .ok (.iaload, 1) := by decide +kernel
theorem dL_law_347 : decode cL_law 347 = .ok (.invokevirtual 54, 3) := by decide +kernel
theorem dL_law_350 : decode cL_law 350 = .ok (.aload_n 2, 1) := by decide +kernel
theorem dL_law_351 : decode cL_law 351 = .ok (.aload_n 0, 1) := by decide +kernel
theorem dL_law_352 : decode cL_law 352 = .ok (.iload_n 3, 1) := by decide +kernel
theorem dL_law_353 : decode cL_law 353 = .ok (.iconst 1, 1) := by decide +kernel
theorem dL_law_354 : decode cL_law 354 = .ok (.iadd, 1) := by decide +kernel
theorem dL_law_355 : decode cL_law 355 = .ok (.iaload, 1) := by decide +kernel
theorem dL_law_356 : decode cL_law 356 = .ok (.invokevirtual 57, 3) := by decide +kernel
theorem dL_law_359 : decode cL_law 359 = .ok (.if_icmp .eq 61, 3) := by decide +kernel
theorem dL_law_362 : decode cL_law 362 = .ok (.iconst 0, 1) := by decide +kernel
theorem dL_law_363 : decode cL_law 363 = .ok (.ireturn, 1) := by decide +kernel
theorem dL_law_364 : decode cL_law 364 = .ok (.aload_n 1, 1) := by decide +kernel
theorem dL_law_365 : decode cL_law 365 = .ok (.aload_n 0, 1) := by decide +kernel
theorem dL_law_366 : decode cL_law 366 = .ok (.iload_n 3, 1) := by decide +kernel
theorem dL_law_367 : decode cL_law 367 = .ok (.iconst 1, 1) := by decide +kernel
theorem dL_law_368 : decode cL_law 368 = .ok (.iadd, 1) := by decide +kernel
theorem dL_law_369 : decode cL_law 369 = .ok (.iaload, 1) := by decide +kernel
theorem dL_law_370 : decode cL_law 370 = .ok (.invokevirtual 58, 3) := by decide +kernel
theorem dL_law_373 : decode cL_law 373 = .ok (.aload_n 2, 1) := by decide +kernel
theorem dL_law_374 : decode cL_law 374 = .ok (.aload_n 0, 1) := by decide +kernel
theorem dL_law_375 : decode cL_law 375 = .ok (.iload_n 3, 1) := by decide +kernel
theorem dL_law_376 : decode cL_law 376 = .ok (.iconst 1, 1) := by decide +kernel
theorem dL_law_377 : decode cL_law 377 = .ok (.iadd, 1) := by decide +kernel
theorem dL_law_378 : decode cL_law 378 = .ok (.iaload, 1) := by decide +kernel
theorem dL_law_379 : decode cL_law 379 = .ok (.invokevirtual 61, 3) := by decide +kernel
theorem dL_law_382 : decode cL_law 382 = .ok (.if_icmp .eq 38, 3) := by decide +kernel
theorem dL_law_385 : decode cL_law 385 = .ok (.iconst 0, 1) := by decide +kernel
theorem dL_law_386 : decode cL_law 386 = .ok (.ireturn, 1) := by decide +kernel
theorem dL_law_387 : decode cL_law 387 = .ok (.aload_n 1, 1) := by decide +kernel
theorem dL_law_388 : decode cL_law 388 = .ok (.aload_n 0, 1) := by decide +kernel
theorem dL_law_389 : decode cL_law 389 = .ok (.iload_n 3, 1) := by decide +kernel
theorem dL_law_390 : decode cL_law 390 = .ok (.iconst 1, 1) := by decide +kernel
theorem dL_law_391 : decode cL_law 391 = .ok (.iadd, 1) := by decide +kernel
theorem dL_law_392 : decode cL_law 392 = .ok (.iaload, 1) := by decide +kernel
theorem dL_law_393 : decode cL_law 393 = .ok (.aload_n 0, 1) := by decide +kernel
theorem dL_law_394 : decode cL_law 394 = .ok (.iload_n 3, 1) := by decide +kernel
theorem dL_law_395 : decode cL_law 395 = .ok (.iconst 2, 1) := by decide +kernel
theorem dL_law_396 : decode cL_law 396 = .ok (.iadd, 1) := by decide +kernel
theorem dL_law_397 : decode cL_law 397 = .ok (.iaload, 1) := by decide +kernel
theorem dL_law_398 : decode cL_law 398 = .ok (.invokevirtual 62, 3) := by decide +kernel
theorem dL_law_401 : decode cL_law 401 = .ok (.aload_n 2, 1) := by decide +kernel
theorem dL_law_402 : decode cL_law 402 = .ok (.aload_n 0, 1) := by decide +kernel
theorem dL_law_403 : decode cL_law 403 = .ok (.iload_n 3, 1) := by decide +kernel
theorem dL_law_404 : decode cL_law 404 = .ok (.iconst 1, 1) := by decide +kernel
theorem dL_law_405 : decode cL_law 405 = .ok (.iadd, 1) := by decide +kernel
theorem dL_law_406 : decode cL_law 406 = .ok (.iaload, 1) := by decide +kernel
theorem dL_law_407 : decode cL_law 407 = .ok (.aload_n 0, 1) := by decide +kernel
theorem dL_law_408 : decode cL_law 408 = .ok (.iload_n 3, 1) := by decide +kernel
theorem dL_law_409 : decode cL_law 409 = .ok (.iconst 2, 1) := by decide +kernel
theorem dL_law_410 : decode cL_law 410 = .ok (.iadd, 1) := by decide +kernel
theorem dL_law_411 : decode cL_law 411 = .ok (.iaload, 1) := by decide +kernel
theorem dL_law_412 : decode cL_law 412 = .ok (.invokevirtual 65, 3) := by decide +kernel
theorem dL_law_415 : decode cL_law 415 = .ok (.if_icmp .eq 5, 3) := by decide +kernel
theorem dL_law_418 : decode cL_law 418 = .ok (.iconst 0, 1) := by decide +kernel
theorem dL_law_419 : decode cL_law 419 = .ok (.ireturn, 1) := by decide +kernel
theorem dL_law_420 : decode cL_law 420 = .ok (.iinc 3 6, 3) := by decide +kernel
theorem dL_law_423 : decode cL_law 423 = .ok (.goto (-405), 3) := by decide +kernel
theorem dL_law_426 : decode cL_law 426 = .ok (.iconst 1, 1) := by decide +kernel
theorem dL_law_427 : decode cL_law 427 = .ok (.ireturn, 1) := by decide +kernel
end
section
/-! ===== an abstract machine over the kit's rows: ints, references by number, a heap from numbers to cells ===== -/
/-- an int; null; the script; the cell of that number -/
abbrev am_V : Type := Int32 ⊕ Option (Option Nat)
abbrev am_r (k : Nat) : am_V := .inr (some (some k))
/-- an array (of booleans or ints, its length, its contents); an object (its class' number, its fields) -/
abbrev am_E : Type := (Bool × Nat × (Nat → Int32)) ⊕ (Nat × List am_V)
abbrev am_H : Type := Nat → Option am_E
def am_set (h : am_H) (k : Nat) (e : am_E) : am_H := fun j => if j = k then some e else h j
theorem am_set_eq {h : am_H} {k : Nat} {e : am_E} : am_set h k e k = some e := by simp [am_set]
theorem am_set_ne {h : am_H} {k j : Nat} {e : am_E} (n : j ≠ k) : am_set h k e j = h j := by simp [am_set, n]
/-- what a value is in the machine: b the script's cell, ad the cells' addresses -/
def am_cv (b : Nat) (ad : List Nat) (v : am_V) : Option Value := match v with
  | .inl x => some (.int x)
  | .inr none => some .null
  | .inr (some none) => some (.ref b)
  | .inr (some (some k)) => (ad[k]?).map Value.ref
theorem am_cv_i {b : Nat} {ad : List Nat} {x : Int32} {c : Value} (h : am_cv b ad (.inl x) = some c) : c = .int x := (Option.some.inj h).symm
theorem am_cv_r {b : Nat} {ad : List Nat} {k : Nat} {c : Value} (h : am_cv b ad (.inr (some (some k))) = some c) : ∃ a, ad[k]? = some a ∧ c = .ref a := by
  have h : (ad[k]?).map Value.ref = some c := h
  cases hk : ad[k]? with
  | none => rw [hk] at h; cases h
  | some a => rw [hk] at h; exact ⟨a, rfl, (Option.some.inj h).symm⟩
theorem am_cv_cat {b : Nat} {ad : List Nat} {v : am_V} {c : Value} (h : am_cv b ad v = some c) : c.category = 1 := by
  match v, h with
  | .inl x, h => rw [am_cv_i h]; rfl
  | .inr none, h => cases h; rfl
  | .inr (some none), h => cases h; rfl
  | .inr (some (some k)), h => obtain ⟨a, -, rfl⟩ := am_cv_r h; rfl
theorem am_cv_ref {b : Nat} {ad : List Nat} {r : Option (Option Nat)} {c : Value} (h : am_cv b ad (.inr r) = some c) : c = .null ∨ ∃ a, c = .ref a := by
  match r, h with
  | none, h => cases h; exact Or.inl rfl
  | some none, h => cases h; exact Or.inr ⟨_, rfl⟩
  | some (some k), h => obtain ⟨a, -, rfl⟩ := am_cv_r h; exact Or.inr ⟨_, rfl⟩
theorem am_get_pre {ad ad' : List Nat} (h : ad <+: ad') {k a : Nat} (hk : ad[k]? = some a) : ad'[k]? = some a := by
  obtain ⟨t, rfl⟩ := h
  rw [List.getElem?_append_left (List.getElem?_eq_some_iff.mp hk).1]
  exact hk
theorem am_cv_pre {b : Nat} {ad ad' : List Nat} (h : ad <+: ad') {v : am_V} {c : Value} (hv : am_cv b ad v = some c) : am_cv b ad' v = some c := by
  match v, hv with
  | .inl x, hv => exact hv
  | .inr none, hv => exact hv
  | .inr (some none), hv => exact hv
  | .inr (some (some k)), hv =>
    obtain ⟨a, h1, rfl⟩ := am_cv_r hv
    show (ad'[k]?).map Value.ref = _
    rw [am_get_pre h h1]
    rfl
theorem am_map_pre {b : Nat} {ad ad' : List Nat} (h : ad <+: ad') : ∀ {S : List am_V} {st : List Value}, S.map (am_cv b ad) = st.map some → S.map (am_cv b ad') = st.map some
  | [], [], _ => rfl
  | [], _ :: _, e => by simp at e
  | _ :: _, [], e => by simp at e
  | v :: S, c :: st, e => by
    simp only [List.map_cons, List.cons.injEq] at e ⊢
    exact ⟨am_cv_pre h e.1, am_map_pre h e.2⟩
theorem am_cons {f : am_V → Option Value} {v : am_V} {S : List am_V} {st : List Value} (h : (v :: S).map f = st.map some) : ∃ c st', st = c :: st' ∧ f v = some c ∧ S.map f = st'.map some := by
  cases st with
  | nil => simp at h
  | cons c st' =>
    simp only [List.map_cons, List.cons.injEq] at h
    exact ⟨c, st', rfl, h.1, h.2⟩
theorem am_len {f : am_V → Option Value} {S : List am_V} {st : List Value} (h : S.map f = st.map some) : st.length = S.length := by
  have := congrArg List.length h
  simpa using this.symm
theorem am_at_map {f : am_V → Option Value} {S : List am_V} {st : List Value} (h : S.map f = st.map some) {k : Nat} {v : am_V} (hk : S[k]? = some v) : ∃ c, st[k]? = some c ∧ f v = some c := by
  have h1 : (S.map f)[k]? = (st.map some)[k]? := by rw [h]
  rw [List.getElem?_map, List.getElem?_map, hk] at h1
  cases hc : st[k]? with
  | none => rw [hc] at h1; cases h1
  | some c => rw [hc] at h1; exact ⟨c, rfl, Option.some.inj h1⟩
theorem am_set_map {f : am_V → Option Value} {S : List am_V} {st : List Value} (h : S.map f = st.map some) {k : Nat} {v : am_V} {c : Value} (hc : f v = some c) : (S.set k v).map f = (st.set k c).map some := by
  rw [List.map_set, List.map_set, h, hc]
def am_ce (dA : Bool → ClassId) (b : Nat) (ad : List Nat) (e : am_E) (c : va_E) : Prop := match e with
  | .inl a => c = .inl (dA a.1, a.2.1, .inl a.2.2)
  | .inr o => ∃ cs : List Value, o.2.map (am_cv b ad) = cs.map some ∧ c = .inr (o.1, cs)
theorem am_ce_pre {dA : Bool → ClassId} {b : Nat} {ad ad' : List Nat} (h : ad <+: ad') {e : am_E} {c : va_E} (hc : am_ce dA b ad e c) : am_ce dA b ad' e c := by
  match e, hc with
  | .inl a, hc => exact hc
  | .inr o, hc => obtain ⟨cs, h1, h2⟩ := hc; exact ⟨cs, am_map_pre h h1, h2⟩
/-- the abstract heap h is held by the cells ws -/
def am_w (dA : Bool → ClassId) (b : Nat) (ad : List Nat) (h : am_H) (ws : va_W) : Prop := ad = ws.map Prod.fst ∧ ∀ (k : Nat) (e : am_E), h k = some e → ∃ (a : Nat) (c : va_E), ws[k]? = some (a, c) ∧ am_ce dA b ad e c
theorem am_w.addr {dA : Bool → ClassId} {b : Nat} {ad : List Nat} {h : am_H} {ws : va_W} (w : am_w dA b ad h ws) {k a a' : Nat} {c : va_E} (h1 : ws[k]? = some (a, c)) (h2 : ad[k]? = some a') : a = a' := by
  rw [w.1, List.getElem?_map, h1] at h2
  exact Option.some.inj h2
theorem am_w.arr {dA : Bool → ClassId} {b : Nat} {ad : List Nat} {h : am_H} {ws : va_W} (w : am_w dA b ad h ws) {k a : Nat} (ha : ad[k]? = some a) {z : Bool} {n : Nat} {f : Nat → Int32} (hk : h k = some (.inl (z, n, f))) : ws[k]? = some (a, .inl (dA z, n, .inl f)) := by
  obtain ⟨a', c, h1, h2⟩ := w.2 k _ hk
  have h2 : c = .inl (dA z, n, .inl f) := h2
  rw [h1, w.addr h1 ha, h2]
theorem am_w.obj {dA : Bool → ClassId} {b : Nat} {ad : List Nat} {h : am_H} {ws : va_W} (w : am_w dA b ad h ws) {k a : Nat} (ha : ad[k]? = some a) {ci : Nat} {fs : List am_V} (hk : h k = some (.inr (ci, fs))) : ∃ cs : List Value, fs.map (am_cv b ad) = cs.map some ∧ ws[k]? = some (a, .inr (ci, cs)) := by
  obtain ⟨a', c, h1, h2⟩ := w.2 k _ hk
  obtain ⟨cs, h3, h4⟩ : ∃ cs : List Value, fs.map (am_cv b ad) = cs.map some ∧ c = .inr (ci, cs) := h2
  exact ⟨cs, h3, by rw [h1, w.addr h1 ha, h4]⟩
theorem am_w.set {dA : Bool → ClassId} {b : Nat} {ad : List Nat} {h : am_H} {ws : va_W} (w : am_w dA b ad h ws) {k a : Nat} {c0 c : va_E} (hk : ws[k]? = some (a, c0)) {e : am_E} (he : am_ce dA b ad e c) : am_w dA b ad (am_set h k e) (ws.set k (a, c)) := by
  have hl : k < ws.length := (List.getElem?_eq_some_iff.mp hk).1
  refine ⟨?_, fun j e' hj => ?_⟩
  · rw [w.1, List.map_set]
    have h1 : (ws.map Prod.fst)[k]? = some a := by rw [List.getElem?_map, hk]; rfl
    have h2 : k < (ws.map Prod.fst).length := by rw [List.length_map]; exact hl
    rw [List.getElem?_eq_getElem h2] at h1
    have h3 := Option.some.inj h1
    show _ = (ws.map Prod.fst).set k a
    rw [← h3, List.set_getElem_self]
  · by_cases hjk : j = k
    · subst hjk
      rw [am_set_eq] at hj
      cases hj
      exact ⟨a, c, by rw [List.getElem?_set_self hl], he⟩
    · rw [am_set_ne hjk] at hj
      obtain ⟨a', c', h1, h2⟩ := w.2 j e' hj
      exact ⟨a', c', by rw [List.getElem?_set_ne (fun q => hjk q.symm)]; exact h1, h2⟩
theorem am_w.push {dA : Bool → ClassId} {b : Nat} {ad : List Nat} {h : am_H} {ws : va_W} (w : am_w dA b ad h ws) {n q : Nat} {c : va_E} (hn : ad.length = n) {e : am_E} (he : am_ce dA b (ad ++ [q]) e c) : am_w dA b (ad ++ [q]) (am_set h n e) (ws ++ [(q, c)]) := by
  have hl : ws.length = n := by rw [← hn, w.1, List.length_map]
  refine ⟨by rw [List.map_append, ← w.1]; rfl, fun j e' hj => ?_⟩
  by_cases hjk : j = n
  · subst hjk
    rw [am_set_eq] at hj
    cases hj
    exact ⟨q, c, by rw [List.getElem?_append_right (by omega), show j - ws.length = 0 by omega]; rfl, he⟩
  · rw [am_set_ne hjk] at hj
    obtain ⟨a', c', h1, h2⟩ := w.2 j e' hj
    exact ⟨a', c', by rw [List.getElem?_append_left (List.getElem?_eq_some_iff.mp h1).1]; exact h1, am_ce_pre (List.prefix_append ad [q]) h2⟩
/-- the locals -/
def am_l (b : Nat) (ad : List Nat) (nL : Nat) (L : List (Option am_V)) (ls : Array Slot) : Prop := L.length = nL ∧ ∃ lv, lv_has ls nL lv ∧ ∀ (i : Nat) (v : am_V), L[i]? = some (some v) → ∃ c, am_cv b ad v = some c ∧ (i, c) ∈ lv
theorem am_l.pre {b : Nat} {ad ad' : List Nat} {nL : Nat} {L : List (Option am_V)} {ls : Array Slot} (h : am_l b ad nL L ls) (hp : ad <+: ad') : am_l b ad' nL L ls := by
  obtain ⟨h0, lv, h1, h2⟩ := h
  exact ⟨h0, lv, h1, fun i v hi => by obtain ⟨c, e1, e2⟩ := h2 i v hi; exact ⟨c, am_cv_pre hp e1, e2⟩⟩
theorem am_l.at {b : Nat} {ad : List Nat} {nL : Nat} {L : List (Option am_V)} {ls : Array Slot} (h : am_l b ad nL L ls) {i : Nat} {v : am_V} (hi : L[i]? = some (some v)) : ∃ c, am_cv b ad v = some c ∧ ls[i]? = some (.val c) := by
  obtain ⟨-, lv, h1, h2⟩ := h
  obtain ⟨c, e1, e2⟩ := h2 i v hi
  exact ⟨c, e1, h1.2.2 _ e2⟩
theorem am_l.size {b : Nat} {ad : List Nat} {nL : Nat} {L : List (Option am_V)} {ls : Array Slot} (h : am_l b ad nL L ls) : ls.size = nL := by
  obtain ⟨-, lv, h1, h2⟩ := h
  exact h1.1
/-- a list of locals that is held, for a store -/
theorem am_l.lv {b : Nat} {ad : List Nat} {nL : Nat} {L : List (Option am_V)} {ls : Array Slot} (h : am_l b ad nL L ls) : ∃ lv, lv_has ls nL lv ∧ ∀ (i : Nat) (v : am_V) (c : Value), i < nL → am_cv b ad v = some c → ∀ ls', lv_has ls' nL ((i, c) :: lv.filter (fun q => !(q.1 == i) && !(q.1 + 1 == i && q.2.category == 2))) → am_l b ad nL (L.set i (some v)) ls' := by
  obtain ⟨h0, lv, h1, h2⟩ := h
  refine ⟨lv, h1, fun i v c hi hv ls' h' => ⟨by rw [List.length_set]; exact h0, _, h', fun j w hj => ?_⟩⟩
  by_cases hij : i = j
  · subst hij
    rw [List.getElem?_set_self (by omega)] at hj
    cases hj
    exact ⟨c, hv, List.mem_cons_self⟩
  · rw [List.getElem?_set_ne hij] at hj
    obtain ⟨c', e1, e2⟩ := h2 j w hj
    refine ⟨c', e1, List.mem_cons_of_mem _ (List.mem_filter.mpr ⟨e2, ?_⟩)⟩
    have hc := am_cv_cat e1
    simp [hc, Ne.symm hij]
abbrev am_tys (dA : Bool → ClassId) : List (ClassId × FieldType) := [(dA false, .int), (dA true, .boolean)]
/-- a method: its name, its code, how many locals, what it answers -/
abbrev am_Y : Type := MethodName × ByteArray × Nat × Option FieldType
def am_G : List Cond := lw_tbl.filter goodWord
def am_isN : Cond → Bool
  | .fieldLinkNest .. => true
  | .methodLinkNest .. => true
  | _ => false
def am_N : List Cond := lw_tbl.filter am_isN
def am_ws (y : am_Y) : List Cond := .code y.1 y.2.1 y.2.2.1 y.2.2.2 :: am_G
abbrev am_R (d mc ms : Nat) : Room := { frames := d, cells := mc, slots := ms, locals := 37 * d + 3 }
theorem am_goodIn {y : am_Y} {y' : am_Y} (h : Cond.code y'.1 y'.2.1 y'.2.2.1 y'.2.2.2 ∈ am_G) : GoodIn am_G (am_ws y') := by
  intro w hw
  have hw : w ∈ am_G := by
    rcases List.mem_cons.mp hw with rfl | h1
    · exact h
    · exact h1
  exact ⟨hw, good_of_word (List.mem_filter.mp hw).2⟩
theorem am_N_warm {s U : State} (hW : s.WarmedH U.vm) (h : ∀ w ∈ am_N, va_Nw w s) : ∀ w ∈ am_N, va_Nw w U := by
  intro w hw
  have h1 := (List.mem_filter.mp hw).2
  have h2 := h w hw
  cases w <;> first | (simp [am_isN] at h1; done) | exact va_Nw.warmF hW h2 | exact va_Nw.warmM hW h2
theorem am_N_same {s U : State} (hW : s.vm = U.vm) (h : ∀ w ∈ am_N, va_Nw w s) : ∀ w ∈ am_N, va_Nw w U := by
  intro w hw
  have h1 := (List.mem_filter.mp hw).2
  have h2 := h w hw
  cases w <;> first | (simp [am_isN] at h1; done) | exact va_Nw.same rfl hW h2
/-- what stays fixed while a method runs -/
def am_Cx (D : va_G) (dA : Bool → ClassId) (y : am_Y) (X : Option (Nat × (Nat → Int32))) (p : Program) (s : State) (m : MethodId) (args : Array Value) (meth : Method) (c : Code) (A : Nat → Prop) (b : Nat) : Prop :=
  (p.tables.exec = Jvm.exec ∧ c.code = y.2.1 ∧ c.maxLocals = y.2.2.1 ∧ s.vm.findClass y.1.cls = some m.cls) ∧ (meth.sig.returnType = y.2.2.2 ∧ meth.name = y.1.name ∧ meth.locks = false) ∧ (∀ w ∈ am_G, w.before args s = true) ∧ (∀ w ∈ am_N, va_Nw w s) ∧ va_K D vwCl (am_tys dA) s ∧ (∀ q, s.heap.size ≤ q → A q) ∧
  (∀ x, X = some x → va_X b x.1 x.2 s s.heap ∧ b < s.heap.size ∧ ¬ A b)
/-- the world as it is now -/
def am_St (D : va_G) (dA : Bool → ClassId) (b n0 : Nat) (A : Nat → Prop) (s : State) (ad0 : List Nat) (cells : Nat) (h : am_H) (ad : List Nat) (ws : va_W) (H : Heap) (locs : List Loc) : Prop :=
  am_w dA b ad h ws ∧ va_P D vwCl ws H ∧ va_D A ws ∧ va_S A s.heap H locs ∧ ad0 <+: ad ∧ ad.length = n0 + cells
/-- an answer, an instruction that gives it, the stack there -/
def am_rs (b : Nat) (ad : List Nat) (i : Instr) (r : Option am_V) (st : List Value) : Prop := match r with
  | none => i = .return_ ∧ st = []
  | some (.inl x) => i = .ireturn ∧ st = [.int x]
  | some (.inr q) => i = .areturn ∧ ∃ c, am_cv b ad (.inr q) = some c ∧ st = [c]
/-- where the method ends as it should, all is well -/
def am_Rt (l : Launch) (D : va_G) (dA : Bool → ClassId) (y : am_Y) (d mc ms rc rs n0 : Nat) (Qa : Option am_V → am_H → Prop) (p : Program) (e : Env) (s : State) (m : MethodId) (args : Array Value) (below : List Frame) (meth : Method) (c : Code) (A : Nat → Prop) (b : Nat) (ad0 : List Nat) (Q : State → Prop) : Prop :=
  ∀ (pc : Nat) (i : Instr) (r : Option am_V) (h : am_H) (ad : List Nat) (ws : va_W) (H : Heap) (locs : List Loc) (ls : Array Slot) (st : List Value), decode y.2.1 pc = .ok (i, 1) → am_rs b ad i r st → Qa r h → am_St D dA b n0 A s ad0 rc h ad ws H locs → W p l e (am_R d mc ms) s m args below meth c H locs rc rs Q (F0 m pc ls st)
/-- from this place of the method, with these locals, stack and heap, it comes to an end with an answer and a heap as Qa says -/
def am_At (l : Launch) (D : va_G) (dA : Bool → ClassId) (y : am_Y) (d mc ms rc rs n0 : Nat) (X : Option (Nat × (Nat → Int32))) (Qa : Option am_V → am_H → Prop) (cells slots pc : Nat) (L : List (Option am_V)) (S : List am_V) (h : am_H) : Prop :=
  ∀ (p : Program) (e : Env) (s : State) (m : MethodId) (args : Array Value) (below : List Frame) (meth : Method) (c : Code) (A : Nat → Prop) (b : Nat) (ad0 : List Nat) (Q : State → Prop),
    am_Cx D dA y X p s m args meth c A b → am_Rt l D dA y d mc ms rc rs n0 Qa p e s m args below meth c A b ad0 Q →
    ∀ (ad : List Nat) (ws : va_W) (H : Heap) (locs : List Loc) (ls : Array Slot) (st : List Value), am_St D dA b n0 A s ad0 cells h ad ws H locs → am_l b ad y.2.2.1 L ls → S.map (am_cv b ad) = st.map some → W p l e (am_R d mc ms) s m args below meth c H locs cells slots Q (F0 m pc ls st)
end
section
/-! ===== the abstract machine's rows: no heap ===== -/
section AMR
variable {l : Launch} {D : va_G} {dA : Bool → ClassId} {y : am_Y} {d mc ms rc rs n0 : Nat} {X : Option (Nat × (Nat → Int32))} {Qa : Option am_V → am_H → Prop} {cells slots pc q : Nat} {L : List (Option am_V)} {S : List am_V} {h : am_H}
theorem am_iadd {x z : Int32} (hdg : decode y.2.1 pc = .ok (.iadd, 1)) (hq : q = pc) (k : am_At l D dA y d mc ms rc rs n0 X Qa cells slots (pc + 1) L (.inl (x + z) :: S) h) : am_At l D dA y d mc ms rc rs n0 X Qa cells slots q L (.inl z :: .inl x :: S) h := by
  subst hq
  intro p e s m args below meth c A b ad0 Q hC hR ad ws H locs ls st hS hl hst
  obtain ⟨c1, st, rfl, e1, hst⟩ := am_cons hst
  obtain ⟨c2, st, rfl, e2, hst⟩ := am_cons hst
  rw [am_cv_i e1, am_cv_i e2]
  exact lv_iadd hC.1.1 hC.1.2.1 hdg (k p e s m args below meth c A b ad0 Q hC hR ad ws H locs ls _ hS hl (by simp only [List.map_cons, hst]; rfl))
theorem am_isub {x z : Int32} (hdg : decode y.2.1 pc = .ok (.isub, 1)) (hq : q = pc) (k : am_At l D dA y d mc ms rc rs n0 X Qa cells slots (pc + 1) L (.inl (x - z) :: S) h) : am_At l D dA y d mc ms rc rs n0 X Qa cells slots q L (.inl z :: .inl x :: S) h := by
  subst hq
  intro p e s m args below meth c A b ad0 Q hC hR ad ws H locs ls st hS hl hst
  obtain ⟨c1, st, rfl, e1, hst⟩ := am_cons hst
  obtain ⟨c2, st, rfl, e2, hst⟩ := am_cons hst
  rw [am_cv_i e1, am_cv_i e2]
  exact lv_isub hC.1.1 hC.1.2.1 hdg (k p e s m args below meth c A b ad0 Q hC hR ad ws H locs ls _ hS hl (by simp only [List.map_cons, hst]; rfl))
theorem am_imul {x z : Int32} (hdg : decode y.2.1 pc = .ok (.imul, 1)) (hq : q = pc) (k : am_At l D dA y d mc ms rc rs n0 X Qa cells slots (pc + 1) L (.inl (x * z) :: S) h) : am_At l D dA y d mc ms rc rs n0 X Qa cells slots q L (.inl z :: .inl x :: S) h := by
  subst hq
  intro p e s m args below meth c A b ad0 Q hC hR ad ws H locs ls st hS hl hst
  obtain ⟨c1, st, rfl, e1, hst⟩ := am_cons hst
  obtain ⟨c2, st, rfl, e2, hst⟩ := am_cons hst
  rw [am_cv_i e1, am_cv_i e2]
  exact lv_imul hC.1.1 hC.1.2.1 hdg (k p e s m args below meth c A b ad0 Q hC hR ad ws H locs ls _ hS hl (by simp only [List.map_cons, hst]; rfl))
theorem am_iand {x z : Int32} (hdg : decode y.2.1 pc = .ok (.iand, 1)) (hq : q = pc) (k : am_At l D dA y d mc ms rc rs n0 X Qa cells slots (pc + 1) L (.inl (x &&& z) :: S) h) : am_At l D dA y d mc ms rc rs n0 X Qa cells slots q L (.inl z :: .inl x :: S) h := by
  subst hq
  intro p e s m args below meth c A b ad0 Q hC hR ad ws H locs ls st hS hl hst
  obtain ⟨c1, st, rfl, e1, hst⟩ := am_cons hst
  obtain ⟨c2, st, rfl, e2, hst⟩ := am_cons hst
  rw [am_cv_i e1, am_cv_i e2]
  exact lv_iand hC.1.1 hC.1.2.1 hdg (k p e s m args below meth c A b ad0 Q hC hR ad ws H locs ls _ hS hl (by simp only [List.map_cons, hst]; rfl))
theorem am_ior {x z : Int32} (hdg : decode y.2.1 pc = .ok (.ior, 1)) (hq : q = pc) (k : am_At l D dA y d mc ms rc rs n0 X Qa cells slots (pc + 1) L (.inl (x ||| z) :: S) h) : am_At l D dA y d mc ms rc rs n0 X Qa cells slots q L (.inl z :: .inl x :: S) h := by
  subst hq
  intro p e s m args below meth c A b ad0 Q hC hR ad ws H locs ls st hS hl hst
  obtain ⟨c1, st, rfl, e1, hst⟩ := am_cons hst
  obtain ⟨c2, st, rfl, e2, hst⟩ := am_cons hst
  rw [am_cv_i e1, am_cv_i e2]
  exact lv_ior hC.1.1 hC.1.2.1 hdg (k p e s m args below meth c A b ad0 Q hC hR ad ws H locs ls _ hS hl (by simp only [List.map_cons, hst]; rfl))
theorem am_ishl {x z : Int32} (hdg : decode y.2.1 pc = .ok (.ishl, 1)) (hq : q = pc) (k : am_At l D dA y d mc ms rc rs n0 X Qa cells slots (pc + 1) L (.inl (x <<< (z &&& 31)) :: S) h) : am_At l D dA y d mc ms rc rs n0 X Qa cells slots q L (.inl z :: .inl x :: S) h := by
  subst hq
  intro p e s m args below meth c A b ad0 Q hC hR ad ws H locs ls st hS hl hst
  obtain ⟨c1, st, rfl, e1, hst⟩ := am_cons hst
  obtain ⟨c2, st, rfl, e2, hst⟩ := am_cons hst
  rw [am_cv_i e1, am_cv_i e2]
  exact lv_ishl hC.1.1 hC.1.2.1 hdg (k p e s m args below meth c A b ad0 Q hC hR ad ws H locs ls _ hS hl (by simp only [List.map_cons, hst]; rfl))
theorem am_ishr {x z : Int32} (hdg : decode y.2.1 pc = .ok (.ishr, 1)) (hq : q = pc) (k : am_At l D dA y d mc ms rc rs n0 X Qa cells slots (pc + 1) L (.inl (x >>> (z &&& 31)) :: S) h) : am_At l D dA y d mc ms rc rs n0 X Qa cells slots q L (.inl z :: .inl x :: S) h := by
  subst hq
  intro p e s m args below meth c A b ad0 Q hC hR ad ws H locs ls st hS hl hst
  obtain ⟨c1, st, rfl, e1, hst⟩ := am_cons hst
  obtain ⟨c2, st, rfl, e2, hst⟩ := am_cons hst
  rw [am_cv_i e1, am_cv_i e2]
  exact lv_ishr hC.1.1 hC.1.2.1 hdg (k p e s m args below meth c A b ad0 Q hC hR ad ws H locs ls _ hS hl (by simp only [List.map_cons, hst]; rfl))
theorem am_idiv {x z : Int32} (hdg : decode y.2.1 pc = .ok (.idiv, 1)) (hq : q = pc) (hz : ¬ z = 0) (k : am_At l D dA y d mc ms rc rs n0 X Qa cells slots (pc + 1) L (.inl (x / z) :: S) h) : am_At l D dA y d mc ms rc rs n0 X Qa cells slots q L (.inl z :: .inl x :: S) h := by
  subst hq
  intro p e s m args below meth c A b ad0 Q hC hR ad ws H locs ls st hS hl hst
  obtain ⟨c1, st, rfl, e1, hst⟩ := am_cons hst
  obtain ⟨c2, st, rfl, e2, hst⟩ := am_cons hst
  rw [am_cv_i e1, am_cv_i e2]
  exact lv_idiv hC.1.1 hC.1.2.1 hdg hz (k p e s m args below meth c A b ad0 Q hC hR ad ws H locs ls _ hS hl (by simp only [List.map_cons, hst]; rfl))
theorem am_irem {x z : Int32} (hdg : decode y.2.1 pc = .ok (.irem, 1)) (hq : q = pc) (hz : ¬ z = 0) (k : am_At l D dA y d mc ms rc rs n0 X Qa cells slots (pc + 1) L (.inl (x - x / z * z) :: S) h) : am_At l D dA y d mc ms rc rs n0 X Qa cells slots q L (.inl z :: .inl x :: S) h := by
  subst hq
  intro p e s m args below meth c A b ad0 Q hC hR ad ws H locs ls st hS hl hst
  obtain ⟨c1, st, rfl, e1, hst⟩ := am_cons hst
  obtain ⟨c2, st, rfl, e2, hst⟩ := am_cons hst
  rw [am_cv_i e1, am_cv_i e2]
  exact lv_irem hC.1.1 hC.1.2.1 hdg hz (k p e s m args below meth c A b ad0 Q hC hR ad ws H locs ls _ hS hl (by simp only [List.map_cons, hst]; rfl))
theorem am_iconst {n : Int} {v : Int32} (hdg : decode y.2.1 pc = .ok (.iconst n, 1)) (hq : q = pc) (hv : Int32.ofInt n = v) (k : am_At l D dA y d mc ms rc rs n0 X Qa cells slots (pc + 1) L (.inl v :: S) h) : am_At l D dA y d mc ms rc rs n0 X Qa cells slots q L S h := by
  subst hq
  intro p e s m args below meth c A b ad0 Q hC hR ad ws H locs ls st hS hl hst
  exact lv_iconst hC.1.1 hC.1.2.1 hdg hv (k p e s m args below meth c A b ad0 Q hC hR ad ws H locs ls _ hS hl (by simp only [List.map_cons, hst]; rfl))
theorem am_bipush {n : Int} {v : Int32} (hdg : decode y.2.1 pc = .ok (.bipush n, 2)) (hq : q = pc) (hv : (Int8.ofInt n).toInt32 = v) (k : am_At l D dA y d mc ms rc rs n0 X Qa cells slots (pc + 2) L (.inl v :: S) h) : am_At l D dA y d mc ms rc rs n0 X Qa cells slots q L S h := by
  subst hq
  intro p e s m args below meth c A b ad0 Q hC hR ad ws H locs ls st hS hl hst
  exact lv_bipush hC.1.1 hC.1.2.1 hdg hv (k p e s m args below meth c A b ad0 Q hC hR ad ws H locs ls _ hS hl (by simp only [List.map_cons, hst]; rfl))
theorem am_sipush {n : Int} {v : Int32} (hdg : decode y.2.1 pc = .ok (.sipush n, 3)) (hq : q = pc) (hv : (Int16.ofInt n).toInt32 = v) (k : am_At l D dA y d mc ms rc rs n0 X Qa cells slots (pc + 3) L (.inl v :: S) h) : am_At l D dA y d mc ms rc rs n0 X Qa cells slots q L S h := by
  subst hq
  intro p e s m args below meth c A b ad0 Q hC hR ad ws H locs ls st hS hl hst
  exact lv_sipush hC.1.1 hC.1.2.1 hdg hv (k p e s m args below meth c A b ad0 Q hC hR ad ws H locs ls _ hS hl (by simp only [List.map_cons, hst]; rfl))
theorem am_ldc {i : Nat} {v : Int32} (hdg : decode y.2.1 pc = .ok (.ldc i, 2)) (hq : q = pc) (hw : Cond.constant y.1.cls i v ∈ am_G) (k : am_At l D dA y d mc ms rc rs n0 X Qa cells slots (pc + 2) L (.inl v :: S) h) : am_At l D dA y d mc ms rc rs n0 X Qa cells slots q L S h := by
  subst hq
  intro p e s m args below meth c A b ad0 Q hC hR ad ws H locs ls st hS hl hst
  exact lv_ldc hC.1.1 hC.1.2.1 hC.1.2.2.2 (hC.2.2.1 _ hw) hdg (k p e s m args below meth c A b ad0 Q hC hR ad ws H locs ls _ hS hl (by simp only [List.map_cons, hst]; rfl))
theorem am_iload_n {i : Fin 4} {x : Int32} (hdg : decode y.2.1 pc = .ok (.iload_n i, 1)) (hq : q = pc) (hL : L[(i : Nat)]? = some (some (.inl x))) (k : am_At l D dA y d mc ms rc rs n0 X Qa cells slots (pc + 1) L (.inl x :: S) h) : am_At l D dA y d mc ms rc rs n0 X Qa cells slots q L S h := by
  subst hq
  intro p e s m args below meth c A b ad0 Q hC hR ad ws H locs ls st hS hl hst
  obtain ⟨c1, e1, g1⟩ := hl.at hL
  rw [am_cv_i e1] at g1
  exact lv_iload_n hC.1.1 hC.1.2.1 hdg rfl g1 (k p e s m args below meth c A b ad0 Q hC hR ad ws H locs ls _ hS hl (by simp only [List.map_cons, hst]; rfl))
theorem am_iload {i : Nat} {x : Int32} (hdg : decode y.2.1 pc = .ok (.iload i, 2)) (hq : q = pc) (hL : L[i]? = some (some (.inl x))) (k : am_At l D dA y d mc ms rc rs n0 X Qa cells slots (pc + 2) L (.inl x :: S) h) : am_At l D dA y d mc ms rc rs n0 X Qa cells slots q L S h := by
  subst hq
  intro p e s m args below meth c A b ad0 Q hC hR ad ws H locs ls st hS hl hst
  obtain ⟨c1, e1, g1⟩ := hl.at hL
  rw [am_cv_i e1] at g1
  exact lv_iload hC.1.1 hC.1.2.1 hdg g1 (k p e s m args below meth c A b ad0 Q hC hR ad ws H locs ls _ hS hl (by simp only [List.map_cons, hst]; rfl))
theorem am_aload_n {i : Fin 4} {r : Option Nat} (hdg : decode y.2.1 pc = .ok (.aload_n i, 1)) (hq : q = pc) (hL : L[(i : Nat)]? = some (some (.inr (some r)))) (k : am_At l D dA y d mc ms rc rs n0 X Qa cells slots (pc + 1) L (.inr (some r) :: S) h) : am_At l D dA y d mc ms rc rs n0 X Qa cells slots q L S h := by
  subst hq
  intro p e s m args below meth c A b ad0 Q hC hR ad ws H locs ls st hS hl hst
  obtain ⟨c1, e1, g1⟩ := hl.at hL
  obtain ⟨a, rfl⟩ : ∃ a, c1 = .ref a := by
    cases r with
    | none => exact ⟨b, (Option.some.inj e1).symm⟩
    | some r => obtain ⟨a, -, e⟩ := am_cv_r e1; exact ⟨a, e⟩
  exact lv_aload_n hC.1.1 hC.1.2.1 hdg rfl g1 (k p e s m args below meth c A b ad0 Q hC hR ad ws H locs ls _ hS hl (by simp only [List.map_cons, hst, e1]))
theorem am_istore_n {i : Fin 4} {x : Int32} (hdg : decode y.2.1 pc = .ok (.istore_n i, 1)) (hq : q = pc) (hn : Nat.blt (i : Nat) L.length = true) (k : am_At l D dA y d mc ms rc rs n0 X Qa cells slots (pc + 1) (L.set (i : Nat) (some (.inl x))) S h) : am_At l D dA y d mc ms rc rs n0 X Qa cells slots q L (.inl x :: S) h := by
  subst hq
  intro p e s m args below meth c A b ad0 Q hC hR ad ws H locs ls st hS hl hst
  obtain ⟨c1, st, rfl, e1, hst⟩ := am_cons hst
  rw [am_cv_i e1]
  obtain ⟨lv, g1, g2⟩ := hl.lv
  have hi : (i : Nat) < y.2.2.1 := by rw [← hl.1]; exact Nat.blt_eq.mp hn
  exact lv_istore_n hC.1.1 hC.1.2.1 hdg rfl g1 hi rfl (fun ls' h' => (k p e s m args below meth c A b ad0 Q hC hR ad ws H locs ls' _ hS (g2 _ (.inl x) _ hi rfl ls' h') hst))
theorem am_istore {i : Nat} {x : Int32} (hdg : decode y.2.1 pc = .ok (.istore i, 2)) (hq : q = pc) (hn : Nat.blt i L.length = true) (k : am_At l D dA y d mc ms rc rs n0 X Qa cells slots (pc + 2) (L.set i (some (.inl x))) S h) : am_At l D dA y d mc ms rc rs n0 X Qa cells slots q L (.inl x :: S) h := by
  subst hq
  intro p e s m args below meth c A b ad0 Q hC hR ad ws H locs ls st hS hl hst
  obtain ⟨c1, st, rfl, e1, hst⟩ := am_cons hst
  rw [am_cv_i e1]
  obtain ⟨lv, g1, g2⟩ := hl.lv
  have hi : i < y.2.2.1 := by rw [← hl.1]; exact Nat.blt_eq.mp hn
  exact lv_istore hC.1.1 hC.1.2.1 hdg g1 hi rfl (fun ls' h' => (k p e s m args below meth c A b ad0 Q hC hR ad ws H locs ls' _ hS (g2 _ (.inl x) _ hi rfl ls' h') hst))
theorem am_astore_n {i : Fin 4} {r : Nat} (hdg : decode y.2.1 pc = .ok (.astore_n i, 1)) (hq : q = pc) (hn : Nat.blt (i : Nat) L.length = true) (k : am_At l D dA y d mc ms rc rs n0 X Qa cells slots (pc + 1) (L.set (i : Nat) (some (am_r r))) S h) : am_At l D dA y d mc ms rc rs n0 X Qa cells slots q L (am_r r :: S) h := by
  subst hq
  intro p e s m args below meth c A b ad0 Q hC hR ad ws H locs ls st hS hl hst
  obtain ⟨c1, st, rfl, e1, hst2⟩ := am_cons hst
  obtain ⟨a, ha, rfl⟩ := am_cv_r e1
  obtain ⟨lv, g1, g2⟩ := hl.lv
  have hi : (i : Nat) < y.2.2.1 := by rw [← hl.1]; exact Nat.blt_eq.mp hn
  exact lv_astore_n hC.1.1 hC.1.2.1 hdg rfl g1 hi rfl (fun ls' h' => (k p e s m args below meth c A b ad0 Q hC hR ad ws H locs ls' _ hS (g2 _ (am_r r) _ hi e1 ls' h') hst2))
theorem am_iinc {i : Nat} {n : Int} {x v : Int32} (hdg : decode y.2.1 pc = .ok (.iinc i n, 3)) (hq : q = pc) (hL : L[i]? = some (some (.inl x))) (hv : x + Int32.ofInt n = v) (k : am_At l D dA y d mc ms rc rs n0 X Qa cells slots (pc + 3) (L.set i (some (.inl v))) S h) : am_At l D dA y d mc ms rc rs n0 X Qa cells slots q L S h := by
  subst hq
  intro p e s m args below meth c A b ad0 Q hC hR ad ws H locs ls st hS hl hst
  have hl0 := hl
  obtain ⟨h0, lv0, g1, g2⟩ := hl0
  obtain ⟨c1, e1, e2⟩ := g2 i _ hL
  rw [am_cv_i e1] at e2
  obtain ⟨k0, hk0⟩ := List.getElem?_of_mem e2
  have hi : i < y.2.2.1 := by rw [← h0]; exact (List.getElem?_eq_some_iff.mp hL).1
  refine lv_iinc hC.1.1 hC.1.2.1 hdg g1 hk0 hv hi rfl (fun ls' h' => k p e s m args below meth c A b ad0 Q hC hR ad ws H locs ls' st hS ⟨by rw [List.length_set]; exact h0, _, h', fun j w hj => ?_⟩ hst)
  by_cases hij : i = j
  · subst hij
    rw [List.getElem?_set_self (by omega)] at hj
    cases hj
    exact ⟨_, rfl, List.mem_cons_self⟩
  · rw [List.getElem?_set_ne hij] at hj
    obtain ⟨c', e1, e2⟩ := g2 j w hj
    refine ⟨c', e1, List.mem_cons_of_mem _ (List.mem_filter.mpr ⟨e2, ?_⟩)⟩
    have hc := am_cv_cat e1
    simp [hc, Ne.symm hij]
theorem am_dup {v : am_V} (hdg : decode y.2.1 pc = .ok (.dup, 1)) (hq : q = pc) (k : am_At l D dA y d mc ms rc rs n0 X Qa cells slots (pc + 1) L (v :: v :: S) h) : am_At l D dA y d mc ms rc rs n0 X Qa cells slots q L (v :: S) h := by
  subst hq
  intro p e s m args below meth c A b ad0 Q hC hR ad ws H locs ls st hS hl hst
  obtain ⟨c1, st, rfl, e1, hst⟩ := am_cons hst
  exact lv_dup hC.1.1 hC.1.2.1 hdg (am_cv_cat e1) (k p e s m args below meth c A b ad0 Q hC hR ad ws H locs ls _ hS hl (by simp only [List.map_cons, hst, e1]))
theorem am_pop {v : am_V} (hdg : decode y.2.1 pc = .ok (.pop, 1)) (hq : q = pc) (k : am_At l D dA y d mc ms rc rs n0 X Qa cells slots (pc + 1) L S h) : am_At l D dA y d mc ms rc rs n0 X Qa cells slots q L (v :: S) h := by
  subst hq
  intro p e s m args below meth c A b ad0 Q hC hR ad ws H locs ls st hS hl hst
  obtain ⟨c1, st, rfl, e1, hst⟩ := am_cons hst
  exact lv_pop hC.1.1 hC.1.2.1 hdg (am_cv_cat e1) (k p e s m args below meth c A b ad0 Q hC hR ad ws H locs ls _ hS hl hst)
theorem am_dup2 {v w : am_V} (hdg : decode y.2.1 pc = .ok (.dup2, 1)) (hq : q = pc) (k : am_At l D dA y d mc ms rc rs n0 X Qa cells slots (pc + 1) L (v :: w :: v :: w :: S) h) : am_At l D dA y d mc ms rc rs n0 X Qa cells slots q L (v :: w :: S) h := by
  subst hq
  intro p e s m args below meth c A b ad0 Q hC hR ad ws H locs ls st hS hl hst
  obtain ⟨c1, st, rfl, e1, hst⟩ := am_cons hst
  obtain ⟨c2, st, rfl, e2, hst⟩ := am_cons hst
  exact lv_dup2_11 hC.1.1 hC.1.2.1 hdg (am_cv_cat e1) (am_cv_cat e2) (k p e s m args below meth c A b ad0 Q hC hR ad ws H locs ls _ hS hl (by simp only [List.map_cons, hst, e1, e2]))
theorem am_goto {off : Int} (tgt : Nat) (hdg : decode y.2.1 pc = .ok (.goto off, 3)) (hq : q = pc) (ht : (pc : Int) + off = (tgt : Int)) (k : am_At l D dA y d mc ms rc rs n0 X Qa cells slots tgt L S h) : am_At l D dA y d mc ms rc rs n0 X Qa cells slots q L S h := by
  subst hq
  intro p e s m args below meth c A b ad0 Q hC hR ad ws H locs ls st hS hl hst
  exact lv_goto hC.1.1 hC.1.2.1 hdg ht (k p e s m args below meth c A b ad0 Q hC hR ad ws H locs ls _ hS hl hst)
theorem am_if_eq {x : Int32} {off : Int} (tgt : Nat) (hdg : decode y.2.1 pc = .ok (.ifCond .eq off, 3)) (hq : q = pc) (ht : (pc : Int) + off = (tgt : Int)) (kt : x = 0 → am_At l D dA y d mc ms rc rs n0 X Qa cells slots tgt L S h) (kf : ¬ x = 0 → am_At l D dA y d mc ms rc rs n0 X Qa cells slots (pc + 3) L S h) : am_At l D dA y d mc ms rc rs n0 X Qa cells slots q L (.inl x :: S) h := by
  subst hq
  intro p e s m args below meth c A b ad0 Q hC hR ad ws H locs ls st hS hl hst
  obtain ⟨c1, st, rfl, e1, hst⟩ := am_cons hst
  rw [am_cv_i e1]
  exact lv_if_eq hC.1.1 hC.1.2.1 hdg ht (fun g => (kt g p e s m args below meth c A b ad0 Q hC hR ad ws H locs ls _ hS hl hst)) (fun g => (kf g p e s m args below meth c A b ad0 Q hC hR ad ws H locs ls _ hS hl hst))
theorem am_if_ne {x : Int32} {off : Int} (tgt : Nat) (hdg : decode y.2.1 pc = .ok (.ifCond .ne off, 3)) (hq : q = pc) (ht : (pc : Int) + off = (tgt : Int)) (kt : ¬ x = 0 → am_At l D dA y d mc ms rc rs n0 X Qa cells slots tgt L S h) (kf : x = 0 → am_At l D dA y d mc ms rc rs n0 X Qa cells slots (pc + 3) L S h) : am_At l D dA y d mc ms rc rs n0 X Qa cells slots q L (.inl x :: S) h := by
  subst hq
  intro p e s m args below meth c A b ad0 Q hC hR ad ws H locs ls st hS hl hst
  obtain ⟨c1, st, rfl, e1, hst⟩ := am_cons hst
  rw [am_cv_i e1]
  exact lv_if_ne hC.1.1 hC.1.2.1 hdg ht (fun g => (kt g p e s m args below meth c A b ad0 Q hC hR ad ws H locs ls _ hS hl hst)) (fun g => (kf g p e s m args below meth c A b ad0 Q hC hR ad ws H locs ls _ hS hl hst))
theorem am_if_lt {x : Int32} {off : Int} (tgt : Nat) (hdg : decode y.2.1 pc = .ok (.ifCond .lt off, 3)) (hq : q = pc) (ht : (pc : Int) + off = (tgt : Int)) (kt : x < 0 → am_At l D dA y d mc ms rc rs n0 X Qa cells slots tgt L S h) (kf : ¬ x < 0 → am_At l D dA y d mc ms rc rs n0 X Qa cells slots (pc + 3) L S h) : am_At l D dA y d mc ms rc rs n0 X Qa cells slots q L (.inl x :: S) h := by
  subst hq
  intro p e s m args below meth c A b ad0 Q hC hR ad ws H locs ls st hS hl hst
  obtain ⟨c1, st, rfl, e1, hst⟩ := am_cons hst
  rw [am_cv_i e1]
  exact lv_if_lt hC.1.1 hC.1.2.1 hdg ht (fun g => (kt g p e s m args below meth c A b ad0 Q hC hR ad ws H locs ls _ hS hl hst)) (fun g => (kf g p e s m args below meth c A b ad0 Q hC hR ad ws H locs ls _ hS hl hst))
theorem am_if_le {x : Int32} {off : Int} (tgt : Nat) (hdg : decode y.2.1 pc = .ok (.ifCond .le off, 3)) (hq : q = pc) (ht : (pc : Int) + off = (tgt : Int)) (kt : x ≤ 0 → am_At l D dA y d mc ms rc rs n0 X Qa cells slots tgt L S h) (kf : ¬ x ≤ 0 → am_At l D dA y d mc ms rc rs n0 X Qa cells slots (pc + 3) L S h) : am_At l D dA y d mc ms rc rs n0 X Qa cells slots q L (.inl x :: S) h := by
  subst hq
  intro p e s m args below meth c A b ad0 Q hC hR ad ws H locs ls st hS hl hst
  obtain ⟨c1, st, rfl, e1, hst⟩ := am_cons hst
  rw [am_cv_i e1]
  exact lv_if_le hC.1.1 hC.1.2.1 hdg ht (fun g => (kt g p e s m args below meth c A b ad0 Q hC hR ad ws H locs ls _ hS hl hst)) (fun g => (kf g p e s m args below meth c A b ad0 Q hC hR ad ws H locs ls _ hS hl hst))
theorem am_icmp_eq {x z : Int32} {off : Int} (tgt : Nat) (hdg : decode y.2.1 pc = .ok (.if_icmp .eq off, 3)) (hq : q = pc) (ht : (pc : Int) + off = (tgt : Int)) (kt : x = z → am_At l D dA y d mc ms rc rs n0 X Qa cells slots tgt L S h) (kf : ¬ x = z → am_At l D dA y d mc ms rc rs n0 X Qa cells slots (pc + 3) L S h) : am_At l D dA y d mc ms rc rs n0 X Qa cells slots q L (.inl z :: .inl x :: S) h := by
  subst hq
  intro p e s m args below meth c A b ad0 Q hC hR ad ws H locs ls st hS hl hst
  obtain ⟨c1, st, rfl, e1, hst⟩ := am_cons hst
  obtain ⟨c2, st, rfl, e2, hst⟩ := am_cons hst
  rw [am_cv_i e1, am_cv_i e2]
  exact lv_icmp_eq hC.1.1 hC.1.2.1 hdg ht (fun g => (kt g p e s m args below meth c A b ad0 Q hC hR ad ws H locs ls _ hS hl hst)) (fun g => (kf g p e s m args below meth c A b ad0 Q hC hR ad ws H locs ls _ hS hl hst))
theorem am_icmp_ne {x z : Int32} {off : Int} (tgt : Nat) (hdg : decode y.2.1 pc = .ok (.if_icmp .ne off, 3)) (hq : q = pc) (ht : (pc : Int) + off = (tgt : Int)) (kt : ¬ x = z → am_At l D dA y d mc ms rc rs n0 X Qa cells slots tgt L S h) (kf : x = z → am_At l D dA y d mc ms rc rs n0 X Qa cells slots (pc + 3) L S h) : am_At l D dA y d mc ms rc rs n0 X Qa cells slots q L (.inl z :: .inl x :: S) h := by
  subst hq
  intro p e s m args below meth c A b ad0 Q hC hR ad ws H locs ls st hS hl hst
  obtain ⟨c1, st, rfl, e1, hst⟩ := am_cons hst
  obtain ⟨c2, st, rfl, e2, hst⟩ := am_cons hst
  rw [am_cv_i e1, am_cv_i e2]
  exact lv_icmp_ne hC.1.1 hC.1.2.1 hdg ht (fun g => (kt g p e s m args below meth c A b ad0 Q hC hR ad ws H locs ls _ hS hl hst)) (fun g => (kf g p e s m args below meth c A b ad0 Q hC hR ad ws H locs ls _ hS hl hst))
theorem am_icmp_lt {x z : Int32} {off : Int} (tgt : Nat) (hdg : decode y.2.1 pc = .ok (.if_icmp .lt off, 3)) (hq : q = pc) (ht : (pc : Int) + off = (tgt : Int)) (kt : x < z → am_At l D dA y d mc ms rc rs n0 X Qa cells slots tgt L S h) (kf : ¬ x < z → am_At l D dA y d mc ms rc rs n0 X Qa cells slots (pc + 3) L S h) : am_At l D dA y d mc ms rc rs n0 X Qa cells slots q L (.inl z :: .inl x :: S) h := by
  subst hq
  intro p e s m args below meth c A b ad0 Q hC hR ad ws H locs ls st hS hl hst
  obtain ⟨c1, st, rfl, e1, hst⟩ := am_cons hst
  obtain ⟨c2, st, rfl, e2, hst⟩ := am_cons hst
  rw [am_cv_i e1, am_cv_i e2]
  exact lv_icmp_lt hC.1.1 hC.1.2.1 hdg ht (fun g => (kt g p e s m args below meth c A b ad0 Q hC hR ad ws H locs ls _ hS hl hst)) (fun g => (kf g p e s m args below meth c A b ad0 Q hC hR ad ws H locs ls _ hS hl hst))
theorem am_icmp_ge {x z : Int32} {off : Int} (tgt : Nat) (hdg : decode y.2.1 pc = .ok (.if_icmp .ge off, 3)) (hq : q = pc) (ht : (pc : Int) + off = (tgt : Int)) (kt : z ≤ x → am_At l D dA y d mc ms rc rs n0 X Qa cells slots tgt L S h) (kf : ¬ z ≤ x → am_At l D dA y d mc ms rc rs n0 X Qa cells slots (pc + 3) L S h) : am_At l D dA y d mc ms rc rs n0 X Qa cells slots q L (.inl z :: .inl x :: S) h := by
  subst hq
  intro p e s m args below meth c A b ad0 Q hC hR ad ws H locs ls st hS hl hst
  obtain ⟨c1, st, rfl, e1, hst⟩ := am_cons hst
  obtain ⟨c2, st, rfl, e2, hst⟩ := am_cons hst
  rw [am_cv_i e1, am_cv_i e2]
  exact lv_icmp_ge hC.1.1 hC.1.2.1 hdg ht (fun g => (kt g p e s m args below meth c A b ad0 Q hC hR ad ws H locs ls _ hS hl hst)) (fun g => (kf g p e s m args below meth c A b ad0 Q hC hR ad ws H locs ls _ hS hl hst))
theorem am_icmp_gt {x z : Int32} {off : Int} (tgt : Nat) (hdg : decode y.2.1 pc = .ok (.if_icmp .gt off, 3)) (hq : q = pc) (ht : (pc : Int) + off = (tgt : Int)) (kt : z < x → am_At l D dA y d mc ms rc rs n0 X Qa cells slots tgt L S h) (kf : ¬ z < x → am_At l D dA y d mc ms rc rs n0 X Qa cells slots (pc + 3) L S h) : am_At l D dA y d mc ms rc rs n0 X Qa cells slots q L (.inl z :: .inl x :: S) h := by
  subst hq
  intro p e s m args below meth c A b ad0 Q hC hR ad ws H locs ls st hS hl hst
  obtain ⟨c1, st, rfl, e1, hst⟩ := am_cons hst
  obtain ⟨c2, st, rfl, e2, hst⟩ := am_cons hst
  rw [am_cv_i e1, am_cv_i e2]
  exact lv_icmp_gt hC.1.1 hC.1.2.1 hdg ht (fun g => (kt g p e s m args below meth c A b ad0 Q hC hR ad ws H locs ls _ hS hl hst)) (fun g => (kf g p e s m args below meth c A b ad0 Q hC hR ad ws H locs ls _ hS hl hst))
theorem am_icmp_le {x z : Int32} {off : Int} (tgt : Nat) (hdg : decode y.2.1 pc = .ok (.if_icmp .le off, 3)) (hq : q = pc) (ht : (pc : Int) + off = (tgt : Int)) (kt : x ≤ z → am_At l D dA y d mc ms rc rs n0 X Qa cells slots tgt L S h) (kf : ¬ x ≤ z → am_At l D dA y d mc ms rc rs n0 X Qa cells slots (pc + 3) L S h) : am_At l D dA y d mc ms rc rs n0 X Qa cells slots q L (.inl z :: .inl x :: S) h := by
  subst hq
  intro p e s m args below meth c A b ad0 Q hC hR ad ws H locs ls st hS hl hst
  obtain ⟨c1, st, rfl, e1, hst⟩ := am_cons hst
  obtain ⟨c2, st, rfl, e2, hst⟩ := am_cons hst
  rw [am_cv_i e1, am_cv_i e2]
  exact lv_icmp_le hC.1.1 hC.1.2.1 hdg ht (fun g => (kt g p e s m args below meth c A b ad0 Q hC hR ad ws H locs ls _ hS hl hst)) (fun g => (kf g p e s m args below meth c A b ad0 Q hC hR ad ws H locs ls _ hS hl hst))
theorem am_ncmp_eq {a z : Nat} {off : Int} (tgt : Nat) (hdg : decode y.2.1 pc = .ok (.if_icmp .eq off, 3)) (hq : q = pc) (ht : (pc : Int) + off = (tgt : Int)) (ha : a < 2 ^ 31) (hz : z < 2 ^ 31) (kt : a = z → am_At l D dA y d mc ms rc rs n0 X Qa cells slots tgt L S h) (kf : ¬ a = z → am_At l D dA y d mc ms rc rs n0 X Qa cells slots (pc + 3) L S h) : am_At l D dA y d mc ms rc rs n0 X Qa cells slots q L (.inl (nI z) :: .inl (nI a) :: S) h :=
  am_icmp_eq tgt hdg hq ht (fun g => kt ((nI_eq ha hz).mp g)) (fun g => kf (fun g2 => g ((nI_eq ha hz).mpr g2)))
theorem am_ncmp_ne {a z : Nat} {off : Int} (tgt : Nat) (hdg : decode y.2.1 pc = .ok (.if_icmp .ne off, 3)) (hq : q = pc) (ht : (pc : Int) + off = (tgt : Int)) (ha : a < 2 ^ 31) (hz : z < 2 ^ 31) (kt : ¬ a = z → am_At l D dA y d mc ms rc rs n0 X Qa cells slots tgt L S h) (kf : a = z → am_At l D dA y d mc ms rc rs n0 X Qa cells slots (pc + 3) L S h) : am_At l D dA y d mc ms rc rs n0 X Qa cells slots q L (.inl (nI z) :: .inl (nI a) :: S) h :=
  am_icmp_ne tgt hdg hq ht (fun g => kt (fun g2 => g ((nI_eq ha hz).mpr g2))) (fun g => kf ((nI_eq ha hz).mp g))
theorem am_ncmp_lt {a z : Nat} {off : Int} (tgt : Nat) (hdg : decode y.2.1 pc = .ok (.if_icmp .lt off, 3)) (hq : q = pc) (ht : (pc : Int) + off = (tgt : Int)) (ha : a < 2 ^ 31) (hz : z < 2 ^ 31) (kt : a < z → am_At l D dA y d mc ms rc rs n0 X Qa cells slots tgt L S h) (kf : z ≤ a → am_At l D dA y d mc ms rc rs n0 X Qa cells slots (pc + 3) L S h) : am_At l D dA y d mc ms rc rs n0 X Qa cells slots q L (.inl (nI z) :: .inl (nI a) :: S) h :=
  am_icmp_lt tgt hdg hq ht (fun g => kt ((nI_ltI ha hz).mp g)) (fun g => kf (Nat.not_lt.mp (fun g2 => g ((nI_ltI ha hz).mpr g2))))
theorem am_ncmp_ge {a z : Nat} {off : Int} (tgt : Nat) (hdg : decode y.2.1 pc = .ok (.if_icmp .ge off, 3)) (hq : q = pc) (ht : (pc : Int) + off = (tgt : Int)) (ha : a < 2 ^ 31) (hz : z < 2 ^ 31) (kt : z ≤ a → am_At l D dA y d mc ms rc rs n0 X Qa cells slots tgt L S h) (kf : a < z → am_At l D dA y d mc ms rc rs n0 X Qa cells slots (pc + 3) L S h) : am_At l D dA y d mc ms rc rs n0 X Qa cells slots q L (.inl (nI z) :: .inl (nI a) :: S) h :=
  am_icmp_ge tgt hdg hq ht (fun g => kt ((nI_leI hz ha).mp g)) (fun g => kf (Nat.not_le.mp (fun g2 => g ((nI_leI hz ha).mpr g2))))
theorem am_ncmp_gt {a z : Nat} {off : Int} (tgt : Nat) (hdg : decode y.2.1 pc = .ok (.if_icmp .gt off, 3)) (hq : q = pc) (ht : (pc : Int) + off = (tgt : Int)) (ha : a < 2 ^ 31) (hz : z < 2 ^ 31) (kt : z < a → am_At l D dA y d mc ms rc rs n0 X Qa cells slots tgt L S h) (kf : a ≤ z → am_At l D dA y d mc ms rc rs n0 X Qa cells slots (pc + 3) L S h) : am_At l D dA y d mc ms rc rs n0 X Qa cells slots q L (.inl (nI z) :: .inl (nI a) :: S) h :=
  am_icmp_gt tgt hdg hq ht (fun g => kt ((nI_ltI hz ha).mp g)) (fun g => kf (Nat.not_lt.mp (fun g2 => g ((nI_ltI hz ha).mpr g2))))
theorem am_ncmp_le {a z : Nat} {off : Int} (tgt : Nat) (hdg : decode y.2.1 pc = .ok (.if_icmp .le off, 3)) (hq : q = pc) (ht : (pc : Int) + off = (tgt : Int)) (ha : a < 2 ^ 31) (hz : z < 2 ^ 31) (kt : a ≤ z → am_At l D dA y d mc ms rc rs n0 X Qa cells slots tgt L S h) (kf : z < a → am_At l D dA y d mc ms rc rs n0 X Qa cells slots (pc + 3) L S h) : am_At l D dA y d mc ms rc rs n0 X Qa cells slots q L (.inl (nI z) :: .inl (nI a) :: S) h :=
  am_icmp_le tgt hdg hq ht (fun g => kt ((nI_leI ha hz).mp g)) (fun g => kf (Nat.not_le.mp (fun g2 => g ((nI_leI ha hz).mpr g2))))
theorem am_nif_eq {a : Nat} {off : Int} (tgt : Nat) (hdg : decode y.2.1 pc = .ok (.ifCond .eq off, 3)) (hq : q = pc) (ht : (pc : Int) + off = (tgt : Int)) (ha : a < 2 ^ 31) (kt : a = 0 → am_At l D dA y d mc ms rc rs n0 X Qa cells slots tgt L S h) (kf : 0 < a → am_At l D dA y d mc ms rc rs n0 X Qa cells slots (pc + 3) L S h) : am_At l D dA y d mc ms rc rs n0 X Qa cells slots q L (.inl (nI a) :: S) h :=
  am_if_eq tgt hdg hq ht (fun g => kt (by rcases Nat.eq_zero_or_pos a with e | e; exact e; exact absurd g (nI_ne0 e ha))) (fun g => kf (by rcases Nat.eq_zero_or_pos a with e | e; exact absurd (by rw [e]; exact nI_0) g; exact e))
theorem am_nif_ne {a : Nat} {off : Int} (tgt : Nat) (hdg : decode y.2.1 pc = .ok (.ifCond .ne off, 3)) (hq : q = pc) (ht : (pc : Int) + off = (tgt : Int)) (ha : a < 2 ^ 31) (kt : 0 < a → am_At l D dA y d mc ms rc rs n0 X Qa cells slots tgt L S h) (kf : a = 0 → am_At l D dA y d mc ms rc rs n0 X Qa cells slots (pc + 3) L S h) : am_At l D dA y d mc ms rc rs n0 X Qa cells slots q L (.inl (nI a) :: S) h :=
  am_if_ne tgt hdg hq ht (fun g => kt (by rcases Nat.eq_zero_or_pos a with e | e; exact absurd (by rw [e]; exact nI_0) g; exact e)) (fun g => kf (by rcases Nat.eq_zero_or_pos a with e | e; exact e; exact absurd g (nI_ne0 e ha)))
theorem am_nif_lt {a : Nat} {off : Int} (tgt : Nat) (hdg : decode y.2.1 pc = .ok (.ifCond .lt off, 3)) (hq : q = pc) (ht : (pc : Int) + off = (tgt : Int)) (ha : a < 2 ^ 31) (kf : am_At l D dA y d mc ms rc rs n0 X Qa cells slots (pc + 3) L S h) : am_At l D dA y d mc ms rc rs n0 X Qa cells slots q L (.inl (nI a) :: S) h :=
  am_if_lt tgt hdg hq ht (fun g => absurd g (nI_pos ha)) (fun _ => kf)
theorem am_nif_le {a : Nat} {off : Int} (tgt : Nat) (hdg : decode y.2.1 pc = .ok (.ifCond .le off, 3)) (hq : q = pc) (ht : (pc : Int) + off = (tgt : Int)) (ha : a < 2 ^ 31) (kt : a = 0 → am_At l D dA y d mc ms rc rs n0 X Qa cells slots tgt L S h) (kf : 0 < a → am_At l D dA y d mc ms rc rs n0 X Qa cells slots (pc + 3) L S h) : am_At l D dA y d mc ms rc rs n0 X Qa cells slots q L (.inl (nI a) :: S) h :=
  am_if_le tgt hdg hq ht (fun g => kt (by rcases Nat.eq_zero_or_pos a with e | e; exact e; exact absurd g (nI_nle e ha))) (fun g => kf (by rcases Nat.eq_zero_or_pos a with e | e; exact absurd (by rw [e, nI_0]; decide) g; exact e))
theorem am_swOut {dflt lo hi : Int} {offs : Array Int} {len : Nat} {x : Int32} (tgt : Nat) (hdg : decode y.2.1 pc = .ok (.tableswitch dflt lo hi offs, len)) (hq : q = pc) (hx : x.toInt < lo ∨ hi < x.toInt) (ht : (pc : Int) + dflt = (tgt : Int)) (k : am_At l D dA y d mc ms rc rs n0 X Qa cells slots tgt L S h) : am_At l D dA y d mc ms rc rs n0 X Qa cells slots q L (.inl x :: S) h := by
  subst hq
  intro p e s m args below meth c A b ad0 Q hC hR ad ws H locs ls st hS hl hst
  obtain ⟨c1, st, rfl, e1, hst⟩ := am_cons hst
  rw [am_cv_i e1]
  exact lv_tableOut hC.1.1 hC.1.2.1 hdg hx ht (k p e s m args below meth c A b ad0 Q hC hR ad ws H locs ls _ hS hl hst)
theorem am_swIn {dflt lo hi off : Int} {offs : Array Int} {len : Nat} {x : Int32} (tgt : Nat) (hdg : decode y.2.1 pc = .ok (.tableswitch dflt lo hi offs, len)) (hq : q = pc) (h1 : ¬ x.toInt < lo) (h2 : ¬ hi < x.toInt) (ho : offs[(x.toInt - lo).toNat]? = some off) (ht : (pc : Int) + off = (tgt : Int)) (k : am_At l D dA y d mc ms rc rs n0 X Qa cells slots tgt L S h) : am_At l D dA y d mc ms rc rs n0 X Qa cells slots q L (.inl x :: S) h := by
  subst hq
  intro p e s m args below meth c A b ad0 Q hC hR ad ws H locs ls st hS hl hst
  obtain ⟨c1, st, rfl, e1, hst⟩ := am_cons hst
  rw [am_cv_i e1]
  exact lv_tableIn hC.1.1 hC.1.2.1 hdg h1 h2 ho ht (k p e s m args below meth c A b ad0 Q hC hR ad ws H locs ls _ hS hl hst)
theorem am_ret {i : Instr} {r : Option am_V} (hdg : decode y.2.1 pc = .ok (i, 1)) (hq : q = pc) (hc : cells = rc) (hs : slots = rs) (hi : ∀ b ad st, S.map (am_cv b ad) = st.map some → am_rs b ad i r st) (hQ : Qa r h) : am_At l D dA y d mc ms rc rs n0 X Qa cells slots q L S h := by
  subst hq
  intro p e s m args below meth c A b ad0 Q hC hR ad ws H locs ls st hS hl hst
  subst hc
  subst hs
  exact hR _ i r h ad ws H locs ls st hdg (hi b ad st hst) hQ hS
theorem am_iret {x : Int32} (hdg : decode y.2.1 pc = .ok (.ireturn, 1)) (hq : q = pc) (hc : cells = rc) (hs : slots = rs) (hQ : Qa (some (.inl x)) h) : am_At l D dA y d mc ms rc rs n0 X Qa cells slots q L [.inl x] h :=
  am_ret hdg hq hc hs (fun b ad st hst => by obtain ⟨c1, st, rfl, e1, hst⟩ := am_cons hst; cases st with
    | nil => exact ⟨rfl, by rw [am_cv_i e1]⟩
    | cons => simp at hst) hQ
theorem am_aret {r : Option (Option Nat)} (hdg : decode y.2.1 pc = .ok (.areturn, 1)) (hq : q = pc) (hc : cells = rc) (hs : slots = rs) (hQ : Qa (some (.inr r)) h) : am_At l D dA y d mc ms rc rs n0 X Qa cells slots q L [.inr r] h :=
  am_ret hdg hq hc hs (fun b ad st hst => by obtain ⟨c1, st, rfl, e1, hst⟩ := am_cons hst; cases st with
    | nil => exact ⟨rfl, c1, e1, rfl⟩
    | cons => simp at hst) hQ
theorem am_vret (hdg : decode y.2.1 pc = .ok (.return_, 1)) (hq : q = pc) (hc : cells = rc) (hs : slots = rs) (hQ : Qa none h) : am_At l D dA y d mc ms rc rs n0 X Qa cells slots q L [] h :=
  am_ret hdg hq hc hs (fun b ad st hst => by cases st with
    | nil => exact ⟨rfl, rfl⟩
    | cons => simp at hst) hQ
end AMR
end
section
/-! ===== the abstract machine's rows: the heap ===== -/
theorem am_in {w : Cond} (k : Nat) (h : lw_tbl[k]? = some w) (hg : goodWord w = true) : w ∈ am_G := List.mem_filter.mpr ⟨List.mem_of_getElem? h, hg⟩
theorem am_inN {w : Cond} (k : Nat) (h : lw_tbl[k]? = some w) (hg : am_isN w = true) : w ∈ am_N := List.mem_filter.mpr ⟨List.mem_of_getElem? h, hg⟩
/-- a class of the tables -/
def am_cl (ci : Nat) (C : String) (T : u_T) (N : Nat) : Prop := vwCl[ci]? = some (C, T, N) ∧ (∀ w ∈ u_ws C T N, w ∈ am_G) ∧ (∃ ty0 : Nat → FieldType, ∀ k, k < N → parseFieldDescriptor (T k).2.2.1 = some (ty0 k)) ∧ (∀ a, a < N → ∀ b, b < N → a ≠ b → (T a).2.1 ≠ (T b).2.1)
/-- a place of a class' constants is a field -/
def am_fl (own : String) (idx ci k : Nat) (fin : Bool) (ty : FieldType) : Prop := ∃ (C : String) (T : u_T) (N : Nat), am_cl ci C T N ∧ k < N ∧ Cond.fieldLink own idx (T k).1 (T k).2.1 (T k).2.2.1 ∈ am_G ∧ (T k).2.2.2 = fin ∧ parseFieldDescriptor (T k).2.2.1 = some ty ∧ (T k).1 = own
def am_fn (own : String) (idx ci k : Nat) (host : String) : Prop := ∃ (C : String) (T : u_T) (N : Nat), am_cl ci C T N ∧ k < N ∧ Cond.fieldLinkNest own idx (T k).1 (T k).2.1 (T k).2.2.1 host ∈ am_N
def am_fit (ty : FieldType) (v : am_V) : Prop := ∀ (b : Nat) (ad : List Nat) (c : Value), am_cv b ad v = some c → narrow ty c = c ∧ fits ty c = true
theorem am_fit_i (x : Int32) : am_fit .int (.inl x) := fun b ad c h => by rw [am_cv_i h]; exact ⟨rfl, rfl⟩
theorem am_fit_0 : am_fit .boolean (.inl 0) := fun b ad c h => by rw [am_cv_i h]; exact ⟨rfl, rfl⟩
theorem am_fit_1 : am_fit .boolean (.inl 1) := fun b ad c h => by rw [am_cv_i h]; exact ⟨rfl, rfl⟩
theorem am_fit_o (C : String) (k : Nat) : am_fit (.object C) (am_r k) := fun b ad c h => by obtain ⟨a, -, rfl⟩ := am_cv_r h; exact ⟨rfl, rfl⟩
theorem am_fit_a (t : FieldType) (k : Nat) : am_fit (.array t) (am_r k) := fun b ad c h => by obtain ⟨a, -, rfl⟩ := am_cv_r h; exact ⟨rfl, rfl⟩
theorem am_map_app {f : am_V → Option Value} {S1 S2 : List am_V} {st : List Value} (h : (S1 ++ S2).map f = st.map some) : ∃ st1 st2, st = st1 ++ st2 ∧ S1.map f = st1.map some ∧ S2.map f = st2.map some := by
  refine ⟨st.take S1.length, st.drop S1.length, (List.take_append_drop _ _).symm, ?_, ?_⟩
  · rw [List.map_take, ← h, ← List.map_take, List.take_left]
  · rw [List.map_drop, ← h, ← List.map_drop, List.drop_left]
theorem am_sum1 {b : Nat} {ad : List Nat} : ∀ {S : List am_V} {st : List Value}, S.map (am_cv b ad) = st.map some → (st.map fun v => v.category).sum = S.length
  | [], [], _ => rfl
  | [], _ :: _, e => by simp at e
  | _ :: _, [], e => by simp at e
  | v :: S, c :: st, e => by
    simp only [List.map_cons, List.cons.injEq] at e
    simp only [List.map_cons, List.sum_cons, List.length_cons, am_cv_cat e.1, am_sum1 e.2]
    omega
section AMH
variable {l : Launch} {D : va_G} {dA : Bool → ClassId} {y : am_Y} {d mc ms rc rs n0 : Nat} {X : Option (Nat × (Nat → Int32))} {Qa : Option am_V → am_H → Prop} {cells slots pc q : Nat} {L : List (Option am_V)} {S : List am_V} {h : am_H}
theorem am_get {idx ci k r : Nat} {fin : Bool} {ty : FieldType} {fs : List am_V} {v : am_V} (F : am_fl y.1.cls idx ci k fin ty) (hdg : decode y.2.1 pc = .ok (.getfield idx, 3)) (hq : q = pc) (hc : h r = some (.inr (ci, fs))) (hv : fs[k]? = some v) (kk : am_At l D dA y d mc ms rc rs n0 X Qa cells slots (pc + 3) L (v :: S) h) : am_At l D dA y d mc ms rc rs n0 X Qa cells slots q L (am_r r :: S) h := by
  subst hq
  intro p e s m args below meth c A b ad0 Q hC hR ad ws H locs ls st hS hl hst
  obtain ⟨c1, st, rfl, er, hst2⟩ := am_cons hst
  obtain ⟨a, ha, hca⟩ := am_cv_r er
  subst hca
  obtain ⟨C, T, N, ⟨hcl, hin, -, -⟩, hk, hw, -⟩ := F
  obtain ⟨hw1, hP, hD, hS1, hpre, hlen⟩ := id hS
  obtain ⟨cs, g1, g2⟩ := hw1.obj ha hc
  obtain ⟨cv, g3, g4⟩ := am_at_map g1 hv
  exact va_get hC.1.1 hC.1.2.1 hC.2.2.1 hin hC.1.2.2.2 hC.2.2.2.2.1 hP r g2 hcl k hk (hC.2.2.1 _ hw) (fun _ h9 => h9) g3 hdg (kk p e s m args below meth c A b ad0 Q hC hR ad ws H locs ls _ hS hl (by simp only [List.map_cons, hst2, g4]))
theorem am_getN {idx ci k r : Nat} {host : String} {fs : List am_V} {v : am_V} (F : am_fn y.1.cls idx ci k host) (hdg : decode y.2.1 pc = .ok (.getfield idx, 3)) (hq : q = pc) (hc : h r = some (.inr (ci, fs))) (hv : fs[k]? = some v) (kk : am_At l D dA y d mc ms rc rs n0 X Qa cells slots (pc + 3) L (v :: S) h) : am_At l D dA y d mc ms rc rs n0 X Qa cells slots q L (am_r r :: S) h := by
  subst hq
  intro p e s m args below meth c A b ad0 Q hC hR ad ws H locs ls st hS hl hst
  obtain ⟨c1, st, rfl, er, hst2⟩ := am_cons hst
  obtain ⟨a, ha, hca⟩ := am_cv_r er
  subst hca
  obtain ⟨C, T, N, ⟨hcl, hin, -, -⟩, hk, hw⟩ := F
  obtain ⟨hw1, hP, hD, hS1, hpre, hlen⟩ := id hS
  obtain ⟨cs, g1, g2⟩ := hw1.obj ha hc
  obtain ⟨cv, g3, g4⟩ := am_at_map g1 hv
  exact va_getN hC.1.1 hC.1.2.1 hC.2.2.1 hin hC.1.2.2.2 hC.2.2.2.2.1 hP r g2 hcl k hk (va_Nw.use rfl (hC.2.2.2.1 _ hw)) (fun _ h9 => h9) g3 hdg (kk p e s m args below meth c A b ad0 Q hC hR ad ws H locs ls _ hS hl (by simp only [List.map_cons, hst2, g4]))
theorem am_put {idx ci k r : Nat} {ty : FieldType} {fs : List am_V} {v : am_V} (F : am_fl y.1.cls idx ci k false ty) (hdg : decode y.2.1 pc = .ok (.putfield idx, 3)) (hq : q = pc) (hc : h r = some (.inr (ci, fs))) (hf : am_fit ty v) (hk2 : Nat.blt k fs.length = true) (kk : am_At l D dA y d mc ms rc rs n0 X Qa cells slots (pc + 3) L S (am_set h r (.inr (ci, fs.set k v)))) : am_At l D dA y d mc ms rc rs n0 X Qa cells slots q L (v :: am_r r :: S) h := by
  subst hq
  intro p e s m args below meth c A b ad0 Q hC hR ad ws H locs ls st hS hl hst
  obtain ⟨cv, st, rfl, ev, hst1⟩ := am_cons hst
  obtain ⟨c1, st, rfl, er, hst2⟩ := am_cons hst1
  obtain ⟨a, ha, hca⟩ := am_cv_r er
  subst hca
  obtain ⟨C, T, N, ⟨hcl, hin, ⟨ty0, hty⟩, hnm⟩, hk, hw, hfin, hpd, -⟩ := F
  obtain ⟨hw1, hP, hD, hS1, hpre, hlen⟩ := id hS
  obtain ⟨cs, g1, g2⟩ := hw1.obj ha hc
  obtain ⟨hf1, hf2⟩ := hf b ad cv ev
  exact va_put hC.1.1 hC.1.2.1 hC.2.2.1 hin ty0 hty hnm hC.1.2.2.2 hC.2.2.2.2.1 hP hD hS1 r g2 hcl k hk (hC.2.2.1 _ hw) (fun _ h9 => h9) hfin hpd hf1 hf2 (by rw [am_len g1]; exact Nat.blt_eq.mp hk2) hdg (fun H1 locs1 hP1 hD1 hS2 => kk p e s m args below meth c A b ad0 Q hC hR ad _ H1 locs1 ls _ ⟨hw1.set g2 ⟨_, am_set_map g1 ev, rfl⟩, hP1, hD1, hS2, hpre, hlen⟩ hl hst2)
theorem am_putF {idx ci k r : Nat} {ty : FieldType} {fs : List am_V} {v : am_V} (F : am_fl y.1.cls idx ci k true ty) (hi : y.1.name = "<init>") (hdg : decode y.2.1 pc = .ok (.putfield idx, 3)) (hq : q = pc) (hc : h r = some (.inr (ci, fs))) (hf : am_fit ty v) (hk2 : Nat.blt k fs.length = true) (kk : am_At l D dA y d mc ms rc rs n0 X Qa cells slots (pc + 3) L S (am_set h r (.inr (ci, fs.set k v)))) : am_At l D dA y d mc ms rc rs n0 X Qa cells slots q L (v :: am_r r :: S) h := by
  subst hq
  intro p e s m args below meth c A b ad0 Q hC hR ad ws H locs ls st hS hl hst
  obtain ⟨cv, st, rfl, ev, hst1⟩ := am_cons hst
  obtain ⟨c1, st, rfl, er, hst2⟩ := am_cons hst1
  obtain ⟨a, ha, hca⟩ := am_cv_r er
  subst hca
  obtain ⟨C, T, N, ⟨hcl, hin, ⟨ty0, hty⟩, hnm⟩, hk, hw, hfin, hpd, hdcl⟩ := F
  obtain ⟨hw1, hP, hD, hS1, hpre, hlen⟩ := id hS
  obtain ⟨cs, g1, g2⟩ := hw1.obj ha hc
  obtain ⟨hf1, hf2⟩ := hf b ad cv ev
  exact va_putF hC.1.1 hC.1.2.1 hC.2.2.1 hin ty0 hty hnm hC.1.2.2.2 hC.2.2.2.2.1 hP hD hS1 r g2 hcl k hk (hC.2.2.1 _ hw) (fun _ h9 => h9) hfin (hC.2.1.2.1.trans hi) hdcl hpd hf1 hf2 (by rw [am_len g1]; exact Nat.blt_eq.mp hk2) hdg (fun H1 locs1 hP1 hD1 hS2 => kk p e s m args below meth c A b ad0 Q hC hR ad _ H1 locs1 ls _ ⟨hw1.set g2 ⟨_, am_set_map g1 ev, rfl⟩, hP1, hD1, hS2, hpre, hlen⟩ hl hst2)
theorem am_iald {k r n : Nat} {f : Nat → Int32} (hdg : decode y.2.1 pc = .ok (.iaload, 1)) (hq : q = pc) (hc : h r = some (.inl (false, n, f))) (hk : k < n) (hn : n < 2 ^ 31) (kk : am_At l D dA y d mc ms rc rs n0 X Qa cells slots (pc + 1) L (.inl (f k) :: S) h) : am_At l D dA y d mc ms rc rs n0 X Qa cells slots q L (.inl (nI k) :: am_r r :: S) h := by
  subst hq
  intro p e s m args below meth c A b ad0 Q hC hR ad ws H locs ls st hS hl hst
  obtain ⟨ci, st, rfl, ei, hst1⟩ := am_cons hst
  obtain ⟨c1, st, rfl, er, hst2⟩ := am_cons hst1
  obtain ⟨a, ha, hca⟩ := am_cv_r er
  subst hca
  obtain ⟨hw1, hP, hD, hS1, hpre, hlen⟩ := id hS
  have g2 := hw1.arr ha hc
  rw [am_cv_i ei]
  refine va_iald hC.1.1 hC.1.2.1 hC.2.2.2.2.1 hP r 0 g2 rfl (vp_in_nI hk hn) hdg (kk p e s m args below meth c A b ad0 Q hC hR ad ws H locs ls _ hS hl ?_)
  rw [nI_clamp (by omega)]
  simp only [List.map_cons, hst2]
  rfl
theorem am_zald {k r n : Nat} {f : Nat → Int32} (hdg : decode y.2.1 pc = .ok (.baload, 1)) (hq : q = pc) (hc : h r = some (.inl (true, n, f))) (hk : k < n) (hn : n < 2 ^ 31) (kk : am_At l D dA y d mc ms rc rs n0 X Qa cells slots (pc + 1) L (.inl (f k) :: S) h) : am_At l D dA y d mc ms rc rs n0 X Qa cells slots q L (.inl (nI k) :: am_r r :: S) h := by
  subst hq
  intro p e s m args below meth c A b ad0 Q hC hR ad ws H locs ls st hS hl hst
  obtain ⟨ci, st, rfl, ei, hst1⟩ := am_cons hst
  obtain ⟨c1, st, rfl, er, hst2⟩ := am_cons hst1
  obtain ⟨a, ha, hca⟩ := am_cv_r er
  subst hca
  obtain ⟨hw1, hP, hD, hS1, hpre, hlen⟩ := id hS
  have g2 := hw1.arr ha hc
  rw [am_cv_i ei]
  refine va_zald hC.1.1 hC.1.2.1 hC.2.2.2.2.1 hP r 1 g2 rfl (vp_in_nI hk hn) hdg (kk p e s m args below meth c A b ad0 Q hC hR ad ws H locs ls _ hS hl ?_)
  rw [nI_clamp (by omega)]
  simp only [List.map_cons, hst2]
  rfl
theorem am_iast {k r n : Nat} {x : Int32} {f : Nat → Int32} (hdg : decode y.2.1 pc = .ok (.iastore, 1)) (hq : q = pc) (hc : h r = some (.inl (false, n, f))) (hk : k < n) (hn : n < 2 ^ 31) (kk : am_At l D dA y d mc ms rc rs n0 X Qa cells slots (pc + 1) L S (am_set h r (.inl (false, n, upd f k x)))) : am_At l D dA y d mc ms rc rs n0 X Qa cells slots q L (.inl x :: .inl (nI k) :: am_r r :: S) h := by
  subst hq
  intro p e s m args below meth c A b ad0 Q hC hR ad ws H locs ls st hS hl hst
  obtain ⟨cx, st, rfl, ex, hst0⟩ := am_cons hst
  obtain ⟨ci, st, rfl, ei, hst1⟩ := am_cons hst0
  obtain ⟨c1, st, rfl, er, hst2⟩ := am_cons hst1
  obtain ⟨a, ha, hca⟩ := am_cv_r er
  subst hca
  obtain ⟨hw1, hP, hD, hS1, hpre, hlen⟩ := id hS
  have g2 := hw1.arr ha hc
  rw [am_cv_i ei, am_cv_i ex]
  refine va_iast hC.1.1 hC.1.2.1 hC.2.2.2.2.1 hP hD hS1 r 0 g2 rfl (vp_in_nI hk hn) hdg (fun H1 locs1 hP1 hD1 hS2 => kk p e s m args below meth c A b ad0 Q hC hR ad _ H1 locs1 ls _ ⟨hw1.set g2 ?_, hP1, hD1, hS2, hpre, hlen⟩ hl hst2)
  rw [nI_clamp (by omega)]
  rfl
theorem am_zast {k r n : Nat} {x : Int32} {f : Nat → Int32} (hdg : decode y.2.1 pc = .ok (.bastore, 1)) (hq : q = pc) (hc : h r = some (.inl (true, n, f))) (hk : k < n) (hn : n < 2 ^ 31) (kk : am_At l D dA y d mc ms rc rs n0 X Qa cells slots (pc + 1) L S (am_set h r (.inl (true, n, upd f k (vp_nar .boolean x))))) : am_At l D dA y d mc ms rc rs n0 X Qa cells slots q L (.inl x :: .inl (nI k) :: am_r r :: S) h := by
  subst hq
  intro p e s m args below meth c A b ad0 Q hC hR ad ws H locs ls st hS hl hst
  obtain ⟨cx, st, rfl, ex, hst0⟩ := am_cons hst
  obtain ⟨ci, st, rfl, ei, hst1⟩ := am_cons hst0
  obtain ⟨c1, st, rfl, er, hst2⟩ := am_cons hst1
  obtain ⟨a, ha, hca⟩ := am_cv_r er
  subst hca
  obtain ⟨hw1, hP, hD, hS1, hpre, hlen⟩ := id hS
  have g2 := hw1.arr ha hc
  rw [am_cv_i ei, am_cv_i ex]
  refine va_zast hC.1.1 hC.1.2.1 hC.2.2.2.2.1 hP hD hS1 r 1 g2 rfl (vp_in_nI hk hn) hdg (fun H1 locs1 hP1 hD1 hS2 => kk p e s m args below meth c A b ad0 Q hC hR ad _ H1 locs1 ls _ ⟨hw1.set g2 ?_, hP1, hD1, hS2, hpre, hlen⟩ hl hst2)
  rw [nI_clamp (by omega)]
  rfl
theorem am_alen {r n : Nat} {z : Bool} {f : Nat → Int32} (hdg : decode y.2.1 pc = .ok (.arraylength, 1)) (hq : q = pc) (hc : h r = some (.inl (z, n, f))) (kk : am_At l D dA y d mc ms rc rs n0 X Qa cells slots (pc + 1) L (.inl (nI n) :: S) h) : am_At l D dA y d mc ms rc rs n0 X Qa cells slots q L (am_r r :: S) h := by
  subst hq
  intro p e s m args below meth c A b ad0 Q hC hR ad ws H locs ls st hS hl hst
  obtain ⟨c1, st, rfl, er, hst2⟩ := am_cons hst
  obtain ⟨a, ha, hca⟩ := am_cv_r er
  subst hca
  obtain ⟨hw1, hP, hD, hS1, hpre, hlen⟩ := id hS
  have g2 := hw1.arr ha hc
  have hk := kk p e s m args below meth c A b ad0 Q hC hR ad ws H locs ls (.int (nI n) :: st) hS hl (by simp only [List.map_cons, hst2]; rfl)
  cases z with
  | false => exact va_alen (v := nI n) hC.1.1 hC.1.2.1 hC.2.2.2.2.1 hP r 0 g2 rfl rfl hdg hk
  | true => exact va_alen (v := nI n) hC.1.1 hC.1.2.1 hC.2.2.2.2.1 hP r 1 g2 rfl rfl hdg hk
theorem am_sld {k n : Nat} {f : Nat → Int32} (hdg : decode y.2.1 pc = .ok (.iaload, 1)) (hq : q = pc) (hX : X = some (n, f)) (hk : k < n) (hn : n < 2 ^ 31) (kk : am_At l D dA y d mc ms rc rs n0 X Qa cells slots (pc + 1) L (.inl (f k) :: S) h) : am_At l D dA y d mc ms rc rs n0 X Qa cells slots q L (.inl (nI k) :: .inr (some none) :: S) h := by
  subst hq
  intro p e s m args below meth c A b ad0 Q hC hR ad ws H locs ls st hS hl hst
  obtain ⟨ci, st, rfl, ei, hst1⟩ := am_cons hst
  obtain ⟨c1, st, rfl, er, hst2⟩ := am_cons hst1
  obtain ⟨hw1, hP, hD, hS1, hpre, hlen⟩ := id hS
  have er : some (Value.ref b) = some c1 := er
  cases er
  rw [am_cv_i ei]
  obtain ⟨x1, x2, x3⟩ := hC.2.2.2.2.2.2 _ hX
  refine va_sld hC.1.1 hC.1.2.1 x1 x2 x3 hS1 (vp_in_nI hk hn) hdg (kk p e s m args below meth c A b ad0 Q hC hR ad ws H locs ls _ hS hl ?_)
  rw [nI_clamp (by omega)]
  simp only [List.map_cons, hst2]
  rfl
theorem am_slen {n : Nat} {f : Nat → Int32} (hdg : decode y.2.1 pc = .ok (.arraylength, 1)) (hq : q = pc) (hX : X = some (n, f)) (kk : am_At l D dA y d mc ms rc rs n0 X Qa cells slots (pc + 1) L (.inl (nI n) :: S) h) : am_At l D dA y d mc ms rc rs n0 X Qa cells slots q L (.inr (some none) :: S) h := by
  subst hq
  intro p e s m args below meth c A b ad0 Q hC hR ad ws H locs ls st hS hl hst
  obtain ⟨c1, st, rfl, er, hst2⟩ := am_cons hst
  obtain ⟨hw1, hP, hD, hS1, hpre, hlen⟩ := id hS
  have er : some (Value.ref b) = some c1 := er
  cases er
  obtain ⟨x1, x2, x3⟩ := hC.2.2.2.2.2.2 _ hX
  exact va_slen hC.1.1 hC.1.2.1 x1 x2 x3 hS1 hdg (kk p e s m args below meth c A b ad0 Q hC hR ad ws H locs ls _ hS hl (by simp only [List.map_cons, hst2]; rfl))
theorem am_new {idx ci N : Nat} {C : String} {T : u_T} {fs : List am_V} {cs : List Value} (hcl : am_cl ci C T N) (hl1 : Cond.classLink y.1.cls idx C ∈ am_G) (hl2 : Cond.instantiable C N ∈ am_G) (hl3 : Cond.initialized C ∈ am_G) (ty : Nat → FieldType) (hty : ∀ k, k < N → parseFieldDescriptor (T k).2.2.1 = some (ty k)) (hfs : ∀ j, j < N → defaultValue (ty j) = vp_V cs j) (hcs : ∀ b ad, fs.map (am_cv b ad) = cs.map some) (hdg : decode y.2.1 pc = .ok (.new idx, 3)) (hq : q = pc) (hm1 : cells + 1 ≤ mc) (hm2 : slots + N ≤ ms) (kk : am_At l D dA y d mc ms rc rs n0 X Qa (cells + 1) (slots + N) (pc + 3) L (am_r (n0 + cells) :: S) (am_set h (n0 + cells) (.inr (ci, fs)))) : am_At l D dA y d mc ms rc rs n0 X Qa cells slots q L S h := by
  subst hq
  intro p e s m args below meth c A b ad0 Q hC hR ad ws H locs ls st hS hl hst
  obtain ⟨hw1, hP, hD, hS1, hpre, hlen⟩ := id hS
  obtain ⟨hcl1, hin, -, -⟩ := hcl
  refine va_new hC.1.1 hC.1.2.1 hC.2.2.1 hin ty hty hC.1.2.2.2 (hC.2.2.1 _ hl1) (hC.2.2.1 _ hl2) (hC.2.2.1 _ hl3) hC.2.2.2.2.1 hP hD hS1 hC.2.2.2.2.2.1 hcl1 hfs hm1 hm2 hdg (fun qa H1 hP1 hD1 hS2 => kk p e s m args below meth c A b ad0 Q hC hR (ad ++ [qa]) _ H1 locs ls _ ⟨hw1.push hlen ⟨cs, hcs _ _, rfl⟩, hP1, hD1, hS2, hpre.trans (List.prefix_append _ _), by rw [List.length_append, hlen]; rfl⟩ (hl.pre (List.prefix_append _ _)) ?_)
  have e1 : am_cv b (ad ++ [qa]) (am_r (n0 + cells)) = some (.ref qa) := by
    show ((ad ++ [qa])[n0 + cells]?).map Value.ref = _
    rw [← hlen, List.getElem?_append_right (Nat.le_refl _), Nat.sub_self]
    rfl
  simp only [List.map_cons, e1, am_map_pre (List.prefix_append ad [qa]) hst]
theorem am_newai {N : Nat} (hw : Cond.arrayClass .int ∈ am_G) (hN : N < 2 ^ 24) (hdg : decode y.2.1 pc = .ok (.newarray .int, 2)) (hq : q = pc) (hm1 : cells + 1 ≤ mc) (hm2 : slots + N ≤ ms) (kk : am_At l D dA y d mc ms rc rs n0 X Qa (cells + 1) (slots + N) (pc + 2) L (am_r (n0 + cells) :: S) (am_set h (n0 + cells) (.inl (false, N, fun _ => 0)))) : am_At l D dA y d mc ms rc rs n0 X Qa cells slots q L (.inl (nI N) :: S) h := by
  subst hq
  intro p e s m args below meth c A b ad0 Q hC hR ad ws H locs ls st hS hl hst
  obtain ⟨ci, st, rfl, ei, hst1⟩ := am_cons hst
  obtain ⟨hw1, hP, hD, hS1, hpre, hlen⟩ := id hS
  rw [am_cv_i ei]
  refine va_newa (atype := .int) (ty := .int) (a0 := (N, .inl fun _ => 0)) hC.1.1 hC.1.2.1 (hC.2.2.1 _ hw) rfl hC.2.2.2.2.1 hP hD hS1 hC.2.2.2.2.2.1 (fun cA => rfl) (nI_pos (by omega)) (nI_clamp (by omega)) (Nat.le_trans (Nat.mul_le_mul_left N (show componentBytes .int ≤ 8 by decide)) (by omega)) hm1 hm2 hdg (fun qa cA H1 hK1 hP1 hD1 hS2 => ?_)
  have hcA : cA = dA false := by
    have r1 : s.vm.findClass _ = some cA := (hK1.2 2 (cA, .int) rfl).2
    have r2 : s.vm.findClass _ = some (dA false) := (hC.2.2.2.2.1.2 0 (dA false, .int) rfl).2
    exact Option.some.inj (r1.symm.trans r2)
  subst hcA
  refine kk p e s m args below meth c A b ad0 Q hC hR (ad ++ [qa]) _ H1 locs ls _ ⟨hw1.push hlen rfl, hP1, hD1, hS2, hpre.trans (List.prefix_append _ _), by rw [List.length_append, hlen]; rfl⟩ (hl.pre (List.prefix_append _ _)) ?_
  have e1 : am_cv b (ad ++ [qa]) (am_r (n0 + cells)) = some (.ref qa) := by
    show ((ad ++ [qa])[n0 + cells]?).map Value.ref = _
    rw [← hlen, List.getElem?_append_right (Nat.le_refl _), Nat.sub_self]
    rfl
  simp only [List.map_cons, e1, am_map_pre (List.prefix_append ad [qa]) hst1]
theorem am_newaz {N : Nat} (hw : Cond.arrayClass .boolean ∈ am_G) (hN : N < 2 ^ 24) (hdg : decode y.2.1 pc = .ok (.newarray .boolean, 2)) (hq : q = pc) (hm1 : cells + 1 ≤ mc) (hm2 : slots + N ≤ ms) (kk : am_At l D dA y d mc ms rc rs n0 X Qa (cells + 1) (slots + N) (pc + 2) L (am_r (n0 + cells) :: S) (am_set h (n0 + cells) (.inl (true, N, fun _ => 0)))) : am_At l D dA y d mc ms rc rs n0 X Qa cells slots q L (.inl (nI N) :: S) h := by
  subst hq
  intro p e s m args below meth c A b ad0 Q hC hR ad ws H locs ls st hS hl hst
  obtain ⟨ci, st, rfl, ei, hst1⟩ := am_cons hst
  obtain ⟨hw1, hP, hD, hS1, hpre, hlen⟩ := id hS
  rw [am_cv_i ei]
  refine va_newa (atype := .boolean) (ty := .boolean) (a0 := (N, .inl fun _ => 0)) hC.1.1 hC.1.2.1 (hC.2.2.1 _ hw) rfl hC.2.2.2.2.1 hP hD hS1 hC.2.2.2.2.2.1 (fun cA => rfl) (nI_pos (by omega)) (nI_clamp (by omega)) (Nat.le_trans (Nat.mul_le_mul_left N (show componentBytes .boolean ≤ 8 by decide)) (by omega)) hm1 hm2 hdg (fun qa cA H1 hK1 hP1 hD1 hS2 => ?_)
  have hcA : cA = dA true := by
    have r1 : s.vm.findClass _ = some cA := (hK1.2 2 (cA, .boolean) rfl).2
    have r2 : s.vm.findClass _ = some (dA true) := (hC.2.2.2.2.1.2 1 (dA true, .boolean) rfl).2
    exact Option.some.inj (r1.symm.trans r2)
  subst hcA
  refine kk p e s m args below meth c A b ad0 Q hC hR (ad ++ [qa]) _ H1 locs ls _ ⟨hw1.push hlen rfl, hP1, hD1, hS2, hpre.trans (List.prefix_append _ _), by rw [List.length_append, hlen]; rfl⟩ (hl.pre (List.prefix_append _ _)) ?_
  have e1 : am_cv b (ad ++ [qa]) (am_r (n0 + cells)) = some (.ref qa) := by
    show ((ad ++ [qa])[n0 + cells]?).map Value.ref = _
    rw [← hlen, List.getElem?_append_right (Nat.le_refl _), Nat.sub_self]
    rfl
  simp only [List.map_cons, e1, am_map_pre (List.prefix_append ad [qa]) hst1]
end AMH
end
section
/-! ===== the abstract machine's calls: a contract, how it is proved, how it is used ===== -/
/-- a method's contract: from any machine state that holds this abstract heap it ends, with an answer and a heap as Qa says -/
def am_Qc (D : va_G) (dA : Bool → ClassId) (b mc n0 : Nat) (ad : List Nat) (ws : va_W) (sz : Nat) (Qa : Option am_V → am_H → Prop) : Array Value → State → Outcome → State → Prop := fun _ st oc t =>
  (∃ (r : Option am_V) (h' : am_H) (rv : Option Value) (ad' : List Nat) (ws' : va_W), oc = .returned rv ∧ Qa r h' ∧ r.map (am_cv b ad') = rv.map some ∧ am_w dA b ad' h' ws' ∧ ad <+: ad' ∧ ad'.length = n0 + mc ∧ va_P D vwCl ws' t.heap ∧ va_D (va_A ws sz) ws') ∧ va_F (va_A ws sz) st t
def am_B (D : va_G) (dA : Bool → ClassId) (ws : va_W) (sz : Nat) (U : State) : Prop := U.heap.size = sz ∧ va_P D vwCl ws U.heap ∧ va_K D vwCl (am_tys dA) U ∧ (∀ w ∈ am_N, va_Nw w U) ∧ va_D (fun _ => True) ws
def am_Ct (l : Launch) (D : va_G) (dA : Bool → ClassId) (y : am_Y) (d mc ms n0 : Nat) (av : List am_V) (h : am_H) (Qa : Option am_V → am_H → Prop) : Prop :=
  ∀ (b : Nat) (ad : List Nat) (ws : va_W) (vs : List Value) (sz : Nat), am_w dA b ad h ws → ad.length = n0 → av.map (am_cv b ad) = vs.map some → Met l y.1 (am_ws y) (am_R d mc ms) (va_Pc vs (am_B D dA ws sz)) (am_Qc D dA b mc n0 ad ws sz Qa) mc ms (va_A ws sz)
def am_rok (ret : Option FieldType) (r : Option am_V) : Prop := match r with
  | none => ret = none
  | some (.inl x) => ∃ ty, ret = some ty ∧ narrow ty (.int x) = .int x
  | some (.inr _) => ∃ C, ret = some (.object C)
theorem am_sl : ∀ (vs : List Value), (∀ v ∈ vs, v.category = 1) → (lg_sl vs).length = vs.length
  | [], _ => rfl
  | v :: vs, h => by
    have h1 : v.category = 1 := h v List.mem_cons_self
    have h2 := am_sl vs (fun w hw => h w (List.mem_cons_of_mem _ hw))
    unfold lg_sl at h2 ⊢
    rw [List.flatMap_cons, List.length_append, h2, h1]
    simp
    omega
theorem am_args : ∀ (vs : List Value) (k i : Nat) (c : Value), (∀ v ∈ vs, v.category = 1) → vs[i]? = some c → (k + i, c) ∈ lv_args k vs
  | [], _, _, _, _, h => by simp at h
  | v :: vs, k, 0, c, hc, h => by
    have h : some v = some c := by simpa using h
    cases h
    exact List.mem_cons_self
  | v :: vs, k, i + 1, c, hc, h => by
    have h : vs[i]? = some c := by simpa using h
    have h1 : v.category = 1 := hc v List.mem_cons_self
    have h2 := am_args vs (k + 1) i c (fun w hw => hc w (List.mem_cons_of_mem _ hw)) h
    have h3 : lv_args k (v :: vs) = (k, v) :: lv_args (if v.category = 2 then k + 2 else k + 1) vs := rfl
    rw [h3, h1, if_neg (by decide), show k + (i + 1) = k + 1 + i by omega]
    exact List.mem_cons_of_mem _ h2
theorem am_cats {b : Nat} {ad : List Nat} {av : List am_V} {vs : List Value} (h : av.map (am_cv b ad) = vs.map some) : ∀ v ∈ vs, v.category = 1 := by
  intro v hv
  have h1 : some v ∈ vs.map some := List.mem_map.mpr ⟨v, hv, rfl⟩
  rw [← h] at h1
  obtain ⟨w, -, h2⟩ := List.mem_map.mp h1
  exact am_cv_cat h2
/-- the locals at a method's start -/
abbrev am_ent (n : Nat) (av : List am_V) : List (Option am_V) := av.map some ++ List.replicate (n - av.length) none
set_option maxHeartbeats 4000000 in
theorem am_Ct.of {l : Launch} {D : va_G} {dA : Bool → ClassId} {y : am_Y} {d mc ms n0 : Nat} {av : List am_V} {h : am_H} {Qa : Option am_V → am_H → Prop} (hy : plainName y.1.cls = true) (hr : ∀ r h', Qa r h' → am_rok y.2.2.2 r) (hn : av.length ≤ y.2.2.1)
    (body : am_At l D dA y d mc ms mc ms n0 none Qa 0 0 0 (am_ent y.2.2.1 av) [] h) : am_Ct l D dA y d mc ms n0 av h Qa := by
  intro b ad ws vs sz hw hlen hv
  refine Met.ofW (cc := y.2.1) (maxL := y.2.2.1) (ret := y.2.2.2) hy rfl ?_
  intro p e s m args below meth c s₁ B hml hPc
  obtain ⟨rfl, hsz, hP, hK, hN, hD0⟩ := hPc
  have hts := atoms_spec (ws := am_ws y) B.pre
  have hown : s.vm.findClass y.1.cls = some m.cls := findClass_of_methodNamed B.named
  have hin : meth.name = y.1.name := (name_of_methodNamed B.named B.method).1
  subst hsz
  have hD := hD0.self (sz := s.heap.size)
  have hS : va_S (va_A ws s.heap.size) s.heap s.heap [] := va_S.rf
  have hcat := am_cats hv
  have hvl : vs.length = av.length := am_len hv
  have hl := lv_entry vs (n := y.2.2.1) (by rw [am_sl vs hcat, hvl]; exact hn)
  rw [lg_entry_eq]
  have hCx : am_Cx D dA y none p s m vs.toArray meth c (va_A ws s.heap.size) b := ⟨⟨B.exec, B.bytes, hml, hown⟩, ⟨B.returns, hin, B.notSynchronized⟩, fun w hw => hts w (List.mem_cons_of_mem _ hw), hN, hK, fun q h => Or.inr h, fun x hx => by cases hx⟩
  refine body p e s m _ below meth c (va_A ws s.heap.size) b ad _ hCx ?_ ad ws s.heap [] _ [] ⟨hw, hP, hD, hS, List.prefix_rfl, hlen⟩ ⟨?_, _, hl, ?_⟩ rfl
  · intro pc i r h' ad' ws' H' locs' ls' st' hdg hrs hq hst
    obtain ⟨hw', hP', hD', hS', hpre', hlen'⟩ := hst
    have hro := hr r h' hq
    have hq2 : ∀ (rv : Option Value), r.map (am_cv b ad') = rv.map some → ∀ t : State, t.heap = H' → s.WarmedH t.vm → am_Qc D dA b mc n0 ad ws s.heap.size Qa vs.toArray s (.returned rv) t := fun rv hrv t ht hW => ⟨⟨r, h', rv, ad', ws', rfl, hq, hrv, hw', hpre', hlen', by rw [ht]; exact hP', hD'⟩, hS'.F ht⟩
    match r, hrs, hro, hq2 with
    | none, hrs, hro, hq2 =>
      obtain ⟨rfl, rfl⟩ := hrs
      exact W.vret B.exec B.bytes (B.returns.trans hro) (hq2 none rfl) hS'.2.2 hdg B.notSynchronized
    | some (.inl x), hrs, hro, hq2 =>
      obtain ⟨rfl, rfl⟩ := hrs
      obtain ⟨ty, h1, h2⟩ := hro
      exact W.zret B.exec B.bytes (B.returns.trans h1) h2 (hq2 (some (.int x)) rfl) hS'.2.2 hdg B.notSynchronized
    | some (.inr q), hrs, hro, hq2 =>
      obtain ⟨rfl, cv, h1, rfl⟩ := hrs
      obtain ⟨C, h2⟩ := hro
      exact W.aret B.exec B.bytes (B.returns.trans h2) (Or.inl ⟨C, rfl⟩) (am_cv_ref h1) (hq2 (some cv) (by simp only [Option.map_some, h1])) hS'.2.2 hdg B.notSynchronized
  · rw [List.length_append, List.length_map, List.length_replicate]
    omega
  · intro i v hi
    have hi1 : i < av.length := by
      rcases Nat.lt_or_ge i av.length with g | g
      · exact g
      · rw [List.getElem?_append_right (by rw [List.length_map]; exact g), List.getElem?_replicate] at hi
        split at hi <;> cases hi
    rw [List.getElem?_append_left (by rw [List.length_map]; exact hi1), List.getElem?_map] at hi
    cases hav : av[i]? with
    | none => rw [hav] at hi; cases hi
    | some w =>
      rw [hav] at hi
      cases hi
      obtain ⟨cv, h1, h2⟩ := am_at_map hv hav
      refine ⟨cv, h2, ?_⟩
      have h3 := am_args vs 0 i cv hcat h1
      rwa [Nat.zero_add] at h3
/-- a weaker end -/
theorem am_Ct.mono {l : Launch} {D : va_G} {dA : Bool → ClassId} {y : am_Y} {d mc ms n0 : Nat} {av : List am_V} {h : am_H} {Qa Qb : Option am_V → am_H → Prop} (hc : am_Ct l D dA y d mc ms n0 av h Qa) (hq : ∀ r h', Qa r h' → Qb r h') : am_Ct l D dA y d mc ms n0 av h Qb := by
  intro b ad ws vs sz hw hlen hv
  have h1 := hc b ad ws vs sz hw hlen hv
  intro p e ha hcas hk s m args below hf happ hP hK
  obtain ⟨t, o, h2, h3, h4, ⟨⟨r, h', rv, ad', ws', g1, g2, g3⟩, g4⟩, h6⟩ := h1 p e ha hcas hk s m args below hf happ hP hK
  exact ⟨t, o, h2, h3, h4, ⟨⟨r, h', rv, ad', ws', g1, hq _ _ g2, g3⟩, g4⟩, h6⟩
/-- what the tables say of a method that is called -/
def am_my (y : am_Y) (n : Nat) : Prop := Cond.code y.1 y.2.1 y.2.2.1 y.2.2.2 ∈ am_G ∧ Cond.initialized y.1.cls ∈ am_G ∧ (y.1.cls ≠ "java/lang/invoke/MethodHandle" ∧ y.1.cls ≠ "java/lang/invoke/VarHandle" ∧ (parseMethodDescriptor y.1.desc).map (fun d => d.parameters.length) = some n) ∧ y.2.2.1 ≤ 18
def am_mv (y : am_Y) (n ci : Nat) : Prop := am_my y n ∧ Cond.instanceMethod y.1 ∈ am_G ∧ Cond.selects y.1.cls y.1 y.1 ∈ am_G ∧ ∃ T N, vwCl[ci]? = some (y.1.cls, T, N)
def am_mi (y : am_Y) (n : Nat) : Prop := am_my y n ∧ Cond.instanceMethod y.1 ∈ am_G ∧ y.1.name = "<init>" ∧ y.2.2.2 = none
def am_ms (y : am_Y) (n : Nat) : Prop := am_my y n ∧ Cond.static y.1 ∈ am_G
section AMC
variable {l : Launch} {D : va_G} {dA : Bool → ClassId} {y : am_Y} {d mc ms rc rs n0 : Nat} {X : Option (Nat × (Nat → Int32))} {Qa : Option am_V → am_H → Prop} {cells slots pc q : Nat} {L : List (Option am_V)} {S : List am_V} {h : am_H}
theorem am_blind {D : va_G} {dA : Bool → ClassId} {ws : va_W} {sz : Nat} {vs : List Value} : FrameBlind (va_Pc vs (am_B D dA ws sz)) := fun a U g mk hq => by
  obtain ⟨q0, q1, qP, qK, qN, qD⟩ := hq
  exact ⟨q0, q1, qP, va_K.moved (u := U) (U := U.calling g mk a) (Vm.Alike.refl U.vm) qK, am_N_same (s := U) (U := U.calling g mk a) rfl qN, qD⟩
set_option maxHeartbeats 4000000 in
theorem am_aft {p : Program} {e : Env} {s : State} {m : MethodId} {args : Array Value} {below : List Frame} {meth : Method} {c : Code} {A : Nat → Prop} {b : Nat} {ad0 ad : List Nat} {Q : State → Prop} {ws : va_W} {H : Heap} {locs : List Loc} {ls : Array Slot} {st0 rest : List Value} {mc' ms' : Nat} {Qb : Option am_V → am_H → Prop} {a : Array Value}
    (hC : am_Cx D dA y X p s m args meth c A b) (hR : am_Rt l D dA y d mc ms rc rs n0 Qa p e s m args below meth c A b ad0 Q) (hS : am_St D dA b n0 A s ad0 cells h ad ws H locs) (hl : am_l b ad y.2.2.1 L ls) (hst : S.map (am_cv b ad) = rest.map some)
    (hr : va_Run p l e (am_R d mc ms) s m args below meth c H locs cells slots mc' ms' (F0 m pc ls st0) rest (am_Qc D dA b mc' (n0 + cells) ad ws H.size Qb a) (va_A ws H.size))
    (kk : ∀ r h', Qb r h' → am_At l D dA y d mc ms rc rs n0 X Qa (cells + mc') (slots + ms') (pc + 3) L (r.toList ++ S) h') : W p l e (am_R d mc ms) s m args below meth c H locs cells slots Q (F0 m pc ls st0) := by
  intro T hT Xs
  obtain ⟨v, st₀, t, T', Lc, h0, X', hL, e1, e2, ⟨⟨r, h', rv, ad', ws', hv, hq, hrv, hw', hpre, hln, hP', hD'⟩, hz, hk⟩, stp⟩ := hr T hT Xs
  cases hv
  rw [h0] at hz hk
  obtain ⟨hw1, hP, hD, hS1, hpre0, hlen⟩ := hS
  have hA : ∀ q, va_A ws H.size q → A q := by
    intro q hq
    rcases hq with ⟨k, e, hq⟩ | hq
    · exact hD.2 k _ hq
    · exact hC.2.2.2.2.2.1 q (Nat.le_trans hS1.1 hq)
  have hS2 : va_S A s.heap T'.heap (locs ++ Lc) := ⟨Nat.le_trans hS1.1 (by rw [e1]; exact hz), fun q h1 h2 => by rw [e1, hk q (Nat.lt_of_lt_of_le h1 hS1.1) (fun z => h2 (hA q z))]; exact hS1.2.1 q h1 h2, fun q hq => by
      rcases List.mem_append.mp hq with h | h
      · exact hS1.2.2 q h
      · exact hA _ (hL q h)⟩
  have hst2 : (r.toList ++ S).map (am_cv b ad') = (v.toList ++ rest).map some := by
    rw [List.map_append, List.map_append, am_map_pre hpre hst]
    congr 1
    cases r with
    | none => cases v with
      | none => rfl
      | some v => simp at hrv
    | some r => cases v with
      | none => simp at hrv
      | some v =>
        have hrv : some (am_cv b ad' r) = some (some v) := hrv
        simp only [Option.toList, List.map_cons, List.map_nil, Option.some.inj hrv]
  have := kk r h' hq p e s m args below meth c A b ad0 Q hC hR ad' ws' T'.heap (locs ++ Lc) ls (v.toList ++ rest) ⟨hw', by rw [e1]; exact hP', hD'.weaken (fun _ _ _ hq => hA _ hq), hS2, hpre0.trans hpre, by omega⟩ (hl.pre hpre) hst2
  obtain ⟨t2, a1, b1⟩ := this T' rfl X'
  exact ⟨t2, stp t2 a1, b1⟩
theorem am_room {d d' mL : Nat} (hd : d' + 1 ≤ d) (hm : mL ≤ 18) : 8 + (mL + 11) + (37 * d' + 3) ≤ 37 * d + 3 := by omega
set_option maxHeartbeats 4000000 in
theorem am_callV {y' : am_Y} {d' mc' ms' n r ci idx : Nat} {fs av rest : List am_V} {Qb : Option am_V → am_H → Prop} (hM : am_Ct l D dA y' d' mc' ms' (n0 + cells) (am_r r :: av) h Qb) (K : am_mv y' n ci) (hlk : Cond.methodLink y.1.cls idx y'.1 ∈ am_G) (hdg : decode y.2.1 pc = .ok (.invokevirtual idx, 3)) (hq : q = pc) (hn : av.length = n) (hst0 : S = av.reverse ++ am_r r :: rest) (hrest : rest.length ≤ 8) (hc : h r = some (.inr (ci, fs))) (hd : d' + 1 ≤ d) (hm1 : cells + mc' ≤ mc) (hm2 : slots + ms' ≤ ms)
    (kk : ∀ r h', Qb r h' → am_At l D dA y d mc ms rc rs n0 X Qa (cells + mc') (slots + ms') (pc + 3) L (r.toList ++ rest) h') : am_At l D dA y d mc ms rc rs n0 X Qa cells slots q L S h := by
  subst hq
  subst hst0
  intro p e s m args below meth c A b ad0 Q hC hR ad ws H locs ls st hS hl hst
  obtain ⟨st1, st2, rfl, hs1, hs2⟩ := am_map_app hst
  obtain ⟨c1, st3, rfl, er, hs3⟩ := am_cons hs2
  obtain ⟨a, ha, hca⟩ := am_cv_r er
  subst hca
  obtain ⟨hw1, hP, hD, hS1, hpre, hlen⟩ := id hS
  obtain ⟨cs, g1, g2⟩ := hw1.obj ha hc
  obtain ⟨⟨k1, k2, k3, k4⟩, k5, k6, T, N, k7⟩ := K
  have hav : (am_r r :: av).map (am_cv b ad) = (Value.ref a :: st1.reverse).map some := by
    rw [List.map_cons, List.map_cons, er, List.map_reverse, ← hs1, List.map_reverse, List.reverse_reverse]
  have hM' := hM b ad ws (Value.ref a :: st1.reverse) H.size hw1 hlen hav
  refine am_aft hC hR hS hl hs3 (va_runV (As := st1.reverse) (rest := st3) ⟨hC.1.1, hC.1.2.1, hC.1.2.2.1, hC.1.2.2.2, hC.2.2.1⟩ hM' ⟨callB_of n hC.2.2.1 (am_goodIn (y := y) k1) rfl rfl rfl (hC.2.2.1 _ k2) (hC.2.2.1 _ hlk) k3 ⟨hd, am_room hd k4⟩, hC.2.2.1 _ k5, hC.2.2.1 _ k6⟩ ⟨am_blind, va_recv hC.2.2.2.2.1 hP k7 g2, fun U hU hW => ⟨rfl, by rw [hU], by rw [hU]; exact hP, va_K.moved hW.alike hC.2.2.2.2.1, am_N_warm hW hC.2.2.2.1, hD.weaken (fun _ _ _ _ => trivial)⟩⟩ rfl ?_ hl.size ?_ (lv_room ?_) hdg ⟨hm1, hm2⟩) kk
  · have := am_len hs1
    rw [List.length_reverse, this, List.length_reverse]
    exact hn
  · rw [List.reverse_reverse]
  · rw [am_sum1 hs3]
    exact hrest
set_option maxHeartbeats 4000000 in
theorem am_callI {y' : am_Y} {d' mc' ms' n r idx : Nat} {av rest : List am_V} {Qb : Option am_V → am_H → Prop} (hM : am_Ct l D dA y' d' mc' ms' (n0 + cells) (am_r r :: av) h Qb) (K : am_mi y' n) (hlk : Cond.methodLink y.1.cls idx y'.1 ∈ am_G) (hdg : decode y.2.1 pc = .ok (.invokespecial idx, 3)) (hq : q = pc) (hn : av.length = n) (hst0 : S = av.reverse ++ am_r r :: rest) (hrest : rest.length ≤ 8) (hd : d' + 1 ≤ d) (hm1 : cells + mc' ≤ mc) (hm2 : slots + ms' ≤ ms)
    (kk : ∀ r h', Qb r h' → am_At l D dA y d mc ms rc rs n0 X Qa (cells + mc') (slots + ms') (pc + 3) L (r.toList ++ rest) h') : am_At l D dA y d mc ms rc rs n0 X Qa cells slots q L S h := by
  subst hq
  subst hst0
  intro p e s m args below meth c A b ad0 Q hC hR ad ws H locs ls st hS hl hst
  obtain ⟨st1, st2, rfl, hs1, hs2⟩ := am_map_app hst
  obtain ⟨c1, st3, rfl, er, hs3⟩ := am_cons hs2
  obtain ⟨a, ha, hca⟩ := am_cv_r er
  subst hca
  obtain ⟨hw1, hP, hD, hS1, hpre, hlen⟩ := id hS
  obtain ⟨⟨k1, k2, k3, k4⟩, k5, k6, k7⟩ := K
  rw [k7] at k1
  have hav : (am_r r :: av).map (am_cv b ad) = (Value.ref a :: st1.reverse).map some := by
    rw [List.map_cons, List.map_cons, er, List.map_reverse, ← hs1, List.map_reverse, List.reverse_reverse]
  have hM' := hM b ad ws (Value.ref a :: st1.reverse) H.size hw1 hlen hav
  refine am_aft hC hR hS hl hs3 (va_runI (As := st1.reverse) (rest := st3) ⟨hC.1.1, hC.1.2.1, hC.1.2.2.1, hC.1.2.2.2, hC.2.2.1⟩ hM' ⟨callB_of n hC.2.2.1 (am_goodIn (y := y) (by rw [k7]; exact k1)) (by rw [am_ws, k7]) rfl rfl (hC.2.2.1 _ k2) (hC.2.2.1 _ hlk) k3 ⟨hd, am_room hd k4⟩, k6, hC.2.2.1 _ k5⟩ ⟨am_blind, fun U hU hW => ⟨rfl, by rw [hU], by rw [hU]; exact hP, va_K.moved hW.alike hC.2.2.2.2.1, am_N_warm hW hC.2.2.2.1, hD.weaken (fun _ _ _ _ => trivial)⟩⟩ rfl ?_ hl.size ?_ (lv_room ?_) hdg ⟨hm1, hm2⟩) kk
  · have := am_len hs1
    rw [List.length_reverse, this, List.length_reverse]
    exact hn
  · rw [List.reverse_reverse]
  · rw [am_sum1 hs3]
    exact hrest
set_option maxHeartbeats 4000000 in
theorem am_callS {y' : am_Y} {d' mc' ms' n idx : Nat} {av rest : List am_V} {Qb : Option am_V → am_H → Prop} (hM : am_Ct l D dA y' d' mc' ms' (n0 + cells) av h Qb) (K : am_ms y' n) (hlk : Cond.methodLink y.1.cls idx y'.1 ∈ am_G) (hdg : decode y.2.1 pc = .ok (.invokestatic idx, 3)) (hq : q = pc) (hn : av.length = n) (hst0 : S = av.reverse ++ rest) (hrest : rest.length ≤ 8) (hd : d' + 1 ≤ d) (hm1 : cells + mc' ≤ mc) (hm2 : slots + ms' ≤ ms)
    (kk : ∀ r h', Qb r h' → am_At l D dA y d mc ms rc rs n0 X Qa (cells + mc') (slots + ms') (pc + 3) L (r.toList ++ rest) h') : am_At l D dA y d mc ms rc rs n0 X Qa cells slots q L S h := by
  subst hq
  subst hst0
  intro p e s m args below meth c A b ad0 Q hC hR ad ws H locs ls st hS hl hst
  obtain ⟨st1, st3, rfl, hs1, hs3⟩ := am_map_app hst
  obtain ⟨hw1, hP, hD, hS1, hpre, hlen⟩ := id hS
  obtain ⟨⟨k1, k2, k3, k4⟩, k5⟩ := K
  have hav : av.map (am_cv b ad) = (st1.reverse).map some := by
    rw [List.map_reverse, ← hs1, List.map_reverse, List.reverse_reverse]
  have hM' := hM b ad ws st1.reverse H.size hw1 hlen hav
  refine am_aft hC hR hS hl hs3 (va_runS (As := st1.reverse) (rest := st3) ⟨hC.1.1, hC.1.2.1, hC.1.2.2.1, hC.1.2.2.2, hC.2.2.1⟩ hM' ⟨callB_of n hC.2.2.1 (am_goodIn (y := y) k1) rfl rfl rfl (hC.2.2.1 _ k2) (hC.2.2.1 _ hlk) k3 ⟨hd, am_room hd k4⟩, hC.2.2.1 _ k5⟩ ⟨am_blind, fun U hU hW => ⟨rfl, by rw [hU], by rw [hU]; exact hP, va_K.moved hW.alike hC.2.2.2.2.1, am_N_warm hW hC.2.2.2.1, hD.weaken (fun _ _ _ _ => trivial)⟩⟩ rfl ?_ hl.size ?_ (lv_room ?_) hdg ⟨hm1, hm2⟩) kk
  · have := am_len hs1
    rw [List.length_reverse, this, List.length_reverse]
    exact hn
  · rw [List.reverse_reverse]
  · rw [am_sum1 hs3]
    exact hrest
set_option maxHeartbeats 4000000 in
theorem am_callSN {y' : am_Y} {host : String} {d' mc' ms' n idx : Nat} {av rest : List am_V} {Qb : Option am_V → am_H → Prop} (hM : am_Ct l D dA y' d' mc' ms' (n0 + cells) av h Qb) (K : am_ms y' n) (hlk : Cond.methodLinkNest y.1.cls idx y'.1 host ∈ am_N) (hdg : decode y.2.1 pc = .ok (.invokestatic idx, 3)) (hq : q = pc) (hn : av.length = n) (hst0 : S = av.reverse ++ rest) (hrest : rest.length ≤ 8) (hd : d' + 1 ≤ d) (hm1 : cells + mc' ≤ mc) (hm2 : slots + ms' ≤ ms)
    (kk : ∀ r h', Qb r h' → am_At l D dA y d mc ms rc rs n0 X Qa (cells + mc') (slots + ms') (pc + 3) L (r.toList ++ rest) h') : am_At l D dA y d mc ms rc rs n0 X Qa cells slots q L S h := by
  subst hq
  subst hst0
  intro p e s m args below meth c A b ad0 Q hC hR ad ws H locs ls st hS hl hst
  obtain ⟨st1, st3, rfl, hs1, hs3⟩ := am_map_app hst
  obtain ⟨hw1, hP, hD, hS1, hpre, hlen⟩ := id hS
  obtain ⟨⟨k1, k2, k3, k4⟩, k5⟩ := K
  have hav : av.map (am_cv b ad) = (st1.reverse).map some := by
    rw [List.map_reverse, ← hs1, List.map_reverse, List.reverse_reverse]
  have hM' := hM b ad ws st1.reverse H.size hw1 hlen hav
  refine am_aft hC hR hS hl hs3 (va_runSN (As := st1.reverse) (rest := st3) ⟨hC.1.1, hC.1.2.1, hC.1.2.2.1, hC.1.2.2.2, hC.2.2.1⟩ hM' ⟨va_cnB n hC.2.2.1 (am_goodIn (y := y) k1) rfl rfl rfl (hC.2.2.2.1 _ hlk) (hC.2.2.1 _ k2) k3 ⟨hd, am_room hd k4⟩, hC.2.2.1 _ k5, trivial⟩ ⟨am_blind, fun U hU hW => ⟨rfl, by rw [hU], by rw [hU]; exact hP, va_K.moved hW.alike hC.2.2.2.2.1, am_N_warm hW hC.2.2.2.1, hD.weaken (fun _ _ _ _ => trivial)⟩⟩ rfl ?_ hl.size ?_ (lv_room ?_) hdg ⟨hm1, hm2⟩) kk
  · have := am_len hs1
    rw [List.length_reverse, this, List.length_reverse]
    exact hn
  · rw [List.reverse_reverse]
  · rw [am_sum1 hs3]
    exact hrest
/-- Object's own constructor -/
theorem am_obj {r idx : Nat} {rest : List am_V} (hlk : Cond.methodLink y.1.cls idx objectInit ∈ am_G) (h1 : Cond.instanceMethod objectInit ∈ am_G) (h2 : Cond.code objectInit ⟨#[0xb1]⟩ 1 none ∈ am_G) (hdg : decode y.2.1 pc = .ok (.invokespecial idx, 3)) (hq : q = pc) (hrest : rest.length ≤ 8) (hd : 1 ≤ d)
    (kk : am_At l D dA y d mc ms rc rs n0 X Qa cells slots (pc + 3) L rest h) : am_At l D dA y d mc ms rc rs n0 X Qa cells slots q L (am_r r :: rest) h := by
  subst hq
  intro p e s m args below meth c A b ad0 Q hC hR ad ws H locs ls st hS hl hst
  obtain ⟨c1, st3, rfl, er, hs3⟩ := am_cons hst
  obtain ⟨a, ha, hca⟩ := am_cv_r er
  subst hca
  refine W.objInit hC.1.1 hC.1.2.1 hC.1.2.2.2 (hC.2.2.1 _ hlk) (hC.2.2.1 _ h1) (hC.2.2.1 _ h2) rfl (hl.size.trans hC.1.2.2.1.symm) rfl hdg hd ?_ ?_
  · show 2 * 0 + _ + 12 ≤ 37 * d + 3
    rw [am_sum1 hs3]
    omega
  · exact kk p e s m args below meth c A b ad0 Q hC hR ad ws H locs ls st3 hS hl hs3
theorem am_min {idx : Nat} {x z : Int32} {rest : List am_V} (hlk : Cond.methodLink y.1.cls idx Lib.Math.min.name ∈ am_G) (h1 : Cond.static Lib.Math.min.name ∈ am_G) (h2 : Cond.initialized "java/lang/Math" ∈ am_G) (h3 : Cond.code Lib.Math.min.name Lib.Math.min.code 2 (some .int) ∈ am_G) (hdg : decode y.2.1 pc = .ok (.invokestatic idx, 3)) (hq : q = pc) (hrest : rest.length ≤ 8) (hd : 1 ≤ d) (hm1 : cells ≤ mc) (hm2 : slots ≤ ms)
    (kk : am_At l D dA y d mc ms rc rs n0 X Qa cells slots (pc + 3) L (.inl (if z < x then z else x) :: rest) h) : am_At l D dA y d mc ms rc rs n0 X Qa cells slots q L (.inl z :: .inl x :: rest) h := by
  subst hq
  intro p e s m args below meth c A b ad0 Q hC hR ad ws H locs ls st hS hl hst
  obtain ⟨c1, st, rfl, e1, hst⟩ := am_cons hst
  obtain ⟨c2, st, rfl, e2, hst⟩ := am_cons hst
  rw [am_cv_i e1, am_cv_i e2]
  refine va_mmin hC.1.1 hC.1.2.1 (hC.1.2.2.1.trans hl.size.symm) hC.1.2.2.2 (hC.2.2.1 _ hlk) (hC.2.2.1 _ h1) (hC.2.2.1 _ h2) (hC.2.2.1 _ h3) hd ?_ hm1 hm2 hdg (kk p e s m args below meth c A b ad0 Q hC hR ad ws H locs ls _ hS hl (by simp only [List.map_cons, hst]; rfl))
  show _ + 13 ≤ 37 * d + 3
  rw [am_sum1 hst]
  omega
set_option maxHeartbeats 4000000 in
theorem am_copy {idx r0 r1 m0 m1 sp dp n : Nat} {f g : Nat → Int32} {rest : List am_V} (hlk : Cond.methodLink y.1.cls idx arraycopyName ∈ am_G) (h1 : Cond.native arraycopyName ∈ am_G) (h2 : Cond.static arraycopyName ∈ am_G) (h3 : Cond.initialized "java/lang/System" ∈ am_G) (hdg : decode y.2.1 pc = .ok (.invokestatic idx, 3)) (hq : q = pc) (hrest : rest.length ≤ 8) (hd : 1 ≤ d) (hc0 : h r0 = some (.inl (false, m0, f))) (hc1 : h r1 = some (.inl (false, m1, g))) (hb0 : sp + n ≤ m0) (hb1 : dp + n ≤ m1) (hb2 : m0 < 2 ^ 31) (hb3 : m1 < 2 ^ 31)
    (kk : am_At l D dA y d mc ms rc rs n0 X Qa cells slots (pc + 3) L rest (am_set h r1 (.inl (false, m1, va_cpy f g sp dp n)))) : am_At l D dA y d mc ms rc rs n0 X Qa cells slots q L (.inl (nI n) :: .inl (nI dp) :: am_r r1 :: .inl (nI sp) :: am_r r0 :: rest) h := by
  subst hq
  intro p e s m args below meth c A b ad0 Q hC hR ad ws H locs ls st hS hl hst
  obtain ⟨c1, st, rfl, e1, hst1⟩ := am_cons hst
  obtain ⟨c2, st, rfl, e2, hst2⟩ := am_cons hst1
  obtain ⟨c3, st, rfl, e3, hst3⟩ := am_cons hst2
  obtain ⟨c4, st, rfl, e4, hst4⟩ := am_cons hst3
  obtain ⟨c5, st, rfl, e5, hst5⟩ := am_cons hst4
  obtain ⟨a1, ha1, hca1⟩ := am_cv_r e3
  obtain ⟨a0, ha0, hca0⟩ := am_cv_r e5
  rw [am_cv_i e1, am_cv_i e2, am_cv_i e4, hca1, hca0]
  obtain ⟨hw1, hP, hD, hS1, hpre, hlen⟩ := id hS
  have g0 := hw1.arr ha0 hc0
  have g1 := hw1.arr ha1 hc1
  have k1 : (nI sp).toNatClampNeg = sp := nI_clamp (by omega)
  have k2 : (nI dp).toNatClampNeg = dp := nI_clamp (by omega)
  have k3 : (nI n).toNatClampNeg = n := nI_clamp (by omega)
  refine va_copyi hC.1.1 hC.1.2.1 (hC.1.2.2.1.trans hl.size.symm) hC.1.2.2.2 (hC.2.2.1 _ hlk) (hC.2.2.1 _ h1) (hC.2.2.1 _ h2) (hC.2.2.1 _ h3) hC.2.2.2.2.1 hP hD hS1 r0 r1 0 0 g0 g1 rfl rfl rfl (nI_pos (by omega)) (nI_pos (by omega)) (nI_pos (by omega)) (by rw [k1, k3]; exact hb0) (by rw [k2, k3]; exact hb1) (fun _ _ => rfl) hd ?_ hdg (fun H1 locs1 hP1 hD1 hS2 => kk p e s m args below meth c A b ad0 Q hC hR ad _ H1 locs1 ls _ ⟨hw1.set g1 ?_, hP1, hD1, hS2, hpre, hlen⟩ hl hst5)
  · show _ + (nativeFrameWords "java/lang/System" "arraycopy" 5 + 11) ≤ 37 * d + 3
    rw [am_sum1 hst5]
    have : nativeFrameWords "java/lang/System" "arraycopy" 5 ≤ 20 := by decide
    omega
  · rw [k1, k2, k3]
    rfl
end AMC
end
section
/-! ===== what the tables say: classes, fields, methods, by their places ===== -/
theorem cl0 : am_cl 0 RX0 TX0 8 := ⟨rfl, by decide +kernel, ⟨tyX0, tyX0_ok⟩, nmX0⟩
theorem cl1 : am_cl 1 RX1 TX1 2 := ⟨rfl, by decide +kernel, ⟨tyX1, tyX1_ok⟩, nmX1⟩
theorem cl2 : am_cl 2 RX2 TX2 3 := ⟨rfl, by decide +kernel, ⟨tyX2, tyX2_ok⟩, nmX2⟩
theorem cl3 : am_cl 3 RX3 TX3 2 := ⟨rfl, by decide +kernel, ⟨tyX3, tyX3_ok⟩, nmX3⟩
theorem cl4 : am_cl 4 RX4 TX4 6 := ⟨rfl, by decide +kernel, ⟨tyX4, tyX4_ok⟩, nmX4⟩
theorem cl5 : am_cl 5 RX5 TX5 8 := ⟨rfl, by decide +kernel, ⟨tyX5, tyX5_ok⟩, nmX5⟩
theorem cl6 : am_cl 6 RX6 TX6 14 := ⟨rfl, by decide +kernel, ⟨tyX6, tyX6_ok⟩, nmX6⟩
theorem cl7 : am_cl 7 RX7 TX7 8 := ⟨rfl, by decide +kernel, ⟨tyX7, tyX7_ok⟩, nmX7⟩
theorem cl8 : am_cl 8 RX8 TX8 7 := ⟨rfl, by decide +kernel, ⟨tyX8, tyX8_ok⟩, nmX8⟩
theorem cl9 : am_cl 9 RX9 TX9 5 := ⟨rfl, by decide +kernel, ⟨tyX9, tyX9_ok⟩, nmX9⟩
theorem cl10 : am_cl 10 RX10 TX10 23 := ⟨rfl, by decide +kernel, ⟨tyX10, tyX10_ok⟩, nmX10⟩
theorem wd_oi : Cond.instanceMethod objectInit ∈ am_G := am_in 69 (by decide +kernel) (by decide +kernel)
theorem wd_oc : Cond.code objectInit ⟨#[0xb1]⟩ 1 none ∈ am_G := am_in 70 (by decide +kernel) (by decide +kernel)
theorem wd_ai : Cond.arrayClass .int ∈ am_G := am_in 85 (by decide +kernel) (by decide +kernel)
theorem wd_az : Cond.arrayClass .boolean ∈ am_G := am_in 817 (by decide +kernel) (by decide +kernel)
theorem wd_mins : Cond.static Lib.Math.min.name ∈ am_G := am_in 406 (by decide +kernel) (by decide +kernel)
theorem wd_mini : Cond.initialized "java/lang/Math" ∈ am_G := am_in 60 (by decide +kernel) (by decide +kernel)
theorem wd_minc : Cond.code Lib.Math.min.name Lib.Math.min.code 2 (some .int) ∈ am_G := am_in 407 (by decide +kernel) (by decide +kernel)
theorem wd_cpn : Cond.native arraycopyName ∈ am_G := am_in 714 (by decide +kernel) (by decide +kernel)
theorem wd_cps : Cond.static arraycopyName ∈ am_G := am_in 713 (by decide +kernel) (by decide +kernel)
theorem wd_cpi : Cond.initialized "java/lang/System" ∈ am_G := am_in 62 (by decide +kernel) (by decide +kernel)
theorem wd_k_X7_51 : Cond.constant RX7 51 65536 ∈ am_G := am_in 501 (by decide +kernel) (by decide +kernel)
theorem wd_k_X10_93 : Cond.constant RX10 93 65536 ∈ am_G := am_in 873 (by decide +kernel) (by decide +kernel)
theorem wd_in_X0 : Cond.initialized RX0 ∈ am_G := am_in 51 (by decide +kernel) (by decide +kernel)
theorem wd_is_X0 : Cond.instantiable RX0 8 ∈ am_G := am_in 87 (by decide +kernel) (by decide +kernel)
theorem wd_in_X1 : Cond.initialized RX1 ∈ am_G := am_in 56 (by decide +kernel) (by decide +kernel)
theorem wd_is_X1 : Cond.instantiable RX1 2 ∈ am_G := am_in 203 (by decide +kernel) (by decide +kernel)
theorem wd_in_X2 : Cond.initialized RX2 ∈ am_G := am_in 54 (by decide +kernel) (by decide +kernel)
theorem wd_is_X2 : Cond.instantiable RX2 3 ∈ am_G := am_in 155 (by decide +kernel) (by decide +kernel)
theorem wd_in_X3 : Cond.initialized RX3 ∈ am_G := am_in 50 (by decide +kernel) (by decide +kernel)
theorem wd_is_X3 : Cond.instantiable RX3 2 ∈ am_G := am_in 72 (by decide +kernel) (by decide +kernel)
theorem wd_in_X4 : Cond.initialized RX4 ∈ am_G := am_in 57 (by decide +kernel) (by decide +kernel)
theorem wd_is_X4 : Cond.instantiable RX4 6 ∈ am_G := am_in 216 (by decide +kernel) (by decide +kernel)
theorem wd_in_X5 : Cond.initialized RX5 ∈ am_G := am_in 58 (by decide +kernel) (by decide +kernel)
theorem wd_is_X5 : Cond.instantiable RX5 8 ∈ am_G := am_in 241 (by decide +kernel) (by decide +kernel)
theorem wd_in_X6 : Cond.initialized RX6 ∈ am_G := am_in 55 (by decide +kernel) (by decide +kernel)
theorem wd_is_X6 : Cond.instantiable RX6 14 ∈ am_G := am_in 197 (by decide +kernel) (by decide +kernel)
theorem wd_in_X7 : Cond.initialized RX7 ∈ am_G := am_in 52 (by decide +kernel) (by decide +kernel)
theorem wd_is_X7 : Cond.instantiable RX7 8 ∈ am_G := am_in 93 (by decide +kernel) (by decide +kernel)
theorem wd_in_X8 : Cond.initialized RX8 ∈ am_G := am_in 53 (by decide +kernel) (by decide +kernel)
theorem wd_is_X8 : Cond.instantiable RX8 7 ∈ am_G := am_in 149 (by decide +kernel) (by decide +kernel)
theorem wd_in_X9 : Cond.initialized RX9 ∈ am_G := am_in 49 (by decide +kernel) (by decide +kernel)
theorem wd_is_X9 : Cond.instantiable RX9 5 ∈ am_G := am_in 64 (by decide +kernel) (by decide +kernel)
theorem wd_in_X10 : Cond.initialized RX10 ∈ am_G := am_in 59 (by decide +kernel) (by decide +kernel)
theorem wd_is_X10 : Cond.instantiable RX10 23 ∈ am_G := am_in 742 (by decide +kernel) (by decide +kernel)
theorem wd_in_J7 : Cond.initialized RJ7 ∈ am_G := am_in 61 (by decide +kernel) (by decide +kernel)
theorem c_L_7 : Cond.classLink RL 7 RX9 ∈ am_G := am_in 63 (by decide +kernel) (by decide +kernel)
theorem l_L_9 : Cond.methodLink RL 9 yX9_init ∈ am_G := am_in 65 (by decide +kernel) (by decide +kernel)
theorem l_X9_1 : Cond.methodLink RX9 1 objectInit ∈ am_G := am_in 68 (by decide +kernel) (by decide +kernel)
theorem c_X9_7 : Cond.classLink RX9 7 RX3 ∈ am_G := am_in 71 (by decide +kernel) (by decide +kernel)
theorem l_X9_11 : Cond.methodLink RX9 11 yX3_init ∈ am_G := am_in 73 (by decide +kernel) (by decide +kernel)
theorem l_X3_3 : Cond.methodLink RX3 3 objectInit ∈ am_G := am_in 76 (by decide +kernel) (by decide +kernel)
theorem f_X3_9 : am_fl RX3 9 3 0 true (.array .int) := ⟨RX3, TX3, 2, cl3, by decide, am_in 77 (by decide +kernel) (by decide +kernel), rfl, by decide +kernel, rfl⟩
theorem f_X2_34 : am_fn RX2 34 3 0 "ArchiveDesk" := ⟨RX3, TX3, 2, cl3, by decide, am_inN 78 (by decide +kernel) (by decide +kernel)⟩
theorem f_X3_15 : am_fl RX3 15 3 1 false .int := ⟨RX3, TX3, 2, cl3, by decide, am_in 79 (by decide +kernel) (by decide +kernel), rfl, by decide +kernel, rfl⟩
theorem c_X9_21 : Cond.classLink RX9 21 RX0 ∈ am_G := am_in 86 (by decide +kernel) (by decide +kernel)
theorem l_X9_23 : Cond.methodLink RX9 23 yX0_init ∈ am_G := am_in 88 (by decide +kernel) (by decide +kernel)
theorem l_X0_3 : Cond.methodLink RX0 3 objectInit ∈ am_G := am_in 91 (by decide +kernel) (by decide +kernel)
theorem c_X0_9 : Cond.classLink RX0 9 RX7 ∈ am_G := am_in 92 (by decide +kernel) (by decide +kernel)
theorem l_X0_11 : Cond.methodLink RX0 11 yX7_init ∈ am_G := am_in 94 (by decide +kernel) (by decide +kernel)
theorem l_X7_3 : Cond.methodLink RX7 3 objectInit ∈ am_G := am_in 97 (by decide +kernel) (by decide +kernel)
theorem f_X7_9 : am_fl RX7 9 7 0 true (.array .int) := ⟨RX7, TX7, 8, cl7, by decide, am_in 98 (by decide +kernel) (by decide +kernel), rfl, by decide +kernel, rfl⟩
theorem f_X7_15 : am_fl RX7 15 7 1 true (.array .int) := ⟨RX7, TX7, 8, cl7, by decide, am_in 99 (by decide +kernel) (by decide +kernel), rfl, by decide +kernel, rfl⟩
theorem f_X7_18 : am_fl RX7 18 7 2 true (.array .int) := ⟨RX7, TX7, 8, cl7, by decide, am_in 100 (by decide +kernel) (by decide +kernel), rfl, by decide +kernel, rfl⟩
theorem f_X7_21 : am_fl RX7 21 7 3 true (.array .int) := ⟨RX7, TX7, 8, cl7, by decide, am_in 101 (by decide +kernel) (by decide +kernel), rfl, by decide +kernel, rfl⟩
theorem f_X7_24 : am_fl RX7 24 7 4 true (.array .int) := ⟨RX7, TX7, 8, cl7, by decide, am_in 102 (by decide +kernel) (by decide +kernel), rfl, by decide +kernel, rfl⟩
theorem f_X7_27 : am_fl RX7 27 7 5 true (.array .int) := ⟨RX7, TX7, 8, cl7, by decide, am_in 103 (by decide +kernel) (by decide +kernel), rfl, by decide +kernel, rfl⟩
theorem f_X7_30 : am_fl RX7 30 7 6 true (.array .int) := ⟨RX7, TX7, 8, cl7, by decide, am_in 104 (by decide +kernel) (by decide +kernel), rfl, by decide +kernel, rfl⟩
theorem f_X7_33 : am_fl RX7 33 7 7 false .int := ⟨RX7, TX7, 8, cl7, by decide, am_in 105 (by decide +kernel) (by decide +kernel), rfl, by decide +kernel, rfl⟩
theorem f_X0_14 : am_fl RX0 14 0 0 true (.object "ArchiveDesk$Tree") := ⟨RX0, TX0, 8, cl0, by decide, am_in 123 (by decide +kernel) (by decide +kernel), rfl, by decide +kernel, rfl⟩
theorem f_X0_20 : am_fl RX0 20 0 1 true (.object "ArchiveDesk$Tree") := ⟨RX0, TX0, 8, cl0, by decide, am_in 124 (by decide +kernel) (by decide +kernel), rfl, by decide +kernel, rfl⟩
theorem f_X0_23 : am_fl RX0 23 0 2 true (.object "ArchiveDesk$Tree") := ⟨RX0, TX0, 8, cl0, by decide, am_in 125 (by decide +kernel) (by decide +kernel), rfl, by decide +kernel, rfl⟩
theorem f_X0_26 : am_fl RX0 26 0 3 false .boolean := ⟨RX0, TX0, 8, cl0, by decide, am_in 126 (by decide +kernel) (by decide +kernel), rfl, by decide +kernel, rfl⟩
theorem f_X0_30 : am_fl RX0 30 0 4 false .int := ⟨RX0, TX0, 8, cl0, by decide, am_in 127 (by decide +kernel) (by decide +kernel), rfl, by decide +kernel, rfl⟩
theorem f_X0_34 : am_fl RX0 34 0 5 false .int := ⟨RX0, TX0, 8, cl0, by decide, am_in 128 (by decide +kernel) (by decide +kernel), rfl, by decide +kernel, rfl⟩
theorem f_X0_37 : am_fl RX0 37 0 6 false .int := ⟨RX0, TX0, 8, cl0, by decide, am_in 129 (by decide +kernel) (by decide +kernel), rfl, by decide +kernel, rfl⟩
theorem f_X0_40 : am_fl RX0 40 0 7 false .int := ⟨RX0, TX0, 8, cl0, by decide, am_in 130 (by decide +kernel) (by decide +kernel), rfl, by decide +kernel, rfl⟩
theorem c_X9_28 : Cond.classLink RX9 28 RX8 ∈ am_G := am_in 148 (by decide +kernel) (by decide +kernel)
theorem l_X9_30 : Cond.methodLink RX9 30 yX8_init ∈ am_G := am_in 150 (by decide +kernel) (by decide +kernel)
theorem l_X8_3 : Cond.methodLink RX8 3 objectInit ∈ am_G := am_in 153 (by decide +kernel) (by decide +kernel)
theorem c_X8_9 : Cond.classLink RX8 9 RX2 ∈ am_G := am_in 154 (by decide +kernel) (by decide +kernel)
theorem l_X8_11 : Cond.methodLink RX8 11 yX2_init ∈ am_G := am_in 156 (by decide +kernel) (by decide +kernel)
theorem l_X2_3 : Cond.methodLink RX2 3 objectInit ∈ am_G := am_in 159 (by decide +kernel) (by decide +kernel)
theorem f_X2_9 : am_fl RX2 9 2 0 true (.object "ArchiveDesk$ByteRow") := ⟨RX2, TX2, 3, cl2, by decide, am_in 160 (by decide +kernel) (by decide +kernel), rfl, by decide +kernel, rfl⟩
theorem f_X2_15 : am_fl RX2 15 2 1 false .int := ⟨RX2, TX2, 3, cl2, by decide, am_in 161 (by decide +kernel) (by decide +kernel), rfl, by decide +kernel, rfl⟩
theorem f_X2_19 : am_fl RX2 19 2 2 false .int := ⟨RX2, TX2, 3, cl2, by decide, am_in 162 (by decide +kernel) (by decide +kernel), rfl, by decide +kernel, rfl⟩
theorem l_X8_28 : Cond.methodLink RX8 28 yX0_tree ∈ am_G := am_in 170 (by decide +kernel) (by decide +kernel)
theorem f_X8_14 : am_fl RX8 14 8 0 true (.object "ArchiveDesk$BitSource") := ⟨RX8, TX8, 7, cl8, by decide, am_in 174 (by decide +kernel) (by decide +kernel), rfl, by decide +kernel, rfl⟩
theorem f_X8_20 : am_fl RX8 20 8 1 true (.object "ArchiveDesk$ByteRow") := ⟨RX8, TX8, 7, cl8, by decide, am_in 175 (by decide +kernel) (by decide +kernel), rfl, by decide +kernel, rfl⟩
theorem f_X8_24 : am_fl RX8 24 8 2 true (.object "ArchiveDesk$Account") := ⟨RX8, TX8, 7, cl8, by decide, am_in 176 (by decide +kernel) (by decide +kernel), rfl, by decide +kernel, rfl⟩
theorem f_X8_34 : am_fl RX8 34 8 3 true (.object "ArchiveDesk$Tree") := ⟨RX8, TX8, 7, cl8, by decide, am_in 177 (by decide +kernel) (by decide +kernel), rfl, by decide +kernel, rfl⟩
theorem f_X8_38 : am_fl RX8 38 8 4 true (.object "ArchiveDesk$Tree") := ⟨RX8, TX8, 7, cl8, by decide, am_in 178 (by decide +kernel) (by decide +kernel), rfl, by decide +kernel, rfl⟩
theorem f_X8_41 : am_fl RX8 41 8 5 true (.object "ArchiveDesk$Tree") := ⟨RX8, TX8, 7, cl8, by decide, am_in 179 (by decide +kernel) (by decide +kernel), rfl, by decide +kernel, rfl⟩
theorem f_X8_44 : am_fl RX8 44 8 6 false .int := ⟨RX8, TX8, 7, cl8, by decide, am_in 180 (by decide +kernel) (by decide +kernel), rfl, by decide +kernel, rfl⟩
theorem c_X9_37 : Cond.classLink RX9 37 RX6 ∈ am_G := am_in 196 (by decide +kernel) (by decide +kernel)
theorem l_X9_39 : Cond.methodLink RX9 39 yX6_init ∈ am_G := am_in 198 (by decide +kernel) (by decide +kernel)
theorem l_X6_3 : Cond.methodLink RX6 3 objectInit ∈ am_G := am_in 201 (by decide +kernel) (by decide +kernel)
theorem c_X6_19 : Cond.classLink RX6 19 RX1 ∈ am_G := am_in 202 (by decide +kernel) (by decide +kernel)
theorem l_X6_21 : Cond.methodLink RX6 21 yX1_init ∈ am_G := am_in 204 (by decide +kernel) (by decide +kernel)
theorem l_X1_3 : Cond.methodLink RX1 3 objectInit ∈ am_G := am_in 207 (by decide +kernel) (by decide +kernel)
theorem f_X1_9 : am_fl RX1 9 1 0 true (.object "ArchiveDesk$ByteRow") := ⟨RX1, TX1, 2, cl1, by decide, am_in 208 (by decide +kernel) (by decide +kernel), rfl, by decide +kernel, rfl⟩
theorem f_X1_15 : am_fl RX1 15 1 1 false .int := ⟨RX1, TX1, 2, cl1, by decide, am_in 209 (by decide +kernel) (by decide +kernel), rfl, by decide +kernel, rfl⟩
theorem c_X6_28 : Cond.classLink RX6 28 RX4 ∈ am_G := am_in 215 (by decide +kernel) (by decide +kernel)
theorem l_X6_30 : Cond.methodLink RX6 30 yX4_init ∈ am_G := am_in 217 (by decide +kernel) (by decide +kernel)
theorem l_X4_3 : Cond.methodLink RX4 3 objectInit ∈ am_G := am_in 220 (by decide +kernel) (by decide +kernel)
theorem f_X4_9 : am_fl RX4 9 4 0 true (.object "ArchiveDesk$ByteRow") := ⟨RX4, TX4, 6, cl4, by decide, am_in 221 (by decide +kernel) (by decide +kernel), rfl, by decide +kernel, rfl⟩
theorem f_X4_15 : am_fl RX4 15 4 1 true (.array .int) := ⟨RX4, TX4, 6, cl4, by decide, am_in 222 (by decide +kernel) (by decide +kernel), rfl, by decide +kernel, rfl⟩
theorem f_X4_19 : am_fl RX4 19 4 2 true (.array .int) := ⟨RX4, TX4, 6, cl4, by decide, am_in 223 (by decide +kernel) (by decide +kernel), rfl, by decide +kernel, rfl⟩
theorem f_X4_22 : am_fl RX4 22 4 3 false .int := ⟨RX4, TX4, 6, cl4, by decide, am_in 224 (by decide +kernel) (by decide +kernel), rfl, by decide +kernel, rfl⟩
theorem f_X4_26 : am_fl RX4 26 4 4 false .int := ⟨RX4, TX4, 6, cl4, by decide, am_in 225 (by decide +kernel) (by decide +kernel), rfl, by decide +kernel, rfl⟩
theorem f_X4_29 : am_fl RX4 29 4 5 false .int := ⟨RX4, TX4, 6, cl4, by decide, am_in 226 (by decide +kernel) (by decide +kernel), rfl, by decide +kernel, rfl⟩
theorem c_X6_37 : Cond.classLink RX6 37 RX5 ∈ am_G := am_in 240 (by decide +kernel) (by decide +kernel)
theorem l_X6_39 : Cond.methodLink RX6 39 yX5_init ∈ am_G := am_in 242 (by decide +kernel) (by decide +kernel)
theorem l_X5_1 : Cond.methodLink RX5 1 objectInit ∈ am_G := am_in 245 (by decide +kernel) (by decide +kernel)
theorem f_X5_7 : am_fl RX5 7 5 0 true (.array .int) := ⟨RX5, TX5, 8, cl5, by decide, am_in 246 (by decide +kernel) (by decide +kernel), rfl, by decide +kernel, rfl⟩
theorem f_X5_13 : am_fl RX5 13 5 1 true (.array .int) := ⟨RX5, TX5, 8, cl5, by decide, am_in 247 (by decide +kernel) (by decide +kernel), rfl, by decide +kernel, rfl⟩
theorem f_X5_16 : am_fl RX5 16 5 2 true (.array .int) := ⟨RX5, TX5, 8, cl5, by decide, am_in 248 (by decide +kernel) (by decide +kernel), rfl, by decide +kernel, rfl⟩
theorem f_X5_19 : am_fl RX5 19 5 3 true (.array .int) := ⟨RX5, TX5, 8, cl5, by decide, am_in 249 (by decide +kernel) (by decide +kernel), rfl, by decide +kernel, rfl⟩
theorem f_X5_22 : am_fl RX5 22 5 4 false .int := ⟨RX5, TX5, 8, cl5, by decide, am_in 250 (by decide +kernel) (by decide +kernel), rfl, by decide +kernel, rfl⟩
theorem f_X5_26 : am_fl RX5 26 5 5 false .int := ⟨RX5, TX5, 8, cl5, by decide, am_in 251 (by decide +kernel) (by decide +kernel), rfl, by decide +kernel, rfl⟩
theorem f_X5_29 : am_fl RX5 29 5 6 false .int := ⟨RX5, TX5, 8, cl5, by decide, am_in 252 (by decide +kernel) (by decide +kernel), rfl, by decide +kernel, rfl⟩
theorem f_X5_32 : am_fl RX5 32 5 7 false .int := ⟨RX5, TX5, 8, cl5, by decide, am_in 253 (by decide +kernel) (by decide +kernel), rfl, by decide +kernel, rfl⟩
theorem l_X6_46 : Cond.methodLink RX6 46 yX0_tree ∈ am_G := am_in 271 (by decide +kernel) (by decide +kernel)
theorem f_X6_9 : am_fl RX6 9 6 0 true (.object "ArchiveDesk$ByteRow") := ⟨RX6, TX6, 14, cl6, by decide, am_in 272 (by decide +kernel) (by decide +kernel), rfl, by decide +kernel, rfl⟩
theorem f_X6_24 : am_fl RX6 24 6 1 true (.object "ArchiveDesk$BitSink") := ⟨RX6, TX6, 14, cl6, by decide, am_in 273 (by decide +kernel) (by decide +kernel), rfl, by decide +kernel, rfl⟩
theorem f_X6_15 : am_fl RX6 15 6 2 true (.object "ArchiveDesk$Account") := ⟨RX6, TX6, 14, cl6, by decide, am_in 274 (by decide +kernel) (by decide +kernel), rfl, by decide +kernel, rfl⟩
theorem f_X6_33 : am_fl RX6 33 6 3 true (.object "ArchiveDesk$CopyFinder") := ⟨RX6, TX6, 14, cl6, by decide, am_in 275 (by decide +kernel) (by decide +kernel), rfl, by decide +kernel, rfl⟩
theorem f_X6_42 : am_fl RX6 42 6 4 true (.object "ArchiveDesk$Merger") := ⟨RX6, TX6, 14, cl6, by decide, am_in 276 (by decide +kernel) (by decide +kernel), rfl, by decide +kernel, rfl⟩
theorem f_X6_52 : am_fl RX6 52 6 5 true (.object "ArchiveDesk$Tree") := ⟨RX6, TX6, 14, cl6, by decide, am_in 277 (by decide +kernel) (by decide +kernel), rfl, by decide +kernel, rfl⟩
theorem f_X6_56 : am_fl RX6 56 6 6 true (.object "ArchiveDesk$Tree") := ⟨RX6, TX6, 14, cl6, by decide, am_in 278 (by decide +kernel) (by decide +kernel), rfl, by decide +kernel, rfl⟩
theorem f_X6_59 : am_fl RX6 59 6 7 true (.object "ArchiveDesk$Tree") := ⟨RX6, TX6, 14, cl6, by decide, am_in 279 (by decide +kernel) (by decide +kernel), rfl, by decide +kernel, rfl⟩
theorem f_X6_62 : am_fl RX6 62 6 8 true (.array .int) := ⟨RX6, TX6, 14, cl6, by decide, am_in 280 (by decide +kernel) (by decide +kernel), rfl, by decide +kernel, rfl⟩
theorem f_X6_66 : am_fl RX6 66 6 9 true (.array .int) := ⟨RX6, TX6, 14, cl6, by decide, am_in 281 (by decide +kernel) (by decide +kernel), rfl, by decide +kernel, rfl⟩
theorem f_X6_69 : am_fl RX6 69 6 10 false .int := ⟨RX6, TX6, 14, cl6, by decide, am_in 282 (by decide +kernel) (by decide +kernel), rfl, by decide +kernel, rfl⟩
theorem f_X6_73 : am_fl RX6 73 6 11 true (.array .int) := ⟨RX6, TX6, 14, cl6, by decide, am_in 283 (by decide +kernel) (by decide +kernel), rfl, by decide +kernel, rfl⟩
theorem f_X6_76 : am_fl RX6 76 6 12 true (.array .int) := ⟨RX6, TX6, 14, cl6, by decide, am_in 284 (by decide +kernel) (by decide +kernel), rfl, by decide +kernel, rfl⟩
theorem f_X6_79 : am_fl RX6 79 6 13 false .int := ⟨RX6, TX6, 14, cl6, by decide, am_in 285 (by decide +kernel) (by decide +kernel), rfl, by decide +kernel, rfl⟩
theorem f_X9_14 : am_fl RX9 14 9 0 true (.object "ArchiveDesk$ByteRow") := ⟨RX9, TX9, 5, cl9, by decide, am_in 315 (by decide +kernel) (by decide +kernel), rfl, by decide +kernel, rfl⟩
theorem f_X9_18 : am_fl RX9 18 9 1 true (.object "ArchiveDesk$ByteRow") := ⟨RX9, TX9, 5, cl9, by decide, am_in 316 (by decide +kernel) (by decide +kernel), rfl, by decide +kernel, rfl⟩
theorem f_X9_24 : am_fl RX9 24 9 2 true (.object "ArchiveDesk$Account") := ⟨RX9, TX9, 5, cl9, by decide, am_in 317 (by decide +kernel) (by decide +kernel), rfl, by decide +kernel, rfl⟩
theorem f_X9_33 : am_fl RX9 33 9 3 true (.object "ArchiveDesk$Unpacker") := ⟨RX9, TX9, 5, cl9, by decide, am_in 318 (by decide +kernel) (by decide +kernel), rfl, by decide +kernel, rfl⟩
theorem f_X9_40 : am_fl RX9 40 9 4 true (.object "ArchiveDesk$Packer") := ⟨RX9, TX9, 5, cl9, by decide, am_in 319 (by decide +kernel) (by decide +kernel), rfl, by decide +kernel, rfl⟩
theorem l_L_13 : Cond.methodLink RL 13 yX9_feed ∈ am_G := am_in 331 (by decide +kernel) (by decide +kernel)
theorem l_X9_44 : Cond.methodLink RX9 44 yX3_hasRoomFor ∈ am_G := am_in 335 (by decide +kernel) (by decide +kernel)
theorem l_X9_48 : Cond.methodLink RX9 48 yX3_addWord ∈ am_G := am_in 339 (by decide +kernel) (by decide +kernel)
theorem l_X3_23 : Cond.methodLink RX3 23 yX3_add ∈ am_G := am_in 343 (by decide +kernel) (by decide +kernel)
theorem l_X9_51 : Cond.methodLink RX9 51 yX3_count ∈ am_G := am_in 347 (by decide +kernel) (by decide +kernel)
theorem l_L_18 : Cond.methodLink RL 18 yX9_fill ∈ am_G := am_in 351 (by decide +kernel) (by decide +kernel)
theorem l_X9_55 : Cond.methodLink RX9 55 yX9_isByte ∈ am_G := am_in 355 (by decide +kernel) (by decide +kernel)
theorem l_X9_58 : Cond.methodLink RX9 58 yX3_add ∈ am_G := am_in 358 (by decide +kernel) (by decide +kernel)
theorem l_L_23 : Cond.methodLink RL 23 yX9_peek ∈ am_G := am_in 359 (by decide +kernel) (by decide +kernel)
theorem l_X9_61 : Cond.methodLink RX9 61 yX3_at ∈ am_G := am_in 363 (by decide +kernel) (by decide +kernel)
theorem l_X3_19 : Cond.methodLink RX3 19 yX3_has ∈ am_G := am_in 367 (by decide +kernel) (by decide +kernel)
theorem l_L_28 : Cond.methodLink RL 28 yX9_poke ∈ am_G := am_in 371 (by decide +kernel) (by decide +kernel)
theorem l_X9_65 : Cond.methodLink RX9 65 yX3_has ∈ am_G := am_in 375 (by decide +kernel) (by decide +kernel)
theorem l_X9_68 : Cond.methodLink RX9 68 yX3_change ∈ am_G := am_in 376 (by decide +kernel) (by decide +kernel)
theorem l_L_33 : Cond.methodLink RL 33 yX9_clear ∈ am_G := am_in 380 (by decide +kernel) (by decide +kernel)
theorem l_X9_72 : Cond.methodLink RX9 72 yX3_empty ∈ am_G := am_in 384 (by decide +kernel) (by decide +kernel)
theorem l_L_37 : Cond.methodLink RL 37 yX9_read ∈ am_G := am_in 388 (by decide +kernel) (by decide +kernel)
theorem l_X9_75 : Cond.methodLink RX9 75 yX9_isOnTape ∈ am_G := am_in 392 (by decide +kernel) (by decide +kernel)
theorem l_X9_78 : Cond.methodLink RX9 78 yX8_unpack ∈ am_G := am_in 396 (by decide +kernel) (by decide +kernel)
theorem l_X8_48 : Cond.methodLink RX8 48 yX2_open ∈ am_G := am_in 400 (by decide +kernel) (by decide +kernel)
theorem l_X2_22 : Cond.methodLink RX2 22 yX3_count ∈ am_G := am_in 404 (by decide +kernel) (by decide +kernel)
theorem l_X2_28 : Cond.methodLink RX2 28 Lib.Math.min.name ∈ am_G := am_in 405 (by decide +kernel) (by decide +kernel)
theorem l_X8_52 : Cond.methodLink RX8 52 yX3_empty ∈ am_G := am_in 408 (by decide +kernel) (by decide +kernel)
theorem l_X8_57 : Cond.methodLink RX8 57 yX0_open ∈ am_G := am_in 409 (by decide +kernel) (by decide +kernel)
theorem l_X8_59 : Cond.methodLink RX8 59 yX8_wantsMore ∈ am_G := am_in 413 (by decide +kernel) (by decide +kernel)
theorem l_X8_73 : Cond.methodLink RX8 73 yX3_count ∈ am_G := am_in 417 (by decide +kernel) (by decide +kernel)
theorem l_X8_63 : Cond.methodLink RX8 63 yX8_unpackBlock ∈ am_G := am_in 418 (by decide +kernel) (by decide +kernel)
theorem l_X8_76 : Cond.methodLink RX8 76 yX0_beginBlock ∈ am_G := am_in 422 (by decide +kernel) (by decide +kernel)
theorem l_X0_43 : Cond.methodLink RX0 43 yX7_wipe ∈ am_G := am_in 426 (by decide +kernel) (by decide +kernel)
theorem l_X7_37 : Cond.methodLink RX7 37 yJ7_fill_53178 ∈ am_G := am_in 430 (by decide +kernel) (by decide +kernel)
theorem l_X8_79 : Cond.methodLink RX8 79 yX2_take ∈ am_G := am_in 433 (by decide +kernel) (by decide +kernel)
theorem l_X8_83 : Cond.methodLink RX8 83 yX8_takeTree ∈ am_G := am_in 437 (by decide +kernel) (by decide +kernel)
theorem l_X8_90 : Cond.methodLink RX8 90 yX7_symbols ∈ am_G := am_in 441 (by decide +kernel) (by decide +kernel)
theorem l_X8_95 : Cond.methodLink RX8 95 yX8_takeAlone ∈ am_G := am_in 445 (by decide +kernel) (by decide +kernel)
theorem l_X8_109 : Cond.methodLink RX8 109 yX7_has ∈ am_G := am_in 449 (by decide +kernel) (by decide +kernel)
theorem l_X8_113 : Cond.methodLink RX8 113 yX7_setAlone ∈ am_G := am_in 453 (by decide +kernel) (by decide +kernel)
theorem l_X8_99 : Cond.methodLink RX8 99 yX8_takeLengthsByT ∈ am_G := am_in 457 (by decide +kernel) (by decide +kernel)
theorem l_X8_123 : Cond.methodLink RX8 123 yX2_takeSymbol ∈ am_G := am_in 461 (by decide +kernel) (by decide +kernel)
theorem l_X2_38 : Cond.methodLink RX2 38 yX7_isAlone ∈ am_G := am_in 465 (by decide +kernel) (by decide +kernel)
theorem l_X2_44 : Cond.methodLink RX2 44 yX7_alone ∈ am_G := am_in 469 (by decide +kernel) (by decide +kernel)
theorem l_X2_47 : Cond.methodLink RX2 47 yX2_take ∈ am_G := am_in 473 (by decide +kernel) (by decide +kernel)
theorem l_X2_51 : Cond.methodLink RX2 51 yX7_symbolOf ∈ am_G := am_in 474 (by decide +kernel) (by decide +kernel)
theorem l_X8_119 : Cond.methodLink RX8 119 yX7_setLength ∈ am_G := am_in 478 (by decide +kernel) (by decide +kernel)
theorem l_X7_43 : Cond.methodLink RX7 43 yX7_has ∈ am_G := am_in 482 (by decide +kernel) (by decide +kernel)
theorem l_X8_127 : Cond.methodLinkNest RX8 127 yX9_bitsBehind "ArchiveDesk" ∈ am_N := am_inN 483 (by decide +kernel) (by decide +kernel)
theorem l_X8_130 : Cond.methodLinkNest RX8 130 yX9_leastOf "ArchiveDesk" ∈ am_N := am_inN 486 (by decide +kernel) (by decide +kernel)
theorem l_X8_102 : Cond.methodLink RX8 102 yX8_takeLengths ∈ am_G := am_in 489 (by decide +kernel) (by decide +kernel)
theorem l_X8_116 : Cond.methodLink RX8 116 yX2_takeLength ∈ am_G := am_in 493 (by decide +kernel) (by decide +kernel)
theorem l_X8_106 : Cond.methodLink RX8 106 yX7_settle ∈ am_G := am_in 497 (by decide +kernel) (by decide +kernel)
theorem l_X7_52 : Cond.methodLink RX7 52 yX7_number ∈ am_G := am_in 502 (by decide +kernel) (by decide +kernel)
theorem l_X8_87 : Cond.methodLink RX8 87 yX8_unpackCode ∈ am_G := am_in 506 (by decide +kernel) (by decide +kernel)
theorem l_X8_133 : Cond.methodLink RX8 133 yX3_add ∈ am_G := am_in 510 (by decide +kernel) (by decide +kernel)
theorem l_X8_136 : Cond.methodLink RX8 136 yX0_countByte ∈ am_G := am_in 511 (by decide +kernel) (by decide +kernel)
theorem l_X8_139 : Cond.methodLink RX8 139 yX2_takeDistance ∈ am_G := am_in 515 (by decide +kernel) (by decide +kernel)
theorem l_X2_54 : Cond.methodLink RX2 54 yX2_takeSymbol ∈ am_G := am_in 519 (by decide +kernel) (by decide +kernel)
theorem l_X8_142 : Cond.methodLink RX8 142 yX8_copy ∈ am_G := am_in 520 (by decide +kernel) (by decide +kernel)
theorem l_X8_145 : Cond.methodLink RX8 145 yX0_countCopy ∈ am_G := am_in 524 (by decide +kernel) (by decide +kernel)
theorem l_X8_148 : Cond.methodLink RX8 148 yX3_at ∈ am_G := am_in 528 (by decide +kernel) (by decide +kernel)
theorem l_X8_67 : Cond.methodLink RX8 67 yX2_taken ∈ am_G := am_in 529 (by decide +kernel) (by decide +kernel)
theorem l_X8_70 : Cond.methodLink RX8 70 yX0_close ∈ am_G := am_in 533 (by decide +kernel) (by decide +kernel)
theorem l_L_41 : Cond.methodLink RL 41 yX9_write ∈ am_G := am_in 537 (by decide +kernel) (by decide +kernel)
theorem l_X9_82 : Cond.methodLink RX9 82 yX6_pack ∈ am_G := am_in 541 (by decide +kernel) (by decide +kernel)
theorem l_X6_82 : Cond.methodLink RX6 82 yX1_open ∈ am_G := am_in 545 (by decide +kernel) (by decide +kernel)
theorem l_X1_19 : Cond.methodLink RX1 19 yX3_empty ∈ am_G := am_in 549 (by decide +kernel) (by decide +kernel)
theorem l_X6_85 : Cond.methodLink RX6 85 yX0_open ∈ am_G := am_in 550 (by decide +kernel) (by decide +kernel)
theorem l_X6_86 : Cond.methodLink RX6 86 yX4_open ∈ am_G := am_in 551 (by decide +kernel) (by decide +kernel)
theorem l_X4_32 : Cond.methodLink RX4 32 Lib.Math.min.name ∈ am_G := am_in 555 (by decide +kernel) (by decide +kernel)
theorem l_X4_38 : Cond.methodLink RX4 38 yJ7_fill_53178 ∈ am_G := am_in 556 (by decide +kernel) (by decide +kernel)
theorem l_X4_44 : Cond.methodLink RX4 44 yX4_chainOf ∈ am_G := am_in 557 (by decide +kernel) (by decide +kernel)
theorem l_X4_48 : Cond.methodLink RX4 48 yX3_at ∈ am_G := am_in 561 (by decide +kernel) (by decide +kernel)
theorem l_X6_88 : Cond.methodLink RX6 88 yX0_beginBlock ∈ am_G := am_in 562 (by decide +kernel) (by decide +kernel)
theorem l_X6_91 : Cond.methodLink RX6 91 yX6_gatherCodes ∈ am_G := am_in 563 (by decide +kernel) (by decide +kernel)
theorem l_X6_112 : Cond.methodLink RX6 112 yX4_find ∈ am_G := am_in 567 (by decide +kernel) (by decide +kernel)
theorem l_X4_53 : Cond.methodLink RX4 53 yX4_sameBytes ∈ am_G := am_in 571 (by decide +kernel) (by decide +kernel)
theorem l_X6_116 : Cond.methodLink RX6 116 yX4_foundLength ∈ am_G := am_in 575 (by decide +kernel) (by decide +kernel)
theorem l_X6_119 : Cond.methodLink RX6 119 yX4_foundDistance ∈ am_G := am_in 579 (by decide +kernel) (by decide +kernel)
theorem l_X6_122 : Cond.methodLink RX6 122 yX6_distanceSymbol ∈ am_G := am_in 583 (by decide +kernel) (by decide +kernel)
theorem l_X6_126 : Cond.methodLink RX6 126 yX7_use ∈ am_G := am_in 586 (by decide +kernel) (by decide +kernel)
theorem l_X6_131 : Cond.methodLink RX6 131 yX0_countCopy ∈ am_G := am_in 590 (by decide +kernel) (by decide +kernel)
theorem l_X6_134 : Cond.methodLink RX6 134 yX3_at ∈ am_G := am_in 591 (by decide +kernel) (by decide +kernel)
theorem l_X6_139 : Cond.methodLink RX6 139 yX0_countByte ∈ am_G := am_in 592 (by decide +kernel) (by decide +kernel)
theorem l_X6_95 : Cond.methodLink RX6 95 yX5_shape ∈ am_G := am_in 593 (by decide +kernel) (by decide +kernel)
theorem l_X5_35 : Cond.methodLink RX5 35 yX5_sortLeaves ∈ am_G := am_in 597 (by decide +kernel) (by decide +kernel)
theorem l_X5_45 : Cond.methodLink RX5 45 yX7_symbols ∈ am_G := am_in 601 (by decide +kernel) (by decide +kernel)
theorem l_X5_59 : Cond.methodLink RX5 59 yX7_usesOf ∈ am_G := am_in 602 (by decide +kernel) (by decide +kernel)
theorem l_X5_63 : Cond.methodLink RX5 63 yX5_insertLeaf ∈ am_G := am_in 606 (by decide +kernel) (by decide +kernel)
theorem l_X5_39 : Cond.methodLink RX5 39 yX7_setAlone ∈ am_G := am_in 610 (by decide +kernel) (by decide +kernel)
theorem l_X5_49 : Cond.methodLink RX5 49 yX5_merge ∈ am_G := am_in 611 (by decide +kernel) (by decide +kernel)
theorem l_X5_66 : Cond.methodLink RX5 66 yX5_takeLeast ∈ am_G := am_in 615 (by decide +kernel) (by decide +kernel)
theorem l_X5_52 : Cond.methodLink RX5 52 yX5_measure ∈ am_G := am_in 619 (by decide +kernel) (by decide +kernel)
theorem l_X5_69 : Cond.methodLink RX5 69 yX7_setLength ∈ am_G := am_in 623 (by decide +kernel) (by decide +kernel)
theorem l_X5_55 : Cond.methodLink RX5 55 yX7_settle ∈ am_G := am_in 624 (by decide +kernel) (by decide +kernel)
theorem l_X6_99 : Cond.methodLink RX6 99 yX6_gatherTellers ∈ am_G := am_in 625 (by decide +kernel) (by decide +kernel)
theorem l_X6_142 : Cond.methodLink RX6 142 yX7_lengthsInUse ∈ am_G := am_in 629 (by decide +kernel) (by decide +kernel)
theorem l_X6_145 : Cond.methodLink RX6 145 yX7_zerosFrom ∈ am_G := am_in 633 (by decide +kernel) (by decide +kernel)
theorem l_X7_47 : Cond.methodLink RX7 47 yX7_lengthOf ∈ am_G := am_in 637 (by decide +kernel) (by decide +kernel)
theorem l_X6_148 : Cond.methodLink RX6 148 yX7_lengthOf ∈ am_G := am_in 641 (by decide +kernel) (by decide +kernel)
theorem l_X6_151 : Cond.methodLink RX6 151 yX6_addTeller ∈ am_G := am_in 642 (by decide +kernel) (by decide +kernel)
theorem l_X6_155 : Cond.methodLink RX6 155 yX6_addZeros ∈ am_G := am_in 646 (by decide +kernel) (by decide +kernel)
theorem l_X6_102 : Cond.methodLink RX6 102 yX6_packBlock ∈ am_G := am_in 650 (by decide +kernel) (by decide +kernel)
theorem l_X6_158 : Cond.methodLink RX6 158 yX1_give ∈ am_G := am_in 654 (by decide +kernel) (by decide +kernel)
theorem l_X1_24 : Cond.methodLink RX1 24 yX3_add ∈ am_G := am_in 658 (by decide +kernel) (by decide +kernel)
theorem l_X1_28 : Cond.methodLink RX1 28 yX3_mixIntoLast ∈ am_G := am_in 659 (by decide +kernel) (by decide +kernel)
theorem l_X6_161 : Cond.methodLink RX6 161 yX6_tellTree ∈ am_G := am_in 663 (by decide +kernel) (by decide +kernel)
theorem l_X6_175 : Cond.methodLink RX6 175 yX7_isAlone ∈ am_G := am_in 667 (by decide +kernel) (by decide +kernel)
theorem l_X6_179 : Cond.methodLink RX6 179 yX7_alone ∈ am_G := am_in 668 (by decide +kernel) (by decide +kernel)
theorem l_X6_182 : Cond.methodLink RX6 182 yX1_giveAlone ∈ am_G := am_in 669 (by decide +kernel) (by decide +kernel)
theorem l_X1_44 : Cond.methodLink RX1 44 yX1_give ∈ am_G := am_in 673 (by decide +kernel) (by decide +kernel)
theorem l_X6_185 : Cond.methodLink RX6 185 yX1_giveLength ∈ am_G := am_in 674 (by decide +kernel) (by decide +kernel)
theorem l_X1_48 : Cond.methodLink RX1 48 Lib.Math.min.name ∈ am_G := am_in 678 (by decide +kernel) (by decide +kernel)
theorem l_X6_165 : Cond.methodLink RX6 165 yX6_tellTreeC ∈ am_G := am_in 679 (by decide +kernel) (by decide +kernel)
theorem l_X6_168 : Cond.methodLink RX6 168 yX1_giveSymbol ∈ am_G := am_in 683 (by decide +kernel) (by decide +kernel)
theorem l_X1_31 : Cond.methodLink RX1 31 yX7_isAlone ∈ am_G := am_in 687 (by decide +kernel) (by decide +kernel)
theorem l_X1_37 : Cond.methodLink RX1 37 yX7_codeOf ∈ am_G := am_in 688 (by decide +kernel) (by decide +kernel)
theorem l_X1_41 : Cond.methodLink RX1 41 yX7_lengthOf ∈ am_G := am_in 692 (by decide +kernel) (by decide +kernel)
theorem l_X6_188 : Cond.methodLinkNest RX6 188 yX9_bitsBehind "ArchiveDesk" ∈ am_N := am_inN 693 (by decide +kernel) (by decide +kernel)
theorem l_X6_172 : Cond.methodLink RX6 172 yX6_packDistance ∈ am_G := am_in 694 (by decide +kernel) (by decide +kernel)
theorem l_X6_105 : Cond.methodLink RX6 105 yX1_given ∈ am_G := am_in 698 (by decide +kernel) (by decide +kernel)
theorem l_X6_109 : Cond.methodLink RX6 109 yX0_close ∈ am_G := am_in 702 (by decide +kernel) (by decide +kernel)
theorem l_L_45 : Cond.methodLink RL 45 yX9_back ∈ am_G := am_in 703 (by decide +kernel) (by decide +kernel)
theorem l_X9_85 : Cond.methodLink RX9 85 yX3_become ∈ am_G := am_in 707 (by decide +kernel) (by decide +kernel)
theorem l_X3_27 : Cond.methodLink RX3 27 Lib.Math.min.name ∈ am_G := am_in 711 (by decide +kernel) (by decide +kernel)
theorem l_X3_33 : Cond.methodLink RX3 33 arraycopyName ∈ am_G := am_in 712 (by decide +kernel) (by decide +kernel)
theorem l_L_50 : Cond.methodLink RL 50 yX9_made ∈ am_G := am_in 715 (by decide +kernel) (by decide +kernel)
theorem l_L_54 : Cond.methodLink RL 54 yX9_out ∈ am_G := am_in 719 (by decide +kernel) (by decide +kernel)
theorem l_L_58 : Cond.methodLink RL 58 yX9_told ∈ am_G := am_in 723 (by decide +kernel) (by decide +kernel)
theorem l_X9_89 : Cond.methodLink RX9 89 yX0_number ∈ am_G := am_in 727 (by decide +kernel) (by decide +kernel)
theorem l_L_62 : Cond.methodLink RL 62 yX9_length ∈ am_G := am_in 731 (by decide +kernel) (by decide +kernel)
theorem l_X9_92 : Cond.methodLink RX9 92 yX0_hasBlock ∈ am_G := am_in 735 (by decide +kernel) (by decide +kernel)
theorem l_X9_96 : Cond.methodLink RX9 96 yX0_tree ∈ am_G := am_in 739 (by decide +kernel) (by decide +kernel)
theorem l_X9_100 : Cond.methodLink RX9 100 yX7_lengthOf ∈ am_G := am_in 740 (by decide +kernel) (by decide +kernel)
theorem c_L_10 : Cond.classLink RL 10 RX10 ∈ am_G := am_in 741 (by decide +kernel) (by decide +kernel)
theorem l_L_12 : Cond.methodLink RL 12 yX10_init ∈ am_G := am_in 743 (by decide +kernel) (by decide +kernel)
theorem l_X10_1 : Cond.methodLink RX10 1 objectInit ∈ am_G := am_in 746 (by decide +kernel) (by decide +kernel)
theorem f_X10_7 : am_fl RX10 7 10 0 true (.array .int) := ⟨RX10, TX10, 23, cl10, by decide, am_in 747 (by decide +kernel) (by decide +kernel), rfl, by decide +kernel, rfl⟩
theorem f_X10_50 : am_fl RX10 50 10 1 false .int := ⟨RX10, TX10, 23, cl10, by decide, am_in 748 (by decide +kernel) (by decide +kernel), rfl, by decide +kernel, rfl⟩
theorem f_X10_13 : am_fl RX10 13 10 2 true (.array .int) := ⟨RX10, TX10, 23, cl10, by decide, am_in 749 (by decide +kernel) (by decide +kernel), rfl, by decide +kernel, rfl⟩
theorem f_X10_54 : am_fl RX10 54 10 3 false .int := ⟨RX10, TX10, 23, cl10, by decide, am_in 750 (by decide +kernel) (by decide +kernel), rfl, by decide +kernel, rfl⟩
theorem f_X10_16 : am_fl RX10 16 10 4 true (.array .int) := ⟨RX10, TX10, 23, cl10, by decide, am_in 751 (by decide +kernel) (by decide +kernel), rfl, by decide +kernel, rfl⟩
theorem f_X10_19 : am_fl RX10 19 10 5 true (.array .int) := ⟨RX10, TX10, 23, cl10, by decide, am_in 752 (by decide +kernel) (by decide +kernel), rfl, by decide +kernel, rfl⟩
theorem f_X10_22 : am_fl RX10 22 10 6 true (.array .int) := ⟨RX10, TX10, 23, cl10, by decide, am_in 753 (by decide +kernel) (by decide +kernel), rfl, by decide +kernel, rfl⟩
theorem f_X10_57 : am_fl RX10 57 10 7 false .boolean := ⟨RX10, TX10, 23, cl10, by decide, am_in 754 (by decide +kernel) (by decide +kernel), rfl, by decide +kernel, rfl⟩
theorem f_X10_61 : am_fl RX10 61 10 8 false .int := ⟨RX10, TX10, 23, cl10, by decide, am_in 755 (by decide +kernel) (by decide +kernel), rfl, by decide +kernel, rfl⟩
theorem f_X10_64 : am_fl RX10 64 10 9 false .int := ⟨RX10, TX10, 23, cl10, by decide, am_in 756 (by decide +kernel) (by decide +kernel), rfl, by decide +kernel, rfl⟩
theorem f_X10_67 : am_fl RX10 67 10 10 false .int := ⟨RX10, TX10, 23, cl10, by decide, am_in 757 (by decide +kernel) (by decide +kernel), rfl, by decide +kernel, rfl⟩
theorem f_X10_70 : am_fl RX10 70 10 11 false .int := ⟨RX10, TX10, 23, cl10, by decide, am_in 758 (by decide +kernel) (by decide +kernel), rfl, by decide +kernel, rfl⟩
theorem f_X10_83 : am_fl RX10 83 10 12 false .int := ⟨RX10, TX10, 23, cl10, by decide, am_in 759 (by decide +kernel) (by decide +kernel), rfl, by decide +kernel, rfl⟩
theorem f_X10_73 : am_fl RX10 73 10 13 false .int := ⟨RX10, TX10, 23, cl10, by decide, am_in 760 (by decide +kernel) (by decide +kernel), rfl, by decide +kernel, rfl⟩
theorem f_X10_25 : am_fl RX10 25 10 14 true (.array .int) := ⟨RX10, TX10, 23, cl10, by decide, am_in 761 (by decide +kernel) (by decide +kernel), rfl, by decide +kernel, rfl⟩
theorem f_X10_28 : am_fl RX10 28 10 15 true (.array .int) := ⟨RX10, TX10, 23, cl10, by decide, am_in 762 (by decide +kernel) (by decide +kernel), rfl, by decide +kernel, rfl⟩
theorem f_X10_31 : am_fl RX10 31 10 16 true (.array .int) := ⟨RX10, TX10, 23, cl10, by decide, am_in 763 (by decide +kernel) (by decide +kernel), rfl, by decide +kernel, rfl⟩
theorem f_X10_34 : am_fl RX10 34 10 17 true (.array .int) := ⟨RX10, TX10, 23, cl10, by decide, am_in 764 (by decide +kernel) (by decide +kernel), rfl, by decide +kernel, rfl⟩
theorem f_X10_37 : am_fl RX10 37 10 18 true (.array .boolean) := ⟨RX10, TX10, 23, cl10, by decide, am_in 765 (by decide +kernel) (by decide +kernel), rfl, by decide +kernel, rfl⟩
theorem f_X10_41 : am_fl RX10 41 10 19 true (.array .int) := ⟨RX10, TX10, 23, cl10, by decide, am_in 766 (by decide +kernel) (by decide +kernel), rfl, by decide +kernel, rfl⟩
theorem f_X10_44 : am_fl RX10 44 10 20 true (.array .int) := ⟨RX10, TX10, 23, cl10, by decide, am_in 767 (by decide +kernel) (by decide +kernel), rfl, by decide +kernel, rfl⟩
theorem f_X10_47 : am_fl RX10 47 10 21 true (.array .int) := ⟨RX10, TX10, 23, cl10, by decide, am_in 768 (by decide +kernel) (by decide +kernel), rfl, by decide +kernel, rfl⟩
theorem f_X10_127 : am_fl RX10 127 10 22 false .int := ⟨RX10, TX10, 23, cl10, by decide, am_in 769 (by decide +kernel) (by decide +kernel), rfl, by decide +kernel, rfl⟩
theorem l_L_17 : Cond.methodLink RL 17 yX10_feed ∈ am_G := am_in 818 (by decide +kernel) (by decide +kernel)
theorem l_L_22 : Cond.methodLink RL 22 yX10_fill ∈ am_G := am_in 822 (by decide +kernel) (by decide +kernel)
theorem l_L_27 : Cond.methodLink RL 27 yX10_peek ∈ am_G := am_in 826 (by decide +kernel) (by decide +kernel)
theorem l_L_32 : Cond.methodLink RL 32 yX10_poke ∈ am_G := am_in 830 (by decide +kernel) (by decide +kernel)
theorem l_L_36 : Cond.methodLink RL 36 yX10_clear ∈ am_G := am_in 834 (by decide +kernel) (by decide +kernel)
theorem l_L_40 : Cond.methodLink RL 40 yX10_read ∈ am_G := am_in 838 (by decide +kernel) (by decide +kernel)
theorem l_X10_107 : Cond.methodLink RX10 107 yX10_begin ∈ am_G := am_in 842 (by decide +kernel) (by decide +kernel)
theorem l_X10_76 : Cond.methodLink RX10 76 yX10_clearTrees ∈ am_G := am_in 846 (by decide +kernel) (by decide +kernel)
theorem l_X10_90 : Cond.methodLink RX10 90 yX10_take ∈ am_G := am_in 850 (by decide +kernel) (by decide +kernel)
theorem l_X10_86 : Cond.methodLink RX10 86 yX10_fails ∈ am_G := am_in 854 (by decide +kernel) (by decide +kernel)
theorem l_X10_110 : Cond.methodLink RX10 110 yX10_small ∈ am_G := am_in 858 (by decide +kernel) (by decide +kernel)
theorem l_X10_97 : Cond.methodLink RX10 97 yX10_many ∈ am_G := am_in 862 (by decide +kernel) (by decide +kernel)
theorem l_X10_79 : Cond.methodLink RX10 79 yX10_symbols ∈ am_G := am_in 866 (by decide +kernel) (by decide +kernel)
theorem l_X10_101 : Cond.methodLink RX10 101 yX10_complete ∈ am_G := am_in 869 (by decide +kernel) (by decide +kernel)
theorem l_X10_94 : Cond.methodLink RX10 94 yX10_number ∈ am_G := am_in 874 (by decide +kernel) (by decide +kernel)
theorem l_X10_114 : Cond.methodLink RX10 114 yX10_great ∈ am_G := am_in 878 (by decide +kernel) (by decide +kernel)
theorem l_X10_104 : Cond.methodLink RX10 104 yX10_symbol ∈ am_G := am_in 882 (by decide +kernel) (by decide +kernel)
theorem l_X10_117 : Cond.methodLink RX10 117 yX10_one ∈ am_G := am_in 886 (by decide +kernel) (by decide +kernel)
theorem l_L_44 : Cond.methodLink RL 44 yX10_write ∈ am_G := am_in 890 (by decide +kernel) (by decide +kernel)
theorem l_X10_157 : Cond.methodLink RX10 157 yX10_cut ∈ am_G := am_in 894 (by decide +kernel) (by decide +kernel)
theorem l_X10_120 : Cond.methodLink RX10 120 yX10_same ∈ am_G := am_in 898 (by decide +kernel) (by decide +kernel)
theorem l_X10_160 : Cond.methodLink RX10 160 yX10_block ∈ am_G := am_in 902 (by decide +kernel) (by decide +kernel)
theorem l_X10_130 : Cond.methodLink RX10 130 yX10_clearTimes ∈ am_G := am_in 906 (by decide +kernel) (by decide +kernel)
theorem l_X10_142 : Cond.methodLink RX10 142 yX10_merge ∈ am_G := am_in 910 (by decide +kernel) (by decide +kernel)
theorem l_X10_124 : Cond.methodLink RX10 124 yX10_least ∈ am_G := am_in 914 (by decide +kernel) (by decide +kernel)
theorem l_X10_145 : Cond.methodLink RX10 145 yX10_rank ∈ am_G := am_in 918 (by decide +kernel) (by decide +kernel)
theorem l_X10_139 : Cond.methodLink RX10 139 yX10_give ∈ am_G := am_in 921 (by decide +kernel) (by decide +kernel)
theorem l_X10_148 : Cond.methodLink RX10 148 yX10_giveSmall ∈ am_G := am_in 925 (by decide +kernel) (by decide +kernel)
theorem l_X10_133 : Cond.methodLink RX10 133 yX10_last ∈ am_G := am_in 929 (by decide +kernel) (by decide +kernel)
theorem l_X10_151 : Cond.methodLink RX10 151 yX10_tellAll ∈ am_G := am_in 933 (by decide +kernel) (by decide +kernel)
theorem l_X10_136 : Cond.methodLink RX10 136 yX10_tell ∈ am_G := am_in 937 (by decide +kernel) (by decide +kernel)
theorem l_X10_154 : Cond.methodLink RX10 154 yX10_giveSymbol ∈ am_G := am_in 941 (by decide +kernel) (by decide +kernel)
theorem l_L_49 : Cond.methodLink RL 49 yX10_back ∈ am_G := am_in 945 (by decide +kernel) (by decide +kernel)
theorem l_L_53 : Cond.methodLink RL 53 yX10_made ∈ am_G := am_in 949 (by decide +kernel) (by decide +kernel)
theorem l_L_57 : Cond.methodLink RL 57 yX10_out ∈ am_G := am_in 953 (by decide +kernel) (by decide +kernel)
theorem l_L_61 : Cond.methodLink RL 61 yX10_told ∈ am_G := am_in 957 (by decide +kernel) (by decide +kernel)
theorem l_L_65 : Cond.methodLink RL 65 yX10_length ∈ am_G := am_in 961 (by decide +kernel) (by decide +kernel)
end
section
abbrev m_X9_init : am_Y := (yX9_init, cX9_init, 1, none)
set_option maxRecDepth 100000 in
theorem k_X9_init : am_mi m_X9_init 0 := ⟨⟨am_in 67 rfl rfl, wd_in_X9, ⟨by decide +kernel, by decide +kernel, by decide +kernel⟩, by decide⟩, am_in 66 (by decide +kernel) (by decide +kernel), rfl, rfl⟩
abbrev m_X3_init : am_Y := (yX3_init, cX3_init, 2, none)
set_option maxRecDepth 100000 in
theorem k_X3_init : am_mi m_X3_init 1 := ⟨⟨am_in 75 rfl rfl, wd_in_X3, ⟨by decide +kernel, by decide +kernel, by decide +kernel⟩, by decide⟩, am_in 74 (by decide +kernel) (by decide +kernel), rfl, rfl⟩
abbrev m_X0_init : am_Y := (yX0_init, cX0_init, 1, none)
set_option maxRecDepth 100000 in
theorem k_X0_init : am_mi m_X0_init 0 := ⟨⟨am_in 90 rfl rfl, wd_in_X0, ⟨by decide +kernel, by decide +kernel, by decide +kernel⟩, by decide⟩, am_in 89 (by decide +kernel) (by decide +kernel), rfl, rfl⟩
abbrev m_X7_init : am_Y := (yX7_init, cX7_init, 2, none)
set_option maxRecDepth 100000 in
theorem k_X7_init : am_mi m_X7_init 1 := ⟨⟨am_in 96 rfl rfl, wd_in_X7, ⟨by decide +kernel, by decide +kernel, by decide +kernel⟩, by decide⟩, am_in 95 (by decide +kernel) (by decide +kernel), rfl, rfl⟩
abbrev m_X8_init : am_Y := (yX8_init, cX8_init, 4, none)
set_option maxRecDepth 100000 in
theorem k_X8_init : am_mi m_X8_init 3 := ⟨⟨am_in 152 rfl rfl, wd_in_X8, ⟨by decide +kernel, by decide +kernel, by decide +kernel⟩, by decide⟩, am_in 151 (by decide +kernel) (by decide +kernel), rfl, rfl⟩
abbrev m_X2_init : am_Y := (yX2_init, cX2_init, 2, none)
set_option maxRecDepth 100000 in
theorem k_X2_init : am_mi m_X2_init 1 := ⟨⟨am_in 158 rfl rfl, wd_in_X2, ⟨by decide +kernel, by decide +kernel, by decide +kernel⟩, by decide⟩, am_in 157 (by decide +kernel) (by decide +kernel), rfl, rfl⟩
abbrev m_X0_tree : am_Y := (yX0_tree, cX0_tree, 2, (some (.object "ArchiveDesk$Tree")))
set_option maxRecDepth 100000 in
theorem k_X0_tree : am_mv m_X0_tree 1 0 := ⟨⟨am_in 173 rfl rfl, wd_in_X0, ⟨by decide +kernel, by decide +kernel, by decide +kernel⟩, by decide⟩, am_in 171 (by decide +kernel) (by decide +kernel), am_in 172 (by decide +kernel) (by decide +kernel), TX0, 8, rfl⟩
abbrev m_X6_init : am_Y := (yX6_init, cX6_init, 4, none)
set_option maxRecDepth 100000 in
theorem k_X6_init : am_mi m_X6_init 3 := ⟨⟨am_in 200 rfl rfl, wd_in_X6, ⟨by decide +kernel, by decide +kernel, by decide +kernel⟩, by decide⟩, am_in 199 (by decide +kernel) (by decide +kernel), rfl, rfl⟩
abbrev m_X1_init : am_Y := (yX1_init, cX1_init, 2, none)
set_option maxRecDepth 100000 in
theorem k_X1_init : am_mi m_X1_init 1 := ⟨⟨am_in 206 rfl rfl, wd_in_X1, ⟨by decide +kernel, by decide +kernel, by decide +kernel⟩, by decide⟩, am_in 205 (by decide +kernel) (by decide +kernel), rfl, rfl⟩
abbrev m_X4_init : am_Y := (yX4_init, cX4_init, 3, none)
set_option maxRecDepth 100000 in
theorem k_X4_init : am_mi m_X4_init 2 := ⟨⟨am_in 219 rfl rfl, wd_in_X4, ⟨by decide +kernel, by decide +kernel, by decide +kernel⟩, by decide⟩, am_in 218 (by decide +kernel) (by decide +kernel), rfl, rfl⟩
abbrev m_X5_init : am_Y := (yX5_init, cX5_init, 2, none)
set_option maxRecDepth 100000 in
theorem k_X5_init : am_mi m_X5_init 1 := ⟨⟨am_in 244 rfl rfl, wd_in_X5, ⟨by decide +kernel, by decide +kernel, by decide +kernel⟩, by decide⟩, am_in 243 (by decide +kernel) (by decide +kernel), rfl, rfl⟩
abbrev m_X9_feed : am_Y := (yX9_feed, cX9_feed, 6, (some .int))
set_option maxRecDepth 100000 in
theorem k_X9_feed : am_mv m_X9_feed 5 9 := ⟨⟨am_in 334 rfl rfl, wd_in_X9, ⟨by decide +kernel, by decide +kernel, by decide +kernel⟩, by decide⟩, am_in 332 (by decide +kernel) (by decide +kernel), am_in 333 (by decide +kernel) (by decide +kernel), TX9, 5, rfl⟩
abbrev m_X3_hasRoomFor : am_Y := (yX3_hasRoomFor, cX3_hasRoomFor, 2, (some .boolean))
set_option maxRecDepth 100000 in
theorem k_X3_hasRoomFor : am_mv m_X3_hasRoomFor 1 3 := ⟨⟨am_in 338 rfl rfl, wd_in_X3, ⟨by decide +kernel, by decide +kernel, by decide +kernel⟩, by decide⟩, am_in 336 (by decide +kernel) (by decide +kernel), am_in 337 (by decide +kernel) (by decide +kernel), TX3, 2, rfl⟩
abbrev m_X3_addWord : am_Y := (yX3_addWord, cX3_addWord, 3, none)
set_option maxRecDepth 100000 in
theorem k_X3_addWord : am_mv m_X3_addWord 1 3 := ⟨⟨am_in 342 rfl rfl, wd_in_X3, ⟨by decide +kernel, by decide +kernel, by decide +kernel⟩, by decide⟩, am_in 340 (by decide +kernel) (by decide +kernel), am_in 341 (by decide +kernel) (by decide +kernel), TX3, 2, rfl⟩
abbrev m_X3_add : am_Y := (yX3_add, cX3_add, 2, none)
set_option maxRecDepth 100000 in
theorem k_X3_add : am_mv m_X3_add 1 3 := ⟨⟨am_in 346 rfl rfl, wd_in_X3, ⟨by decide +kernel, by decide +kernel, by decide +kernel⟩, by decide⟩, am_in 344 (by decide +kernel) (by decide +kernel), am_in 345 (by decide +kernel) (by decide +kernel), TX3, 2, rfl⟩
abbrev m_X3_count : am_Y := (yX3_count, cX3_count, 1, (some .int))
set_option maxRecDepth 100000 in
theorem k_X3_count : am_mv m_X3_count 0 3 := ⟨⟨am_in 350 rfl rfl, wd_in_X3, ⟨by decide +kernel, by decide +kernel, by decide +kernel⟩, by decide⟩, am_in 348 (by decide +kernel) (by decide +kernel), am_in 349 (by decide +kernel) (by decide +kernel), TX3, 2, rfl⟩
abbrev m_X9_fill : am_Y := (yX9_fill, cX9_fill, 4, (some .int))
set_option maxRecDepth 100000 in
theorem k_X9_fill : am_mv m_X9_fill 2 9 := ⟨⟨am_in 354 rfl rfl, wd_in_X9, ⟨by decide +kernel, by decide +kernel, by decide +kernel⟩, by decide⟩, am_in 352 (by decide +kernel) (by decide +kernel), am_in 353 (by decide +kernel) (by decide +kernel), TX9, 5, rfl⟩
abbrev m_X9_isByte : am_Y := (yX9_isByte, cX9_isByte, 1, (some .boolean))
set_option maxRecDepth 100000 in
theorem k_X9_isByte : am_ms m_X9_isByte 1 := ⟨⟨am_in 357 rfl rfl, wd_in_X9, ⟨by decide +kernel, by decide +kernel, by decide +kernel⟩, by decide⟩, am_in 356 (by decide +kernel) (by decide +kernel)⟩
abbrev m_X9_peek : am_Y := (yX9_peek, cX9_peek, 2, (some .int))
set_option maxRecDepth 100000 in
theorem k_X9_peek : am_mv m_X9_peek 1 9 := ⟨⟨am_in 362 rfl rfl, wd_in_X9, ⟨by decide +kernel, by decide +kernel, by decide +kernel⟩, by decide⟩, am_in 360 (by decide +kernel) (by decide +kernel), am_in 361 (by decide +kernel) (by decide +kernel), TX9, 5, rfl⟩
abbrev m_X3_at : am_Y := (yX3_at, cX3_at, 2, (some .int))
set_option maxRecDepth 100000 in
theorem k_X3_at : am_mv m_X3_at 1 3 := ⟨⟨am_in 366 rfl rfl, wd_in_X3, ⟨by decide +kernel, by decide +kernel, by decide +kernel⟩, by decide⟩, am_in 364 (by decide +kernel) (by decide +kernel), am_in 365 (by decide +kernel) (by decide +kernel), TX3, 2, rfl⟩
abbrev m_X3_has : am_Y := (yX3_has, cX3_has, 2, (some .boolean))
set_option maxRecDepth 100000 in
theorem k_X3_has : am_mv m_X3_has 1 3 := ⟨⟨am_in 370 rfl rfl, wd_in_X3, ⟨by decide +kernel, by decide +kernel, by decide +kernel⟩, by decide⟩, am_in 368 (by decide +kernel) (by decide +kernel), am_in 369 (by decide +kernel) (by decide +kernel), TX3, 2, rfl⟩
abbrev m_X9_poke : am_Y := (yX9_poke, cX9_poke, 3, (some .boolean))
set_option maxRecDepth 100000 in
theorem k_X9_poke : am_mv m_X9_poke 2 9 := ⟨⟨am_in 374 rfl rfl, wd_in_X9, ⟨by decide +kernel, by decide +kernel, by decide +kernel⟩, by decide⟩, am_in 372 (by decide +kernel) (by decide +kernel), am_in 373 (by decide +kernel) (by decide +kernel), TX9, 5, rfl⟩
abbrev m_X3_change : am_Y := (yX3_change, cX3_change, 3, none)
set_option maxRecDepth 100000 in
theorem k_X3_change : am_mv m_X3_change 2 3 := ⟨⟨am_in 379 rfl rfl, wd_in_X3, ⟨by decide +kernel, by decide +kernel, by decide +kernel⟩, by decide⟩, am_in 377 (by decide +kernel) (by decide +kernel), am_in 378 (by decide +kernel) (by decide +kernel), TX3, 2, rfl⟩
abbrev m_X9_clear : am_Y := (yX9_clear, cX9_clear, 1, none)
set_option maxRecDepth 100000 in
theorem k_X9_clear : am_mv m_X9_clear 0 9 := ⟨⟨am_in 383 rfl rfl, wd_in_X9, ⟨by decide +kernel, by decide +kernel, by decide +kernel⟩, by decide⟩, am_in 381 (by decide +kernel) (by decide +kernel), am_in 382 (by decide +kernel) (by decide +kernel), TX9, 5, rfl⟩
abbrev m_X3_empty : am_Y := (yX3_empty, cX3_empty, 1, none)
set_option maxRecDepth 100000 in
theorem k_X3_empty : am_mv m_X3_empty 0 3 := ⟨⟨am_in 387 rfl rfl, wd_in_X3, ⟨by decide +kernel, by decide +kernel, by decide +kernel⟩, by decide⟩, am_in 385 (by decide +kernel) (by decide +kernel), am_in 386 (by decide +kernel) (by decide +kernel), TX3, 2, rfl⟩
abbrev m_X9_read : am_Y := (yX9_read, cX9_read, 3, (some .int))
set_option maxRecDepth 100000 in
theorem k_X9_read : am_mv m_X9_read 2 9 := ⟨⟨am_in 391 rfl rfl, wd_in_X9, ⟨by decide +kernel, by decide +kernel, by decide +kernel⟩, by decide⟩, am_in 389 (by decide +kernel) (by decide +kernel), am_in 390 (by decide +kernel) (by decide +kernel), TX9, 5, rfl⟩
abbrev m_X9_isOnTape : am_Y := (yX9_isOnTape, cX9_isOnTape, 2, (some .boolean))
set_option maxRecDepth 100000 in
theorem k_X9_isOnTape : am_mv m_X9_isOnTape 1 9 := ⟨⟨am_in 395 rfl rfl, wd_in_X9, ⟨by decide +kernel, by decide +kernel, by decide +kernel⟩, by decide⟩, am_in 394 (by decide +kernel) (by decide +kernel), am_in 0 (by decide +kernel) (by decide +kernel), TX9, 5, rfl⟩
abbrev m_X8_unpack : am_Y := (yX8_unpack, cX8_unpack, 5, (some .int))
set_option maxRecDepth 100000 in
theorem k_X8_unpack : am_mv m_X8_unpack 2 8 := ⟨⟨am_in 399 rfl rfl, wd_in_X8, ⟨by decide +kernel, by decide +kernel, by decide +kernel⟩, by decide⟩, am_in 397 (by decide +kernel) (by decide +kernel), am_in 398 (by decide +kernel) (by decide +kernel), TX8, 7, rfl⟩
abbrev m_X2_open : am_Y := (yX2_open, cX2_open, 2, none)
set_option maxRecDepth 100000 in
theorem k_X2_open : am_mv m_X2_open 1 2 := ⟨⟨am_in 403 rfl rfl, wd_in_X2, ⟨by decide +kernel, by decide +kernel, by decide +kernel⟩, by decide⟩, am_in 401 (by decide +kernel) (by decide +kernel), am_in 402 (by decide +kernel) (by decide +kernel), TX2, 3, rfl⟩
abbrev m_X0_open : am_Y := (yX0_open, cX0_open, 1, none)
set_option maxRecDepth 100000 in
theorem k_X0_open : am_mv m_X0_open 0 0 := ⟨⟨am_in 412 rfl rfl, wd_in_X0, ⟨by decide +kernel, by decide +kernel, by decide +kernel⟩, by decide⟩, am_in 410 (by decide +kernel) (by decide +kernel), am_in 411 (by decide +kernel) (by decide +kernel), TX0, 8, rfl⟩
abbrev m_X8_wantsMore : am_Y := (yX8_wantsMore, cX8_wantsMore, 1, (some .boolean))
set_option maxRecDepth 100000 in
theorem k_X8_wantsMore : am_mv m_X8_wantsMore 0 8 := ⟨⟨am_in 416 rfl rfl, wd_in_X8, ⟨by decide +kernel, by decide +kernel, by decide +kernel⟩, by decide⟩, am_in 415 (by decide +kernel) (by decide +kernel), am_in 1 (by decide +kernel) (by decide +kernel), TX8, 7, rfl⟩
abbrev m_X8_unpackBlock : am_Y := (yX8_unpackBlock, cX8_unpackBlock, 4, (some .int))
set_option maxRecDepth 100000 in
theorem k_X8_unpackBlock : am_mv m_X8_unpackBlock 0 8 := ⟨⟨am_in 421 rfl rfl, wd_in_X8, ⟨by decide +kernel, by decide +kernel, by decide +kernel⟩, by decide⟩, am_in 420 (by decide +kernel) (by decide +kernel), am_in 2 (by decide +kernel) (by decide +kernel), TX8, 7, rfl⟩
abbrev m_X0_beginBlock : am_Y := (yX0_beginBlock, cX0_beginBlock, 1, none)
set_option maxRecDepth 100000 in
theorem k_X0_beginBlock : am_mv m_X0_beginBlock 0 0 := ⟨⟨am_in 425 rfl rfl, wd_in_X0, ⟨by decide +kernel, by decide +kernel, by decide +kernel⟩, by decide⟩, am_in 423 (by decide +kernel) (by decide +kernel), am_in 424 (by decide +kernel) (by decide +kernel), TX0, 8, rfl⟩
abbrev m_X7_wipe : am_Y := (yX7_wipe, cX7_wipe, 1, none)
set_option maxRecDepth 100000 in
theorem k_X7_wipe : am_mv m_X7_wipe 0 7 := ⟨⟨am_in 429 rfl rfl, wd_in_X7, ⟨by decide +kernel, by decide +kernel, by decide +kernel⟩, by decide⟩, am_in 427 (by decide +kernel) (by decide +kernel), am_in 428 (by decide +kernel) (by decide +kernel), TX7, 8, rfl⟩
abbrev m_J7_fill_53178 : am_Y := (yJ7_fill_53178, cJ7_fill_53178, 4, none)
set_option maxRecDepth 100000 in
theorem k_J7_fill_53178 : am_ms m_J7_fill_53178 2 := ⟨⟨am_in 432 rfl rfl, wd_in_J7, ⟨by decide +kernel, by decide +kernel, by decide +kernel⟩, by decide⟩, am_in 431 (by decide +kernel) (by decide +kernel)⟩
abbrev m_X2_take : am_Y := (yX2_take, cX2_take, 4, (some .int))
set_option maxRecDepth 100000 in
theorem k_X2_take : am_mv m_X2_take 1 2 := ⟨⟨am_in 436 rfl rfl, wd_in_X2, ⟨by decide +kernel, by decide +kernel, by decide +kernel⟩, by decide⟩, am_in 434 (by decide +kernel) (by decide +kernel), am_in 435 (by decide +kernel) (by decide +kernel), TX2, 3, rfl⟩
abbrev m_X8_takeTree : am_Y := (yX8_takeTree, cX8_takeTree, 6, (some .int))
set_option maxRecDepth 100000 in
theorem k_X8_takeTree : am_mv m_X8_takeTree 2 8 := ⟨⟨am_in 440 rfl rfl, wd_in_X8, ⟨by decide +kernel, by decide +kernel, by decide +kernel⟩, by decide⟩, am_in 439 (by decide +kernel) (by decide +kernel), am_in 3 (by decide +kernel) (by decide +kernel), TX8, 7, rfl⟩
abbrev m_X7_symbols : am_Y := (yX7_symbols, cX7_symbols, 1, (some .int))
set_option maxRecDepth 100000 in
theorem k_X7_symbols : am_mv m_X7_symbols 0 7 := ⟨⟨am_in 444 rfl rfl, wd_in_X7, ⟨by decide +kernel, by decide +kernel, by decide +kernel⟩, by decide⟩, am_in 442 (by decide +kernel) (by decide +kernel), am_in 443 (by decide +kernel) (by decide +kernel), TX7, 8, rfl⟩
abbrev m_X8_takeAlone : am_Y := (yX8_takeAlone, cX8_takeAlone, 4, (some .int))
set_option maxRecDepth 100000 in
theorem k_X8_takeAlone : am_mv m_X8_takeAlone 2 8 := ⟨⟨am_in 448 rfl rfl, wd_in_X8, ⟨by decide +kernel, by decide +kernel, by decide +kernel⟩, by decide⟩, am_in 447 (by decide +kernel) (by decide +kernel), am_in 4 (by decide +kernel) (by decide +kernel), TX8, 7, rfl⟩
abbrev m_X7_has : am_Y := (yX7_has, cX7_has, 2, (some .boolean))
set_option maxRecDepth 100000 in
theorem k_X7_has : am_mv m_X7_has 1 7 := ⟨⟨am_in 452 rfl rfl, wd_in_X7, ⟨by decide +kernel, by decide +kernel, by decide +kernel⟩, by decide⟩, am_in 450 (by decide +kernel) (by decide +kernel), am_in 451 (by decide +kernel) (by decide +kernel), TX7, 8, rfl⟩
abbrev m_X7_setAlone : am_Y := (yX7_setAlone, cX7_setAlone, 2, none)
set_option maxRecDepth 100000 in
theorem k_X7_setAlone : am_mv m_X7_setAlone 1 7 := ⟨⟨am_in 456 rfl rfl, wd_in_X7, ⟨by decide +kernel, by decide +kernel, by decide +kernel⟩, by decide⟩, am_in 454 (by decide +kernel) (by decide +kernel), am_in 455 (by decide +kernel) (by decide +kernel), TX7, 8, rfl⟩
abbrev m_X8_takeLengthsByT : am_Y := (yX8_takeLengthsByT, cX8_takeLengthsByT, 6, (some .int))
set_option maxRecDepth 100000 in
theorem k_X8_takeLengthsByT : am_mv m_X8_takeLengthsByT 1 8 := ⟨⟨am_in 460 rfl rfl, wd_in_X8, ⟨by decide +kernel, by decide +kernel, by decide +kernel⟩, by decide⟩, am_in 459 (by decide +kernel) (by decide +kernel), am_in 5 (by decide +kernel) (by decide +kernel), TX8, 7, rfl⟩
abbrev m_X2_takeSymbol : am_Y := (yX2_takeSymbol, cX2_takeSymbol, 6, (some .int))
set_option maxRecDepth 100000 in
theorem k_X2_takeSymbol : am_mv m_X2_takeSymbol 1 2 := ⟨⟨am_in 464 rfl rfl, wd_in_X2, ⟨by decide +kernel, by decide +kernel, by decide +kernel⟩, by decide⟩, am_in 462 (by decide +kernel) (by decide +kernel), am_in 463 (by decide +kernel) (by decide +kernel), TX2, 3, rfl⟩
abbrev m_X7_isAlone : am_Y := (yX7_isAlone, cX7_isAlone, 1, (some .boolean))
set_option maxRecDepth 100000 in
theorem k_X7_isAlone : am_mv m_X7_isAlone 0 7 := ⟨⟨am_in 468 rfl rfl, wd_in_X7, ⟨by decide +kernel, by decide +kernel, by decide +kernel⟩, by decide⟩, am_in 466 (by decide +kernel) (by decide +kernel), am_in 467 (by decide +kernel) (by decide +kernel), TX7, 8, rfl⟩
abbrev m_X7_alone : am_Y := (yX7_alone, cX7_alone, 1, (some .int))
set_option maxRecDepth 100000 in
theorem k_X7_alone : am_mv m_X7_alone 0 7 := ⟨⟨am_in 472 rfl rfl, wd_in_X7, ⟨by decide +kernel, by decide +kernel, by decide +kernel⟩, by decide⟩, am_in 470 (by decide +kernel) (by decide +kernel), am_in 471 (by decide +kernel) (by decide +kernel), TX7, 8, rfl⟩
abbrev m_X7_symbolOf : am_Y := (yX7_symbolOf, cX7_symbolOf, 4, (some .int))
set_option maxRecDepth 100000 in
theorem k_X7_symbolOf : am_mv m_X7_symbolOf 2 7 := ⟨⟨am_in 477 rfl rfl, wd_in_X7, ⟨by decide +kernel, by decide +kernel, by decide +kernel⟩, by decide⟩, am_in 475 (by decide +kernel) (by decide +kernel), am_in 476 (by decide +kernel) (by decide +kernel), TX7, 8, rfl⟩
abbrev m_X7_setLength : am_Y := (yX7_setLength, cX7_setLength, 3, none)
set_option maxRecDepth 100000 in
theorem k_X7_setLength : am_mv m_X7_setLength 2 7 := ⟨⟨am_in 481 rfl rfl, wd_in_X7, ⟨by decide +kernel, by decide +kernel, by decide +kernel⟩, by decide⟩, am_in 479 (by decide +kernel) (by decide +kernel), am_in 480 (by decide +kernel) (by decide +kernel), TX7, 8, rfl⟩
abbrev m_X9_bitsBehind : am_Y := (yX9_bitsBehind, cX9_bitsBehind, 1, (some .int))
set_option maxRecDepth 100000 in
theorem k_X9_bitsBehind : am_ms m_X9_bitsBehind 1 := ⟨⟨am_in 485 rfl rfl, wd_in_X9, ⟨by decide +kernel, by decide +kernel, by decide +kernel⟩, by decide⟩, am_in 484 (by decide +kernel) (by decide +kernel)⟩
abbrev m_X9_leastOf : am_Y := (yX9_leastOf, cX9_leastOf, 1, (some .int))
set_option maxRecDepth 100000 in
theorem k_X9_leastOf : am_ms m_X9_leastOf 1 := ⟨⟨am_in 488 rfl rfl, wd_in_X9, ⟨by decide +kernel, by decide +kernel, by decide +kernel⟩, by decide⟩, am_in 487 (by decide +kernel) (by decide +kernel)⟩
abbrev m_X8_takeLengths : am_Y := (yX8_takeLengths, cX8_takeLengths, 7, (some .int))
set_option maxRecDepth 100000 in
theorem k_X8_takeLengths : am_mv m_X8_takeLengths 3 8 := ⟨⟨am_in 492 rfl rfl, wd_in_X8, ⟨by decide +kernel, by decide +kernel, by decide +kernel⟩, by decide⟩, am_in 491 (by decide +kernel) (by decide +kernel), am_in 6 (by decide +kernel) (by decide +kernel), TX8, 7, rfl⟩
abbrev m_X2_takeLength : am_Y := (yX2_takeLength, cX2_takeLength, 3, (some .int))
set_option maxRecDepth 100000 in
theorem k_X2_takeLength : am_mv m_X2_takeLength 0 2 := ⟨⟨am_in 496 rfl rfl, wd_in_X2, ⟨by decide +kernel, by decide +kernel, by decide +kernel⟩, by decide⟩, am_in 494 (by decide +kernel) (by decide +kernel), am_in 495 (by decide +kernel) (by decide +kernel), TX2, 3, rfl⟩
abbrev m_X7_settle : am_Y := (yX7_settle, cX7_settle, 5, (some .boolean))
set_option maxRecDepth 100000 in
theorem k_X7_settle : am_mv m_X7_settle 0 7 := ⟨⟨am_in 500 rfl rfl, wd_in_X7, ⟨by decide +kernel, by decide +kernel, by decide +kernel⟩, by decide⟩, am_in 498 (by decide +kernel) (by decide +kernel), am_in 499 (by decide +kernel) (by decide +kernel), TX7, 8, rfl⟩
abbrev m_X7_number : am_Y := (yX7_number, cX7_number, 3, none)
set_option maxRecDepth 100000 in
theorem k_X7_number : am_mv m_X7_number 0 7 := ⟨⟨am_in 505 rfl rfl, wd_in_X7, ⟨by decide +kernel, by decide +kernel, by decide +kernel⟩, by decide⟩, am_in 504 (by decide +kernel) (by decide +kernel), am_in 7 (by decide +kernel) (by decide +kernel), TX7, 8, rfl⟩
abbrev m_X8_unpackCode : am_Y := (yX8_unpackCode, cX8_unpackCode, 3, (some .int))
set_option maxRecDepth 100000 in
theorem k_X8_unpackCode : am_mv m_X8_unpackCode 0 8 := ⟨⟨am_in 509 rfl rfl, wd_in_X8, ⟨by decide +kernel, by decide +kernel, by decide +kernel⟩, by decide⟩, am_in 508 (by decide +kernel) (by decide +kernel), am_in 8 (by decide +kernel) (by decide +kernel), TX8, 7, rfl⟩
abbrev m_X0_countByte : am_Y := (yX0_countByte, cX0_countByte, 1, none)
set_option maxRecDepth 100000 in
theorem k_X0_countByte : am_mv m_X0_countByte 0 0 := ⟨⟨am_in 514 rfl rfl, wd_in_X0, ⟨by decide +kernel, by decide +kernel, by decide +kernel⟩, by decide⟩, am_in 512 (by decide +kernel) (by decide +kernel), am_in 513 (by decide +kernel) (by decide +kernel), TX0, 8, rfl⟩
abbrev m_X2_takeDistance : am_Y := (yX2_takeDistance, cX2_takeDistance, 4, (some .int))
set_option maxRecDepth 100000 in
theorem k_X2_takeDistance : am_mv m_X2_takeDistance 1 2 := ⟨⟨am_in 518 rfl rfl, wd_in_X2, ⟨by decide +kernel, by decide +kernel, by decide +kernel⟩, by decide⟩, am_in 516 (by decide +kernel) (by decide +kernel), am_in 517 (by decide +kernel) (by decide +kernel), TX2, 3, rfl⟩
abbrev m_X8_copy : am_Y := (yX8_copy, cX8_copy, 5, (some .int))
set_option maxRecDepth 100000 in
theorem k_X8_copy : am_mv m_X8_copy 2 8 := ⟨⟨am_in 523 rfl rfl, wd_in_X8, ⟨by decide +kernel, by decide +kernel, by decide +kernel⟩, by decide⟩, am_in 522 (by decide +kernel) (by decide +kernel), am_in 9 (by decide +kernel) (by decide +kernel), TX8, 7, rfl⟩
abbrev m_X0_countCopy : am_Y := (yX0_countCopy, cX0_countCopy, 1, none)
set_option maxRecDepth 100000 in
theorem k_X0_countCopy : am_mv m_X0_countCopy 0 0 := ⟨⟨am_in 527 rfl rfl, wd_in_X0, ⟨by decide +kernel, by decide +kernel, by decide +kernel⟩, by decide⟩, am_in 525 (by decide +kernel) (by decide +kernel), am_in 526 (by decide +kernel) (by decide +kernel), TX0, 8, rfl⟩
abbrev m_X2_taken : am_Y := (yX2_taken, cX2_taken, 1, (some .int))
set_option maxRecDepth 100000 in
theorem k_X2_taken : am_mv m_X2_taken 0 2 := ⟨⟨am_in 532 rfl rfl, wd_in_X2, ⟨by decide +kernel, by decide +kernel, by decide +kernel⟩, by decide⟩, am_in 530 (by decide +kernel) (by decide +kernel), am_in 531 (by decide +kernel) (by decide +kernel), TX2, 3, rfl⟩
abbrev m_X0_close : am_Y := (yX0_close, cX0_close, 2, none)
set_option maxRecDepth 100000 in
theorem k_X0_close : am_mv m_X0_close 1 0 := ⟨⟨am_in 536 rfl rfl, wd_in_X0, ⟨by decide +kernel, by decide +kernel, by decide +kernel⟩, by decide⟩, am_in 534 (by decide +kernel) (by decide +kernel), am_in 535 (by decide +kernel) (by decide +kernel), TX0, 8, rfl⟩
abbrev m_X9_write : am_Y := (yX9_write, cX9_write, 2, (some .int))
set_option maxRecDepth 100000 in
theorem k_X9_write : am_mv m_X9_write 1 9 := ⟨⟨am_in 540 rfl rfl, wd_in_X9, ⟨by decide +kernel, by decide +kernel, by decide +kernel⟩, by decide⟩, am_in 538 (by decide +kernel) (by decide +kernel), am_in 539 (by decide +kernel) (by decide +kernel), TX9, 5, rfl⟩
abbrev m_X6_pack : am_Y := (yX6_pack, cX6_pack, 4, none)
set_option maxRecDepth 100000 in
theorem k_X6_pack : am_mv m_X6_pack 1 6 := ⟨⟨am_in 544 rfl rfl, wd_in_X6, ⟨by decide +kernel, by decide +kernel, by decide +kernel⟩, by decide⟩, am_in 542 (by decide +kernel) (by decide +kernel), am_in 543 (by decide +kernel) (by decide +kernel), TX6, 14, rfl⟩
abbrev m_X1_open : am_Y := (yX1_open, cX1_open, 1, none)
set_option maxRecDepth 100000 in
theorem k_X1_open : am_mv m_X1_open 0 1 := ⟨⟨am_in 548 rfl rfl, wd_in_X1, ⟨by decide +kernel, by decide +kernel, by decide +kernel⟩, by decide⟩, am_in 546 (by decide +kernel) (by decide +kernel), am_in 547 (by decide +kernel) (by decide +kernel), TX1, 2, rfl⟩
abbrev m_X4_open : am_Y := (yX4_open, cX4_open, 4, none)
set_option maxRecDepth 100000 in
theorem k_X4_open : am_mv m_X4_open 1 4 := ⟨⟨am_in 554 rfl rfl, wd_in_X4, ⟨by decide +kernel, by decide +kernel, by decide +kernel⟩, by decide⟩, am_in 552 (by decide +kernel) (by decide +kernel), am_in 553 (by decide +kernel) (by decide +kernel), TX4, 6, rfl⟩
abbrev m_X4_chainOf : am_Y := (yX4_chainOf, cX4_chainOf, 2, (some .int))
set_option maxRecDepth 100000 in
theorem k_X4_chainOf : am_mv m_X4_chainOf 1 4 := ⟨⟨am_in 560 rfl rfl, wd_in_X4, ⟨by decide +kernel, by decide +kernel, by decide +kernel⟩, by decide⟩, am_in 559 (by decide +kernel) (by decide +kernel), am_in 10 (by decide +kernel) (by decide +kernel), TX4, 6, rfl⟩
abbrev m_X6_gatherCodes : am_Y := (yX6_gatherCodes, cX6_gatherCodes, 5, (some .int))
set_option maxRecDepth 100000 in
theorem k_X6_gatherCodes : am_mv m_X6_gatherCodes 2 6 := ⟨⟨am_in 566 rfl rfl, wd_in_X6, ⟨by decide +kernel, by decide +kernel, by decide +kernel⟩, by decide⟩, am_in 565 (by decide +kernel) (by decide +kernel), am_in 11 (by decide +kernel) (by decide +kernel), TX6, 14, rfl⟩
abbrev m_X4_find : am_Y := (yX4_find, cX4_find, 6, (some .boolean))
set_option maxRecDepth 100000 in
theorem k_X4_find : am_mv m_X4_find 1 4 := ⟨⟨am_in 570 rfl rfl, wd_in_X4, ⟨by decide +kernel, by decide +kernel, by decide +kernel⟩, by decide⟩, am_in 568 (by decide +kernel) (by decide +kernel), am_in 569 (by decide +kernel) (by decide +kernel), TX4, 6, rfl⟩
abbrev m_X4_sameBytes : am_Y := (yX4_sameBytes, cX4_sameBytes, 5, (some .int))
set_option maxRecDepth 100000 in
theorem k_X4_sameBytes : am_mv m_X4_sameBytes 3 4 := ⟨⟨am_in 574 rfl rfl, wd_in_X4, ⟨by decide +kernel, by decide +kernel, by decide +kernel⟩, by decide⟩, am_in 573 (by decide +kernel) (by decide +kernel), am_in 12 (by decide +kernel) (by decide +kernel), TX4, 6, rfl⟩
abbrev m_X4_foundLength : am_Y := (yX4_foundLength, cX4_foundLength, 1, (some .int))
set_option maxRecDepth 100000 in
theorem k_X4_foundLength : am_mv m_X4_foundLength 0 4 := ⟨⟨am_in 578 rfl rfl, wd_in_X4, ⟨by decide +kernel, by decide +kernel, by decide +kernel⟩, by decide⟩, am_in 576 (by decide +kernel) (by decide +kernel), am_in 577 (by decide +kernel) (by decide +kernel), TX4, 6, rfl⟩
abbrev m_X4_foundDistance : am_Y := (yX4_foundDistance, cX4_foundDistance, 1, (some .int))
set_option maxRecDepth 100000 in
theorem k_X4_foundDistance : am_mv m_X4_foundDistance 0 4 := ⟨⟨am_in 582 rfl rfl, wd_in_X4, ⟨by decide +kernel, by decide +kernel, by decide +kernel⟩, by decide⟩, am_in 580 (by decide +kernel) (by decide +kernel), am_in 581 (by decide +kernel) (by decide +kernel), TX4, 6, rfl⟩
abbrev m_X6_distanceSymbol : am_Y := (yX6_distanceSymbol, cX6_distanceSymbol, 2, (some .int))
set_option maxRecDepth 100000 in
theorem k_X6_distanceSymbol : am_ms m_X6_distanceSymbol 1 := ⟨⟨am_in 585 rfl rfl, wd_in_X6, ⟨by decide +kernel, by decide +kernel, by decide +kernel⟩, by decide⟩, am_in 584 (by decide +kernel) (by decide +kernel)⟩
abbrev m_X7_use : am_Y := (yX7_use, cX7_use, 2, none)
set_option maxRecDepth 100000 in
theorem k_X7_use : am_mv m_X7_use 1 7 := ⟨⟨am_in 589 rfl rfl, wd_in_X7, ⟨by decide +kernel, by decide +kernel, by decide +kernel⟩, by decide⟩, am_in 587 (by decide +kernel) (by decide +kernel), am_in 588 (by decide +kernel) (by decide +kernel), TX7, 8, rfl⟩
abbrev m_X5_shape : am_Y := (yX5_shape, cX5_shape, 2, none)
set_option maxRecDepth 100000 in
theorem k_X5_shape : am_mv m_X5_shape 1 5 := ⟨⟨am_in 596 rfl rfl, wd_in_X5, ⟨by decide +kernel, by decide +kernel, by decide +kernel⟩, by decide⟩, am_in 594 (by decide +kernel) (by decide +kernel), am_in 595 (by decide +kernel) (by decide +kernel), TX5, 8, rfl⟩
abbrev m_X5_sortLeaves : am_Y := (yX5_sortLeaves, cX5_sortLeaves, 3, none)
set_option maxRecDepth 100000 in
theorem k_X5_sortLeaves : am_mv m_X5_sortLeaves 1 5 := ⟨⟨am_in 600 rfl rfl, wd_in_X5, ⟨by decide +kernel, by decide +kernel, by decide +kernel⟩, by decide⟩, am_in 599 (by decide +kernel) (by decide +kernel), am_in 13 (by decide +kernel) (by decide +kernel), TX5, 8, rfl⟩
abbrev m_X7_usesOf : am_Y := (yX7_usesOf, cX7_usesOf, 2, (some .int))
set_option maxRecDepth 100000 in
theorem k_X7_usesOf : am_mv m_X7_usesOf 1 7 := ⟨⟨am_in 605 rfl rfl, wd_in_X7, ⟨by decide +kernel, by decide +kernel, by decide +kernel⟩, by decide⟩, am_in 603 (by decide +kernel) (by decide +kernel), am_in 604 (by decide +kernel) (by decide +kernel), TX7, 8, rfl⟩
abbrev m_X5_insertLeaf : am_Y := (yX5_insertLeaf, cX5_insertLeaf, 3, none)
set_option maxRecDepth 100000 in
theorem k_X5_insertLeaf : am_mv m_X5_insertLeaf 1 5 := ⟨⟨am_in 609 rfl rfl, wd_in_X5, ⟨by decide +kernel, by decide +kernel, by decide +kernel⟩, by decide⟩, am_in 608 (by decide +kernel) (by decide +kernel), am_in 14 (by decide +kernel) (by decide +kernel), TX5, 8, rfl⟩
abbrev m_X5_merge : am_Y := (yX5_merge, cX5_merge, 5, none)
set_option maxRecDepth 100000 in
theorem k_X5_merge : am_mv m_X5_merge 1 5 := ⟨⟨am_in 614 rfl rfl, wd_in_X5, ⟨by decide +kernel, by decide +kernel, by decide +kernel⟩, by decide⟩, am_in 613 (by decide +kernel) (by decide +kernel), am_in 15 (by decide +kernel) (by decide +kernel), TX5, 8, rfl⟩
abbrev m_X5_takeLeast : am_Y := (yX5_takeLeast, cX5_takeLeast, 3, (some .int))
set_option maxRecDepth 100000 in
theorem k_X5_takeLeast : am_mv m_X5_takeLeast 0 5 := ⟨⟨am_in 618 rfl rfl, wd_in_X5, ⟨by decide +kernel, by decide +kernel, by decide +kernel⟩, by decide⟩, am_in 617 (by decide +kernel) (by decide +kernel), am_in 16 (by decide +kernel) (by decide +kernel), TX5, 8, rfl⟩
abbrev m_X5_measure : am_Y := (yX5_measure, cX5_measure, 3, none)
set_option maxRecDepth 100000 in
theorem k_X5_measure : am_mv m_X5_measure 1 5 := ⟨⟨am_in 622 rfl rfl, wd_in_X5, ⟨by decide +kernel, by decide +kernel, by decide +kernel⟩, by decide⟩, am_in 621 (by decide +kernel) (by decide +kernel), am_in 17 (by decide +kernel) (by decide +kernel), TX5, 8, rfl⟩
abbrev m_X6_gatherTellers : am_Y := (yX6_gatherTellers, cX6_gatherTellers, 4, none)
set_option maxRecDepth 100000 in
theorem k_X6_gatherTellers : am_mv m_X6_gatherTellers 0 6 := ⟨⟨am_in 628 rfl rfl, wd_in_X6, ⟨by decide +kernel, by decide +kernel, by decide +kernel⟩, by decide⟩, am_in 627 (by decide +kernel) (by decide +kernel), am_in 18 (by decide +kernel) (by decide +kernel), TX6, 14, rfl⟩
abbrev m_X7_lengthsInUse : am_Y := (yX7_lengthsInUse, cX7_lengthsInUse, 2, (some .int))
set_option maxRecDepth 100000 in
theorem k_X7_lengthsInUse : am_mv m_X7_lengthsInUse 0 7 := ⟨⟨am_in 632 rfl rfl, wd_in_X7, ⟨by decide +kernel, by decide +kernel, by decide +kernel⟩, by decide⟩, am_in 630 (by decide +kernel) (by decide +kernel), am_in 631 (by decide +kernel) (by decide +kernel), TX7, 8, rfl⟩
abbrev m_X7_zerosFrom : am_Y := (yX7_zerosFrom, cX7_zerosFrom, 4, (some .int))
set_option maxRecDepth 100000 in
theorem k_X7_zerosFrom : am_mv m_X7_zerosFrom 2 7 := ⟨⟨am_in 636 rfl rfl, wd_in_X7, ⟨by decide +kernel, by decide +kernel, by decide +kernel⟩, by decide⟩, am_in 634 (by decide +kernel) (by decide +kernel), am_in 635 (by decide +kernel) (by decide +kernel), TX7, 8, rfl⟩
abbrev m_X7_lengthOf : am_Y := (yX7_lengthOf, cX7_lengthOf, 2, (some .int))
set_option maxRecDepth 100000 in
theorem k_X7_lengthOf : am_mv m_X7_lengthOf 1 7 := ⟨⟨am_in 640 rfl rfl, wd_in_X7, ⟨by decide +kernel, by decide +kernel, by decide +kernel⟩, by decide⟩, am_in 638 (by decide +kernel) (by decide +kernel), am_in 639 (by decide +kernel) (by decide +kernel), TX7, 8, rfl⟩
abbrev m_X6_addTeller : am_Y := (yX6_addTeller, cX6_addTeller, 3, none)
set_option maxRecDepth 100000 in
theorem k_X6_addTeller : am_mv m_X6_addTeller 2 6 := ⟨⟨am_in 645 rfl rfl, wd_in_X6, ⟨by decide +kernel, by decide +kernel, by decide +kernel⟩, by decide⟩, am_in 644 (by decide +kernel) (by decide +kernel), am_in 19 (by decide +kernel) (by decide +kernel), TX6, 14, rfl⟩
abbrev m_X6_addZeros : am_Y := (yX6_addZeros, cX6_addZeros, 3, none)
set_option maxRecDepth 100000 in
theorem k_X6_addZeros : am_mv m_X6_addZeros 1 6 := ⟨⟨am_in 649 rfl rfl, wd_in_X6, ⟨by decide +kernel, by decide +kernel, by decide +kernel⟩, by decide⟩, am_in 648 (by decide +kernel) (by decide +kernel), am_in 20 (by decide +kernel) (by decide +kernel), TX6, 14, rfl⟩
abbrev m_X6_packBlock : am_Y := (yX6_packBlock, cX6_packBlock, 2, none)
set_option maxRecDepth 100000 in
theorem k_X6_packBlock : am_mv m_X6_packBlock 0 6 := ⟨⟨am_in 653 rfl rfl, wd_in_X6, ⟨by decide +kernel, by decide +kernel, by decide +kernel⟩, by decide⟩, am_in 652 (by decide +kernel) (by decide +kernel), am_in 21 (by decide +kernel) (by decide +kernel), TX6, 14, rfl⟩
abbrev m_X1_give : am_Y := (yX1_give, cX1_give, 4, none)
set_option maxRecDepth 100000 in
theorem k_X1_give : am_mv m_X1_give 2 1 := ⟨⟨am_in 657 rfl rfl, wd_in_X1, ⟨by decide +kernel, by decide +kernel, by decide +kernel⟩, by decide⟩, am_in 655 (by decide +kernel) (by decide +kernel), am_in 656 (by decide +kernel) (by decide +kernel), TX1, 2, rfl⟩
abbrev m_X3_mixIntoLast : am_Y := (yX3_mixIntoLast, cX3_mixIntoLast, 2, none)
set_option maxRecDepth 100000 in
theorem k_X3_mixIntoLast : am_mv m_X3_mixIntoLast 1 3 := ⟨⟨am_in 662 rfl rfl, wd_in_X3, ⟨by decide +kernel, by decide +kernel, by decide +kernel⟩, by decide⟩, am_in 660 (by decide +kernel) (by decide +kernel), am_in 661 (by decide +kernel) (by decide +kernel), TX3, 2, rfl⟩
abbrev m_X6_tellTree : am_Y := (yX6_tellTree, cX6_tellTree, 7, none)
set_option maxRecDepth 100000 in
theorem k_X6_tellTree : am_mv m_X6_tellTree 3 6 := ⟨⟨am_in 666 rfl rfl, wd_in_X6, ⟨by decide +kernel, by decide +kernel, by decide +kernel⟩, by decide⟩, am_in 665 (by decide +kernel) (by decide +kernel), am_in 22 (by decide +kernel) (by decide +kernel), TX6, 14, rfl⟩
abbrev m_X1_giveAlone : am_Y := (yX1_giveAlone, cX1_giveAlone, 3, none)
set_option maxRecDepth 100000 in
theorem k_X1_giveAlone : am_mv m_X1_giveAlone 2 1 := ⟨⟨am_in 672 rfl rfl, wd_in_X1, ⟨by decide +kernel, by decide +kernel, by decide +kernel⟩, by decide⟩, am_in 670 (by decide +kernel) (by decide +kernel), am_in 671 (by decide +kernel) (by decide +kernel), TX1, 2, rfl⟩
abbrev m_X1_giveLength : am_Y := (yX1_giveLength, cX1_giveLength, 3, none)
set_option maxRecDepth 100000 in
theorem k_X1_giveLength : am_mv m_X1_giveLength 1 1 := ⟨⟨am_in 677 rfl rfl, wd_in_X1, ⟨by decide +kernel, by decide +kernel, by decide +kernel⟩, by decide⟩, am_in 675 (by decide +kernel) (by decide +kernel), am_in 676 (by decide +kernel) (by decide +kernel), TX1, 2, rfl⟩
abbrev m_X6_tellTreeC : am_Y := (yX6_tellTreeC, cX6_tellTreeC, 2, none)
set_option maxRecDepth 100000 in
theorem k_X6_tellTreeC : am_mv m_X6_tellTreeC 0 6 := ⟨⟨am_in 682 rfl rfl, wd_in_X6, ⟨by decide +kernel, by decide +kernel, by decide +kernel⟩, by decide⟩, am_in 681 (by decide +kernel) (by decide +kernel), am_in 23 (by decide +kernel) (by decide +kernel), TX6, 14, rfl⟩
abbrev m_X1_giveSymbol : am_Y := (yX1_giveSymbol, cX1_giveSymbol, 3, none)
set_option maxRecDepth 100000 in
theorem k_X1_giveSymbol : am_mv m_X1_giveSymbol 2 1 := ⟨⟨am_in 686 rfl rfl, wd_in_X1, ⟨by decide +kernel, by decide +kernel, by decide +kernel⟩, by decide⟩, am_in 684 (by decide +kernel) (by decide +kernel), am_in 685 (by decide +kernel) (by decide +kernel), TX1, 2, rfl⟩
abbrev m_X7_codeOf : am_Y := (yX7_codeOf, cX7_codeOf, 2, (some .int))
set_option maxRecDepth 100000 in
theorem k_X7_codeOf : am_mv m_X7_codeOf 1 7 := ⟨⟨am_in 691 rfl rfl, wd_in_X7, ⟨by decide +kernel, by decide +kernel, by decide +kernel⟩, by decide⟩, am_in 689 (by decide +kernel) (by decide +kernel), am_in 690 (by decide +kernel) (by decide +kernel), TX7, 8, rfl⟩
abbrev m_X6_packDistance : am_Y := (yX6_packDistance, cX6_packDistance, 3, none)
set_option maxRecDepth 100000 in
theorem k_X6_packDistance : am_mv m_X6_packDistance 1 6 := ⟨⟨am_in 697 rfl rfl, wd_in_X6, ⟨by decide +kernel, by decide +kernel, by decide +kernel⟩, by decide⟩, am_in 696 (by decide +kernel) (by decide +kernel), am_in 24 (by decide +kernel) (by decide +kernel), TX6, 14, rfl⟩
abbrev m_X1_given : am_Y := (yX1_given, cX1_given, 1, (some .int))
set_option maxRecDepth 100000 in
theorem k_X1_given : am_mv m_X1_given 0 1 := ⟨⟨am_in 701 rfl rfl, wd_in_X1, ⟨by decide +kernel, by decide +kernel, by decide +kernel⟩, by decide⟩, am_in 699 (by decide +kernel) (by decide +kernel), am_in 700 (by decide +kernel) (by decide +kernel), TX1, 2, rfl⟩
abbrev m_X9_back : am_Y := (yX9_back, cX9_back, 1, (some .int))
set_option maxRecDepth 100000 in
theorem k_X9_back : am_mv m_X9_back 0 9 := ⟨⟨am_in 706 rfl rfl, wd_in_X9, ⟨by decide +kernel, by decide +kernel, by decide +kernel⟩, by decide⟩, am_in 704 (by decide +kernel) (by decide +kernel), am_in 705 (by decide +kernel) (by decide +kernel), TX9, 5, rfl⟩
abbrev m_X3_become : am_Y := (yX3_become, cX3_become, 2, none)
set_option maxRecDepth 100000 in
theorem k_X3_become : am_mv m_X3_become 1 3 := ⟨⟨am_in 710 rfl rfl, wd_in_X3, ⟨by decide +kernel, by decide +kernel, by decide +kernel⟩, by decide⟩, am_in 708 (by decide +kernel) (by decide +kernel), am_in 709 (by decide +kernel) (by decide +kernel), TX3, 2, rfl⟩
abbrev m_X9_made : am_Y := (yX9_made, cX9_made, 1, (some .int))
set_option maxRecDepth 100000 in
theorem k_X9_made : am_mv m_X9_made 0 9 := ⟨⟨am_in 718 rfl rfl, wd_in_X9, ⟨by decide +kernel, by decide +kernel, by decide +kernel⟩, by decide⟩, am_in 716 (by decide +kernel) (by decide +kernel), am_in 717 (by decide +kernel) (by decide +kernel), TX9, 5, rfl⟩
abbrev m_X9_out : am_Y := (yX9_out, cX9_out, 2, (some .int))
set_option maxRecDepth 100000 in
theorem k_X9_out : am_mv m_X9_out 1 9 := ⟨⟨am_in 722 rfl rfl, wd_in_X9, ⟨by decide +kernel, by decide +kernel, by decide +kernel⟩, by decide⟩, am_in 720 (by decide +kernel) (by decide +kernel), am_in 721 (by decide +kernel) (by decide +kernel), TX9, 5, rfl⟩
abbrev m_X9_told : am_Y := (yX9_told, cX9_told, 2, (some .int))
set_option maxRecDepth 100000 in
theorem k_X9_told : am_mv m_X9_told 1 9 := ⟨⟨am_in 726 rfl rfl, wd_in_X9, ⟨by decide +kernel, by decide +kernel, by decide +kernel⟩, by decide⟩, am_in 724 (by decide +kernel) (by decide +kernel), am_in 725 (by decide +kernel) (by decide +kernel), TX9, 5, rfl⟩
abbrev m_X0_number : am_Y := (yX0_number, cX0_number, 2, (some .int))
set_option maxRecDepth 100000 in
theorem k_X0_number : am_mv m_X0_number 1 0 := ⟨⟨am_in 730 rfl rfl, wd_in_X0, ⟨by decide +kernel, by decide +kernel, by decide +kernel⟩, by decide⟩, am_in 728 (by decide +kernel) (by decide +kernel), am_in 729 (by decide +kernel) (by decide +kernel), TX0, 8, rfl⟩
abbrev m_X9_length : am_Y := (yX9_length, cX9_length, 3, (some .int))
set_option maxRecDepth 100000 in
theorem k_X9_length : am_mv m_X9_length 2 9 := ⟨⟨am_in 734 rfl rfl, wd_in_X9, ⟨by decide +kernel, by decide +kernel, by decide +kernel⟩, by decide⟩, am_in 732 (by decide +kernel) (by decide +kernel), am_in 733 (by decide +kernel) (by decide +kernel), TX9, 5, rfl⟩
abbrev m_X0_hasBlock : am_Y := (yX0_hasBlock, cX0_hasBlock, 1, (some .boolean))
set_option maxRecDepth 100000 in
theorem k_X0_hasBlock : am_mv m_X0_hasBlock 0 0 := ⟨⟨am_in 738 rfl rfl, wd_in_X0, ⟨by decide +kernel, by decide +kernel, by decide +kernel⟩, by decide⟩, am_in 736 (by decide +kernel) (by decide +kernel), am_in 737 (by decide +kernel) (by decide +kernel), TX0, 8, rfl⟩
abbrev m_X10_init : am_Y := (yX10_init, cX10_init, 1, none)
set_option maxRecDepth 100000 in
theorem k_X10_init : am_mi m_X10_init 0 := ⟨⟨am_in 745 rfl rfl, wd_in_X10, ⟨by decide +kernel, by decide +kernel, by decide +kernel⟩, by decide⟩, am_in 744 (by decide +kernel) (by decide +kernel), rfl, rfl⟩
abbrev m_X10_feed : am_Y := (yX10_feed, cX10_feed, 8, (some .int))
set_option maxRecDepth 100000 in
theorem k_X10_feed : am_mv m_X10_feed 5 10 := ⟨⟨am_in 821 rfl rfl, wd_in_X10, ⟨by decide +kernel, by decide +kernel, by decide +kernel⟩, by decide⟩, am_in 819 (by decide +kernel) (by decide +kernel), am_in 820 (by decide +kernel) (by decide +kernel), TX10, 23, rfl⟩
abbrev m_X10_fill : am_Y := (yX10_fill, cX10_fill, 4, (some .int))
set_option maxRecDepth 100000 in
theorem k_X10_fill : am_mv m_X10_fill 2 10 := ⟨⟨am_in 825 rfl rfl, wd_in_X10, ⟨by decide +kernel, by decide +kernel, by decide +kernel⟩, by decide⟩, am_in 823 (by decide +kernel) (by decide +kernel), am_in 824 (by decide +kernel) (by decide +kernel), TX10, 23, rfl⟩
abbrev m_X10_peek : am_Y := (yX10_peek, cX10_peek, 2, (some .int))
set_option maxRecDepth 100000 in
theorem k_X10_peek : am_mv m_X10_peek 1 10 := ⟨⟨am_in 829 rfl rfl, wd_in_X10, ⟨by decide +kernel, by decide +kernel, by decide +kernel⟩, by decide⟩, am_in 827 (by decide +kernel) (by decide +kernel), am_in 828 (by decide +kernel) (by decide +kernel), TX10, 23, rfl⟩
abbrev m_X10_poke : am_Y := (yX10_poke, cX10_poke, 3, (some .boolean))
set_option maxRecDepth 100000 in
theorem k_X10_poke : am_mv m_X10_poke 2 10 := ⟨⟨am_in 833 rfl rfl, wd_in_X10, ⟨by decide +kernel, by decide +kernel, by decide +kernel⟩, by decide⟩, am_in 831 (by decide +kernel) (by decide +kernel), am_in 832 (by decide +kernel) (by decide +kernel), TX10, 23, rfl⟩
abbrev m_X10_clear : am_Y := (yX10_clear, cX10_clear, 1, none)
set_option maxRecDepth 100000 in
theorem k_X10_clear : am_mv m_X10_clear 0 10 := ⟨⟨am_in 837 rfl rfl, wd_in_X10, ⟨by decide +kernel, by decide +kernel, by decide +kernel⟩, by decide⟩, am_in 835 (by decide +kernel) (by decide +kernel), am_in 836 (by decide +kernel) (by decide +kernel), TX10, 23, rfl⟩
abbrev m_X10_read : am_Y := (yX10_read, cX10_read, 5, (some .int))
set_option maxRecDepth 100000 in
theorem k_X10_read : am_mv m_X10_read 2 10 := ⟨⟨am_in 841 rfl rfl, wd_in_X10, ⟨by decide +kernel, by decide +kernel, by decide +kernel⟩, by decide⟩, am_in 839 (by decide +kernel) (by decide +kernel), am_in 840 (by decide +kernel) (by decide +kernel), TX10, 23, rfl⟩
abbrev m_X10_begin : am_Y := (yX10_begin, cX10_begin, 1, none)
set_option maxRecDepth 100000 in
theorem k_X10_begin : am_mv m_X10_begin 0 10 := ⟨⟨am_in 845 rfl rfl, wd_in_X10, ⟨by decide +kernel, by decide +kernel, by decide +kernel⟩, by decide⟩, am_in 844 (by decide +kernel) (by decide +kernel), am_in 25 (by decide +kernel) (by decide +kernel), TX10, 23, rfl⟩
abbrev m_X10_clearTrees : am_Y := (yX10_clearTrees, cX10_clearTrees, 2, none)
set_option maxRecDepth 100000 in
theorem k_X10_clearTrees : am_mv m_X10_clearTrees 0 10 := ⟨⟨am_in 849 rfl rfl, wd_in_X10, ⟨by decide +kernel, by decide +kernel, by decide +kernel⟩, by decide⟩, am_in 848 (by decide +kernel) (by decide +kernel), am_in 26 (by decide +kernel) (by decide +kernel), TX10, 23, rfl⟩
abbrev m_X10_take : am_Y := (yX10_take, cX10_take, 4, (some .int))
set_option maxRecDepth 100000 in
theorem k_X10_take : am_mv m_X10_take 1 10 := ⟨⟨am_in 853 rfl rfl, wd_in_X10, ⟨by decide +kernel, by decide +kernel, by decide +kernel⟩, by decide⟩, am_in 852 (by decide +kernel) (by decide +kernel), am_in 27 (by decide +kernel) (by decide +kernel), TX10, 23, rfl⟩
abbrev m_X10_fails : am_Y := (yX10_fails, cX10_fails, 2, none)
set_option maxRecDepth 100000 in
theorem k_X10_fails : am_mv m_X10_fails 1 10 := ⟨⟨am_in 857 rfl rfl, wd_in_X10, ⟨by decide +kernel, by decide +kernel, by decide +kernel⟩, by decide⟩, am_in 856 (by decide +kernel) (by decide +kernel), am_in 28 (by decide +kernel) (by decide +kernel), TX10, 23, rfl⟩
abbrev m_X10_small : am_Y := (yX10_small, cX10_small, 6, none)
set_option maxRecDepth 100000 in
theorem k_X10_small : am_mv m_X10_small 2 10 := ⟨⟨am_in 861 rfl rfl, wd_in_X10, ⟨by decide +kernel, by decide +kernel, by decide +kernel⟩, by decide⟩, am_in 860 (by decide +kernel) (by decide +kernel), am_in 29 (by decide +kernel) (by decide +kernel), TX10, 23, rfl⟩
abbrev m_X10_many : am_Y := (yX10_many, cX10_many, 5, (some .int))
set_option maxRecDepth 100000 in
theorem k_X10_many : am_mv m_X10_many 2 10 := ⟨⟨am_in 865 rfl rfl, wd_in_X10, ⟨by decide +kernel, by decide +kernel, by decide +kernel⟩, by decide⟩, am_in 864 (by decide +kernel) (by decide +kernel), am_in 30 (by decide +kernel) (by decide +kernel), TX10, 23, rfl⟩
abbrev m_X10_symbols : am_Y := (yX10_symbols, cX10_symbols, 1, (some .int))
set_option maxRecDepth 100000 in
theorem k_X10_symbols : am_ms m_X10_symbols 1 := ⟨⟨am_in 868 rfl rfl, wd_in_X10, ⟨by decide +kernel, by decide +kernel, by decide +kernel⟩, by decide⟩, am_in 867 (by decide +kernel) (by decide +kernel)⟩
abbrev m_X10_complete : am_Y := (yX10_complete, cX10_complete, 5, none)
set_option maxRecDepth 100000 in
theorem k_X10_complete : am_mv m_X10_complete 1 10 := ⟨⟨am_in 872 rfl rfl, wd_in_X10, ⟨by decide +kernel, by decide +kernel, by decide +kernel⟩, by decide⟩, am_in 871 (by decide +kernel) (by decide +kernel), am_in 31 (by decide +kernel) (by decide +kernel), TX10, 23, rfl⟩
abbrev m_X10_number : am_Y := (yX10_number, cX10_number, 5, none)
set_option maxRecDepth 100000 in
theorem k_X10_number : am_mv m_X10_number 1 10 := ⟨⟨am_in 877 rfl rfl, wd_in_X10, ⟨by decide +kernel, by decide +kernel, by decide +kernel⟩, by decide⟩, am_in 876 (by decide +kernel) (by decide +kernel), am_in 32 (by decide +kernel) (by decide +kernel), TX10, 23, rfl⟩
abbrev m_X10_great : am_Y := (yX10_great, cX10_great, 4, none)
set_option maxRecDepth 100000 in
theorem k_X10_great : am_mv m_X10_great 0 10 := ⟨⟨am_in 881 rfl rfl, wd_in_X10, ⟨by decide +kernel, by decide +kernel, by decide +kernel⟩, by decide⟩, am_in 880 (by decide +kernel) (by decide +kernel), am_in 33 (by decide +kernel) (by decide +kernel), TX10, 23, rfl⟩
abbrev m_X10_symbol : am_Y := (yX10_symbol, cX10_symbol, 5, (some .int))
set_option maxRecDepth 100000 in
theorem k_X10_symbol : am_mv m_X10_symbol 1 10 := ⟨⟨am_in 885 rfl rfl, wd_in_X10, ⟨by decide +kernel, by decide +kernel, by decide +kernel⟩, by decide⟩, am_in 884 (by decide +kernel) (by decide +kernel), am_in 34 (by decide +kernel) (by decide +kernel), TX10, 23, rfl⟩
abbrev m_X10_one : am_Y := (yX10_one, cX10_one, 6, none)
set_option maxRecDepth 100000 in
theorem k_X10_one : am_mv m_X10_one 1 10 := ⟨⟨am_in 889 rfl rfl, wd_in_X10, ⟨by decide +kernel, by decide +kernel, by decide +kernel⟩, by decide⟩, am_in 888 (by decide +kernel) (by decide +kernel), am_in 35 (by decide +kernel) (by decide +kernel), TX10, 23, rfl⟩
abbrev m_X10_write : am_Y := (yX10_write, cX10_write, 4, (some .int))
set_option maxRecDepth 100000 in
theorem k_X10_write : am_mv m_X10_write 1 10 := ⟨⟨am_in 893 rfl rfl, wd_in_X10, ⟨by decide +kernel, by decide +kernel, by decide +kernel⟩, by decide⟩, am_in 891 (by decide +kernel) (by decide +kernel), am_in 892 (by decide +kernel) (by decide +kernel), TX10, 23, rfl⟩
abbrev m_X10_cut : am_Y := (yX10_cut, cX10_cut, 8, (some .int))
set_option maxRecDepth 100000 in
theorem k_X10_cut : am_mv m_X10_cut 1 10 := ⟨⟨am_in 897 rfl rfl, wd_in_X10, ⟨by decide +kernel, by decide +kernel, by decide +kernel⟩, by decide⟩, am_in 896 (by decide +kernel) (by decide +kernel), am_in 36 (by decide +kernel) (by decide +kernel), TX10, 23, rfl⟩
abbrev m_X10_same : am_Y := (yX10_same, cX10_same, 5, (some .int))
set_option maxRecDepth 100000 in
theorem k_X10_same : am_mv m_X10_same 3 10 := ⟨⟨am_in 901 rfl rfl, wd_in_X10, ⟨by decide +kernel, by decide +kernel, by decide +kernel⟩, by decide⟩, am_in 900 (by decide +kernel) (by decide +kernel), am_in 37 (by decide +kernel) (by decide +kernel), TX10, 23, rfl⟩
abbrev m_X10_block : am_Y := (yX10_block, cX10_block, 5, none)
set_option maxRecDepth 100000 in
theorem k_X10_block : am_mv m_X10_block 2 10 := ⟨⟨am_in 905 rfl rfl, wd_in_X10, ⟨by decide +kernel, by decide +kernel, by decide +kernel⟩, by decide⟩, am_in 904 (by decide +kernel) (by decide +kernel), am_in 38 (by decide +kernel) (by decide +kernel), TX10, 23, rfl⟩
abbrev m_X10_clearTimes : am_Y := (yX10_clearTimes, cX10_clearTimes, 2, none)
set_option maxRecDepth 100000 in
theorem k_X10_clearTimes : am_mv m_X10_clearTimes 0 10 := ⟨⟨am_in 909 rfl rfl, wd_in_X10, ⟨by decide +kernel, by decide +kernel, by decide +kernel⟩, by decide⟩, am_in 908 (by decide +kernel) (by decide +kernel), am_in 39 (by decide +kernel) (by decide +kernel), TX10, 23, rfl⟩
abbrev m_X10_merge : am_Y := (yX10_merge, cX10_merge, 9, none)
set_option maxRecDepth 100000 in
theorem k_X10_merge : am_mv m_X10_merge 1 10 := ⟨⟨am_in 913 rfl rfl, wd_in_X10, ⟨by decide +kernel, by decide +kernel, by decide +kernel⟩, by decide⟩, am_in 912 (by decide +kernel) (by decide +kernel), am_in 40 (by decide +kernel) (by decide +kernel), TX10, 23, rfl⟩
abbrev m_X10_least : am_Y := (yX10_least, cX10_least, 4, (some .int))
set_option maxRecDepth 100000 in
theorem k_X10_least : am_mv m_X10_least 1 10 := ⟨⟨am_in 917 rfl rfl, wd_in_X10, ⟨by decide +kernel, by decide +kernel, by decide +kernel⟩, by decide⟩, am_in 916 (by decide +kernel) (by decide +kernel), am_in 41 (by decide +kernel) (by decide +kernel), TX10, 23, rfl⟩
abbrev m_X10_rank : am_Y := (yX10_rank, cX10_rank, 3, (some .int))
set_option maxRecDepth 100000 in
theorem k_X10_rank : am_ms m_X10_rank 1 := ⟨⟨am_in 920 rfl rfl, wd_in_X10, ⟨by decide +kernel, by decide +kernel, by decide +kernel⟩, by decide⟩, am_in 919 (by decide +kernel) (by decide +kernel)⟩
abbrev m_X10_give : am_Y := (yX10_give, cX10_give, 4, none)
set_option maxRecDepth 100000 in
theorem k_X10_give : am_mv m_X10_give 2 10 := ⟨⟨am_in 924 rfl rfl, wd_in_X10, ⟨by decide +kernel, by decide +kernel, by decide +kernel⟩, by decide⟩, am_in 923 (by decide +kernel) (by decide +kernel), am_in 42 (by decide +kernel) (by decide +kernel), TX10, 23, rfl⟩
abbrev m_X10_giveSmall : am_Y := (yX10_giveSmall, cX10_giveSmall, 7, none)
set_option maxRecDepth 100000 in
theorem k_X10_giveSmall : am_mv m_X10_giveSmall 2 10 := ⟨⟨am_in 928 rfl rfl, wd_in_X10, ⟨by decide +kernel, by decide +kernel, by decide +kernel⟩, by decide⟩, am_in 927 (by decide +kernel) (by decide +kernel), am_in 43 (by decide +kernel) (by decide +kernel), TX10, 23, rfl⟩
abbrev m_X10_last : am_Y := (yX10_last, cX10_last, 3, (some .int))
set_option maxRecDepth 100000 in
theorem k_X10_last : am_mv m_X10_last 1 10 := ⟨⟨am_in 932 rfl rfl, wd_in_X10, ⟨by decide +kernel, by decide +kernel, by decide +kernel⟩, by decide⟩, am_in 931 (by decide +kernel) (by decide +kernel), am_in 44 (by decide +kernel) (by decide +kernel), TX10, 23, rfl⟩
abbrev m_X10_tellAll : am_Y := (yX10_tellAll, cX10_tellAll, 4, none)
set_option maxRecDepth 100000 in
theorem k_X10_tellAll : am_mv m_X10_tellAll 0 10 := ⟨⟨am_in 936 rfl rfl, wd_in_X10, ⟨by decide +kernel, by decide +kernel, by decide +kernel⟩, by decide⟩, am_in 935 (by decide +kernel) (by decide +kernel), am_in 45 (by decide +kernel) (by decide +kernel), TX10, 23, rfl⟩
abbrev m_X10_tell : am_Y := (yX10_tell, cX10_tell, 3, none)
set_option maxRecDepth 100000 in
theorem k_X10_tell : am_mv m_X10_tell 2 10 := ⟨⟨am_in 940 rfl rfl, wd_in_X10, ⟨by decide +kernel, by decide +kernel, by decide +kernel⟩, by decide⟩, am_in 939 (by decide +kernel) (by decide +kernel), am_in 46 (by decide +kernel) (by decide +kernel), TX10, 23, rfl⟩
abbrev m_X10_giveSymbol : am_Y := (yX10_giveSymbol, cX10_giveSymbol, 3, none)
set_option maxRecDepth 100000 in
theorem k_X10_giveSymbol : am_mv m_X10_giveSymbol 2 10 := ⟨⟨am_in 944 rfl rfl, wd_in_X10, ⟨by decide +kernel, by decide +kernel, by decide +kernel⟩, by decide⟩, am_in 943 (by decide +kernel) (by decide +kernel), am_in 47 (by decide +kernel) (by decide +kernel), TX10, 23, rfl⟩
abbrev m_X10_back : am_Y := (yX10_back, cX10_back, 2, (some .int))
set_option maxRecDepth 100000 in
theorem k_X10_back : am_mv m_X10_back 0 10 := ⟨⟨am_in 948 rfl rfl, wd_in_X10, ⟨by decide +kernel, by decide +kernel, by decide +kernel⟩, by decide⟩, am_in 946 (by decide +kernel) (by decide +kernel), am_in 947 (by decide +kernel) (by decide +kernel), TX10, 23, rfl⟩
abbrev m_X10_made : am_Y := (yX10_made, cX10_made, 1, (some .int))
set_option maxRecDepth 100000 in
theorem k_X10_made : am_mv m_X10_made 0 10 := ⟨⟨am_in 952 rfl rfl, wd_in_X10, ⟨by decide +kernel, by decide +kernel, by decide +kernel⟩, by decide⟩, am_in 950 (by decide +kernel) (by decide +kernel), am_in 951 (by decide +kernel) (by decide +kernel), TX10, 23, rfl⟩
abbrev m_X10_out : am_Y := (yX10_out, cX10_out, 2, (some .int))
set_option maxRecDepth 100000 in
theorem k_X10_out : am_mv m_X10_out 1 10 := ⟨⟨am_in 956 rfl rfl, wd_in_X10, ⟨by decide +kernel, by decide +kernel, by decide +kernel⟩, by decide⟩, am_in 954 (by decide +kernel) (by decide +kernel), am_in 955 (by decide +kernel) (by decide +kernel), TX10, 23, rfl⟩
abbrev m_X10_told : am_Y := (yX10_told, cX10_told, 2, (some .int))
set_option maxRecDepth 100000 in
theorem k_X10_told : am_mv m_X10_told 1 10 := ⟨⟨am_in 960 rfl rfl, wd_in_X10, ⟨by decide +kernel, by decide +kernel, by decide +kernel⟩, by decide⟩, am_in 958 (by decide +kernel) (by decide +kernel), am_in 959 (by decide +kernel) (by decide +kernel), TX10, 23, rfl⟩
abbrev m_X10_length : am_Y := (yX10_length, cX10_length, 3, (some .int))
set_option maxRecDepth 100000 in
theorem k_X10_length : am_mv m_X10_length 2 10 := ⟨⟨am_in 964 rfl rfl, wd_in_X10, ⟨by decide +kernel, by decide +kernel, by decide +kernel⟩, by decide⟩, am_in 962 (by decide +kernel) (by decide +kernel), am_in 963 (by decide +kernel) (by decide +kernel), TX10, 23, rfl⟩
end
section
/-! ===== contracts by the kind of their answer ===== -/
def am_qi (P : Int32 → am_H → Prop) : Option am_V → am_H → Prop := fun r h' => ∃ x, r = some (.inl x) ∧ P x h'
def am_qv (P : am_H → Prop) : Option am_V → am_H → Prop := fun r h' => r = none ∧ P h'
def am_qr (P : Nat → am_H → Prop) : Option am_V → am_H → Prop := fun r h' => ∃ x, r = some (am_r x) ∧ P x h'
section AMU
variable {l : Launch} {D : va_G} {dA : Bool → ClassId} {y : am_Y} {d mc ms rc rs n0 : Nat} {X : Option (Nat × (Nat → Int32))} {Qa : Option am_V → am_H → Prop} {cells slots pc q : Nat} {L : List (Option am_V)} {S av : List am_V} {h : am_H}
theorem am_Ci {P : Int32 → am_H → Prop} (hy : plainName y.1.cls = true) (hr : y.2.2.2 = some .int) (hn : Nat.ble av.length y.2.2.1 = true)
    (body : am_At l D dA y d mc ms mc ms n0 none (am_qi P) 0 0 0 (am_ent y.2.2.1 av) [] h) : am_Ct l D dA y d mc ms n0 av h (am_qi P) :=
  am_Ct.of hy (fun r h' hq => by obtain ⟨x, rfl, -⟩ := hq; exact ⟨.int, hr, rfl⟩) (Nat.le_of_ble_eq_true hn) body
theorem am_Cz {P : Int32 → am_H → Prop} (hy : plainName y.1.cls = true) (hr : y.2.2.2 = some .boolean) (hz : ∀ x h', P x h' → x = 0 ∨ x = 1) (hn : Nat.ble av.length y.2.2.1 = true)
    (body : am_At l D dA y d mc ms mc ms n0 none (am_qi P) 0 0 0 (am_ent y.2.2.1 av) [] h) : am_Ct l D dA y d mc ms n0 av h (am_qi P) :=
  am_Ct.of hy (fun r h' hq => by
    obtain ⟨x, rfl, hx⟩ := hq
    rcases hz x h' hx with rfl | rfl
    · exact ⟨.boolean, hr, rfl⟩
    · exact ⟨.boolean, hr, rfl⟩) (Nat.le_of_ble_eq_true hn) body
theorem am_Cv {P : am_H → Prop} (hy : plainName y.1.cls = true) (hr : y.2.2.2 = none) (hn : Nat.ble av.length y.2.2.1 = true)
    (body : am_At l D dA y d mc ms mc ms n0 none (am_qv P) 0 0 0 (am_ent y.2.2.1 av) [] h) : am_Ct l D dA y d mc ms n0 av h (am_qv P) :=
  am_Ct.of hy (fun r h' hq => by obtain ⟨rfl, -⟩ := hq; exact hr) (Nat.le_of_ble_eq_true hn) body
theorem am_Cr {P : Nat → am_H → Prop} {C : String} (hy : plainName y.1.cls = true) (hr : y.2.2.2 = some (.object C)) (hn : Nat.ble av.length y.2.2.1 = true)
    (body : am_At l D dA y d mc ms mc ms n0 none (am_qr P) 0 0 0 (am_ent y.2.2.1 av) [] h) : am_Ct l D dA y d mc ms n0 av h (am_qr P) :=
  am_Ct.of hy (fun r h' hq => by obtain ⟨x, rfl, -⟩ := hq; exact ⟨C, hr⟩) (Nat.le_of_ble_eq_true hn) body
theorem am_ri {P : Int32 → am_H → Prop} {x : Int32} (hdg : decode y.2.1 pc = .ok (.ireturn, 1)) (hq : q = pc) (hc : cells = rc) (hs : slots = rs) (hQ : P x h) : am_At l D dA y d mc ms rc rs n0 X (am_qi P) cells slots q L [.inl x] h := am_iret hdg hq hc hs ⟨x, rfl, hQ⟩
theorem am_rr {P : Nat → am_H → Prop} {x : Nat} (hdg : decode y.2.1 pc = .ok (.areturn, 1)) (hq : q = pc) (hc : cells = rc) (hs : slots = rs) (hQ : P x h) : am_At l D dA y d mc ms rc rs n0 X (am_qr P) cells slots q L [am_r x] h := am_aret hdg hq hc hs ⟨x, rfl, hQ⟩
theorem am_rv {P : am_H → Prop} (hdg : decode y.2.1 pc = .ok (.return_, 1)) (hq : q = pc) (hc : cells = rc) (hs : slots = rs) (hQ : P h) : am_At l D dA y d mc ms rc rs n0 X (am_qv P) cells slots q L [] h := am_vret hdg hq hc hs ⟨rfl, hQ⟩
/-- calls of methods that make nothing -/
theorem am_vi {y' : am_Y} {d' n r ci idx : Nat} {fs rest : List am_V} {P : Int32 → am_H → Prop} (hM : am_Ct l D dA y' d' 0 0 (n0 + cells) (am_r r :: av) h (am_qi P)) (K : am_mv y' n ci) (hlk : Cond.methodLink y.1.cls idx y'.1 ∈ am_G) (hdg : decode y.2.1 pc = .ok (.invokevirtual idx, 3)) (hq : q = pc) (hn : av.length = n) (hst0 : S = av.reverse ++ am_r r :: rest) (hrest : Nat.ble rest.length 8 = true) (hc : h r = some (.inr (ci, fs))) (hd : d' + 1 ≤ d) (hm1 : cells ≤ mc) (hm2 : slots ≤ ms)
    (kk : ∀ x h', P x h' → am_At l D dA y d mc ms rc rs n0 X Qa cells slots (pc + 3) L (.inl x :: rest) h') : am_At l D dA y d mc ms rc rs n0 X Qa cells slots q L S h :=
  am_callV hM K hlk hdg hq hn hst0 (Nat.le_of_ble_eq_true hrest) hc hd hm1 hm2 (fun r h' hq => by obtain ⟨x, rfl, hx⟩ := hq; exact kk x h' hx)
theorem am_vv {y' : am_Y} {d' n r ci idx : Nat} {fs rest : List am_V} {P : am_H → Prop} (hM : am_Ct l D dA y' d' 0 0 (n0 + cells) (am_r r :: av) h (am_qv P)) (K : am_mv y' n ci) (hlk : Cond.methodLink y.1.cls idx y'.1 ∈ am_G) (hdg : decode y.2.1 pc = .ok (.invokevirtual idx, 3)) (hq : q = pc) (hn : av.length = n) (hst0 : S = av.reverse ++ am_r r :: rest) (hrest : Nat.ble rest.length 8 = true) (hc : h r = some (.inr (ci, fs))) (hd : d' + 1 ≤ d) (hm1 : cells ≤ mc) (hm2 : slots ≤ ms)
    (kk : ∀ h', P h' → am_At l D dA y d mc ms rc rs n0 X Qa cells slots (pc + 3) L rest h') : am_At l D dA y d mc ms rc rs n0 X Qa cells slots q L S h :=
  am_callV hM K hlk hdg hq hn hst0 (Nat.le_of_ble_eq_true hrest) hc hd hm1 hm2 (fun r h' hq => by obtain ⟨rfl, hx⟩ := hq; exact kk h' hx)
theorem am_vr {y' : am_Y} {d' n r ci idx : Nat} {fs rest : List am_V} {P : Nat → am_H → Prop} (hM : am_Ct l D dA y' d' 0 0 (n0 + cells) (am_r r :: av) h (am_qr P)) (K : am_mv y' n ci) (hlk : Cond.methodLink y.1.cls idx y'.1 ∈ am_G) (hdg : decode y.2.1 pc = .ok (.invokevirtual idx, 3)) (hq : q = pc) (hn : av.length = n) (hst0 : S = av.reverse ++ am_r r :: rest) (hrest : Nat.ble rest.length 8 = true) (hc : h r = some (.inr (ci, fs))) (hd : d' + 1 ≤ d) (hm1 : cells ≤ mc) (hm2 : slots ≤ ms)
    (kk : ∀ x h', P x h' → am_At l D dA y d mc ms rc rs n0 X Qa cells slots (pc + 3) L (am_r x :: rest) h') : am_At l D dA y d mc ms rc rs n0 X Qa cells slots q L S h :=
  am_callV hM K hlk hdg hq hn hst0 (Nat.le_of_ble_eq_true hrest) hc hd hm1 hm2 (fun r h' hq => by obtain ⟨x, rfl, hx⟩ := hq; exact kk x h' hx)
theorem am_si {y' : am_Y} {d' n idx : Nat} {rest : List am_V} {P : Int32 → am_H → Prop} (hM : am_Ct l D dA y' d' 0 0 (n0 + cells) av h (am_qi P)) (K : am_ms y' n) (hlk : Cond.methodLink y.1.cls idx y'.1 ∈ am_G) (hdg : decode y.2.1 pc = .ok (.invokestatic idx, 3)) (hq : q = pc) (hn : av.length = n) (hst0 : S = av.reverse ++ rest) (hrest : Nat.ble rest.length 8 = true) (hd : d' + 1 ≤ d) (hm1 : cells ≤ mc) (hm2 : slots ≤ ms)
    (kk : ∀ x h', P x h' → am_At l D dA y d mc ms rc rs n0 X Qa cells slots (pc + 3) L (.inl x :: rest) h') : am_At l D dA y d mc ms rc rs n0 X Qa cells slots q L S h :=
  am_callS hM K hlk hdg hq hn hst0 (Nat.le_of_ble_eq_true hrest) hd hm1 hm2 (fun r h' hq => by obtain ⟨x, rfl, hx⟩ := hq; exact kk x h' hx)
theorem am_sv {y' : am_Y} {d' n idx : Nat} {rest : List am_V} {P : am_H → Prop} (hM : am_Ct l D dA y' d' 0 0 (n0 + cells) av h (am_qv P)) (K : am_ms y' n) (hlk : Cond.methodLink y.1.cls idx y'.1 ∈ am_G) (hdg : decode y.2.1 pc = .ok (.invokestatic idx, 3)) (hq : q = pc) (hn : av.length = n) (hst0 : S = av.reverse ++ rest) (hrest : Nat.ble rest.length 8 = true) (hd : d' + 1 ≤ d) (hm1 : cells ≤ mc) (hm2 : slots ≤ ms)
    (kk : ∀ h', P h' → am_At l D dA y d mc ms rc rs n0 X Qa cells slots (pc + 3) L rest h') : am_At l D dA y d mc ms rc rs n0 X Qa cells slots q L S h :=
  am_callS hM K hlk hdg hq hn hst0 (Nat.le_of_ble_eq_true hrest) hd hm1 hm2 (fun r h' hq => by obtain ⟨rfl, hx⟩ := hq; exact kk h' hx)
theorem am_sin {y' : am_Y} {host : String} {d' n idx : Nat} {rest : List am_V} {P : Int32 → am_H → Prop} (hM : am_Ct l D dA y' d' 0 0 (n0 + cells) av h (am_qi P)) (K : am_ms y' n) (hlk : Cond.methodLinkNest y.1.cls idx y'.1 host ∈ am_N) (hdg : decode y.2.1 pc = .ok (.invokestatic idx, 3)) (hq : q = pc) (hn : av.length = n) (hst0 : S = av.reverse ++ rest) (hrest : Nat.ble rest.length 8 = true) (hd : d' + 1 ≤ d) (hm1 : cells ≤ mc) (hm2 : slots ≤ ms)
    (kk : ∀ x h', P x h' → am_At l D dA y d mc ms rc rs n0 X Qa cells slots (pc + 3) L (.inl x :: rest) h') : am_At l D dA y d mc ms rc rs n0 X Qa cells slots q L S h :=
  am_callSN hM K hlk hdg hq hn hst0 (Nat.le_of_ble_eq_true hrest) hd hm1 hm2 (fun r h' hq => by obtain ⟨x, rfl, hx⟩ := hq; exact kk x h' hx)
/-- the same place with other names for what is there -/
theorem am_eq {L' : List (Option am_V)} {S' : List am_V} {h' : am_H} {q' : Nat} (hp : q = q') (hL : L = L') (hS : S = S') (hh : h = h') (k : am_At l D dA y d mc ms rc rs n0 X Qa cells slots q' L' S' h') : am_At l D dA y d mc ms rc rs n0 X Qa cells slots q L S h := by
  subst hp; subst hL; subst hS; subst hh; exact k
end AMU
/-! ===== booleans; places of a row ===== -/
def am_bz (b : Bool) : Int32 := if b then nI 1 else nI 0
theorem am_bz_01 (b : Bool) : am_bz b = 0 ∨ am_bz b = 1 := by cases b; exact Or.inl (by decide +kernel); exact Or.inr (by decide +kernel)
theorem am_bz_f {b : Bool} (h : am_bz b = 0) : b = false := by cases b; rfl; exact absurd h (by decide +kernel)
theorem am_bz_t {b : Bool} (h : ¬ am_bz b = 0) : b = true := by cases b; exact absurd (by decide +kernel) h; rfl
section AMB
variable {l : Launch} {D : va_G} {dA : Bool → ClassId} {y : am_Y} {d mc ms rc rs n0 : Nat} {X : Option (Nat × (Nat → Int32))} {Qa : Option am_V → am_H → Prop} {cells slots pc q : Nat} {L : List (Option am_V)} {S av : List am_V} {h : am_H}
theorem am_bif_eq {b : Bool} {off : Int} (tgt : Nat) (hdg : decode y.2.1 pc = .ok (.ifCond .eq off, 3)) (hq : q = pc) (ht : (pc : Int) + off = (tgt : Int)) (kt : b = false → am_At l D dA y d mc ms rc rs n0 X Qa cells slots tgt L S h) (kf : b = true → am_At l D dA y d mc ms rc rs n0 X Qa cells slots (pc + 3) L S h) : am_At l D dA y d mc ms rc rs n0 X Qa cells slots q L (.inl (am_bz b) :: S) h :=
  am_if_eq tgt hdg hq ht (fun g => kt (am_bz_f g)) (fun g => kf (am_bz_t g))
theorem am_bif_ne {b : Bool} {off : Int} (tgt : Nat) (hdg : decode y.2.1 pc = .ok (.ifCond .ne off, 3)) (hq : q = pc) (ht : (pc : Int) + off = (tgt : Int)) (kt : b = true → am_At l D dA y d mc ms rc rs n0 X Qa cells slots tgt L S h) (kf : b = false → am_At l D dA y d mc ms rc rs n0 X Qa cells slots (pc + 3) L S h) : am_At l D dA y d mc ms rc rs n0 X Qa cells slots q L (.inl (am_bz b) :: S) h :=
  am_if_ne tgt hdg hq ht (fun g => kt (am_bz_t g)) (fun g => kf (am_bz_f g))
end AMB
/-- the place that an index is, of a row of c -/
def ix (i : Int32) (c : Nat) : Option Nat := if 0 ≤ i.toInt ∧ i.toInt < c then some i.toInt.toNat else none
theorem ix_in {c k : Nat} (h : k < c) (hc : c < 2 ^ 31) : ix (nI k) c = some k := by
  unfold ix
  rw [nI_toInt (by omega), if_pos (by omega)]
  rfl
theorem ix_neg {i : Int32} {c : Nat} (h : i < 0) : ix i c = none := by
  unfold ix
  have h1 := Int32.lt_iff_toInt_lt.mp h
  rw [Int32.toInt_zero] at h1
  rw [if_neg (by omega)]
theorem ix_big {i : Int32} {c : Nat} (h : nI c ≤ i) (hc : c < 2 ^ 31) : ix i c = none := by
  unfold ix
  have h1 := Int32.le_iff_toInt_le.mp h
  rw [nI_toInt hc] at h1
  rw [if_neg (by omega)]
theorem ix_of {i : Int32} {c : Nat} (h0 : ¬ i < 0) (h : ¬ nI c ≤ i) (hc : c < 2 ^ 31) : ∃ k, k < c ∧ i = nI k := by
  rcases pk_ix i hc with g | g | g
  · exact absurd g h0
  · exact absurd g h
  · exact g
theorem ix_some {i : Int32} {c k : Nat} (h : ix i c = some k) : k < c ∧ i = nI k := by
  unfold ix at h
  split at h
  · rename_i g
    cases h
    refine ⟨by omega, ?_⟩
    have h1 := Int32.toInt_lt i
    apply Int32.toInt_inj.mp
    rw [nI_toInt (by omega)]
    omega
  · cases h
theorem ix_none {i : Int32} {c : Nat} (h : ix i c = none) (hc : c < 2 ^ 31) : i < 0 ∨ nI c ≤ i := by
  rcases pk_ix i hc with g | g | ⟨k, g1, rfl⟩
  · exact Or.inl g
  · exact Or.inr g
  · rw [ix_in g1 hc] at h
    cases h
end
section
/-! ===== pure: heaps but for some cells ===== -/
def am_fr (h0 h' : am_H) (F : List Nat) : Prop := ∀ j, j ∉ F → h' j = h0 j
theorem am_fr.rf {h : am_H} {F : List Nat} : am_fr h h F := fun _ _ => rfl
theorem am_fr.set {h0 h' : am_H} {F : List Nat} {k : Nat} {e : am_E} (h : am_fr h0 h' F) (hk : k ∈ F) : am_fr h0 (am_set h' k e) F := fun j hj => by
  have n : j ≠ k := fun q => hj (by rw [q]; exact hk)
  rw [am_set_ne n]
  exact h j hj
theorem am_fr.tr {h0 h1 h2 : am_H} {F G : List Nat} (a : am_fr h0 h1 F) (b : am_fr h1 h2 G) (hs : ∀ j, j ∈ G → j ∈ F) : am_fr h0 h2 F := fun j hj => by
  rw [b j (fun q => hj (hs j q))]
  exact a j hj
theorem am_set_set {h : am_H} {k : Nat} {e e' : am_E} : am_set (am_set h k e) k e' = am_set h k e' := by
  funext j
  by_cases hj : j = k <;> simp [am_set, hj]
theorem am_set_comm {h : am_H} {k k' : Nat} {e e' : am_E} (n : k ≠ k') : am_set (am_set h k e) k' e' = am_set (am_set h k' e') k e := by
  funext j
  by_cases hj : j = k
  · subst hj
    simp [am_set, n]
  · simp [am_set, hj]
theorem am_set_self {h : am_H} {k : Nat} {e : am_E} (hk : h k = some e) : am_set h k e = h := by
  funext j
  by_cases hj : j = k
  · subst hj
    simp [am_set, hk]
  · simp [am_set, hj]
theorem upd_eq {f : Nat → Int32} {k : Nat} {x : Int32} : upd f k x k = x := by simp [upd]
theorem upd_ne {f : Nat → Int32} {k j : Nat} {x : Int32} (h : j ≠ k) : upd f k x j = f j := by simp [upd, h]
/-! ===== pure: trees of codes ===== -/
/-- how many of the first m symbols have the length n -/
def cnt (len : Nat → Nat) (n : Nat) : Nat → Nat
  | 0 => 0
  | m + 1 => cnt len n m + (if len m = n then 1 else 0)
/-- the first code of length n -/
def frst (len : Nat → Nat) (m : Nat) : Nat → Nat
  | 0 => 0
  | n + 1 => 2 * (frst len m n + (if n = 0 then 0 else cnt len n m))
/-- how many symbols have a code shorter than n -/
def plc (len : Nat → Nat) (m : Nat) : Nat → Nat
  | 0 => 0
  | n + 1 => plc len m n + (if n = 0 then 0 else cnt len n m)
def smk (len : Nat → Nat) (m : Nat) : Nat → Nat
  | 0 => 0
  | n + 1 => smk len m n + (if n = 0 then 0 else cnt len n m * 2 ^ (16 - n))
def krf (len : Nat → Nat) : Nat → Nat
  | 0 => 0
  | m + 1 => krf len m + (if len m = 0 then 0 else 2 ^ (16 - len m))
theorem cnt_le (len : Nat → Nat) (n m : Nat) : cnt len n m ≤ m := by
  induction m with
  | zero => exact Nat.le_refl _
  | succ m ih => unfold cnt; split <;> omega
theorem cnt_mono (len : Nat → Nat) (n : Nat) {a b : Nat} (h : a ≤ b) : cnt len n a ≤ cnt len n b := by
  induction b with
  | zero => rw [Nat.le_zero.mp h]; exact Nat.le_refl _
  | succ b ih =>
    by_cases g : a = b + 1
    · rw [g]; exact Nat.le_refl _
    · have := ih (by omega)
      show _ ≤ cnt len n b + _
      omega
theorem cnt_lt {len : Nat → Nat} {n s m : Nat} (hs : s < m) (hl : len s = n) : cnt len n s < cnt len n m := by
  have h1 : cnt len n (s + 1) ≤ cnt len n m := cnt_mono len n hs
  have h2 : cnt len n (s + 1) = cnt len n s + 1 := by show _ + _ = _; rw [if_pos hl]
  omega
theorem cnt_nth {len : Nat → Nat} {n : Nat} : ∀ {m j : Nat}, j < cnt len n m → ∃ s, s < m ∧ len s = n ∧ cnt len n s = j
  | 0, j, h => absurd h (Nat.not_lt_zero _)
  | m + 1, j, h => by
    have h : j < cnt len n m + (if len m = n then 1 else 0) := h
    by_cases g : j < cnt len n m
    · obtain ⟨s, h1, h2, h3⟩ := cnt_nth g
      exact ⟨s, by omega, h2, h3⟩
    · split at h
      · rename_i hl
        exact ⟨m, by omega, hl, by omega⟩
      · omega
theorem cnt_inj {len : Nat → Nat} {n s t : Nat} (hs : len s = n) (ht : len t = n) (h : cnt len n s = cnt len n t) : s = t := by
  rcases Nat.lt_trichotomy s t with g | g | g
  · have := cnt_lt g hs; omega
  · exact g
  · have := cnt_lt g ht; omega
theorem cnt_congr {len len' : Nat → Nat} {n : Nat} : ∀ {m : Nat}, (∀ s, s < m → len s = len' s) → cnt len n m = cnt len' n m
  | 0, _ => rfl
  | m + 1, h => by
    show cnt len n m + _ = cnt len' n m + _
    rw [cnt_congr (fun s hs => h s (by omega)), h m (by omega)]
theorem frst_congr {len len' : Nat → Nat} {m : Nat} (h : ∀ s, s < m → len s = len' s) : ∀ n, frst len m n = frst len' m n
  | 0 => rfl
  | n + 1 => by
    show 2 * _ = 2 * _
    rw [frst_congr h n, cnt_congr h]
theorem smk_frst (len : Nat → Nat) (m : Nat) : ∀ n, n ≤ 16 → smk len m n = frst len m n * 2 ^ (16 - n)
  | 0, _ => by simp [smk, frst]
  | n + 1, h => by
    have ih := smk_frst len m n (by omega)
    show smk len m n + _ = 2 * _ * _
    rw [ih]
    have e : 2 ^ (16 - n) = 2 * 2 ^ (16 - (n + 1)) := by
      rw [show 16 - n = (16 - (n + 1)) + 1 by omega, Nat.pow_succ, Nat.mul_comm]
    split
    · rename_i g
      subst g
      simp [frst]
    · rw [e]
      generalize 2 ^ (16 - (n + 1)) = u
      rw [Nat.mul_comm 2 (frst len m n + cnt len n m), Nat.mul_assoc, Nat.add_mul]
theorem smk_17 (len : Nat → Nat) (m : Nat) : smk len m 17 = frst len m 16 + cnt len 16 m := by
  show smk len m 16 + _ = _
  rw [smk_frst len m 16 (by omega)]
  simp
theorem smk_succ (len : Nat → Nat) (m : Nat) : ∀ n, smk len (m + 1) n = smk len m n + (if 1 ≤ len m ∧ len m < n then 2 ^ (16 - len m) else 0)
  | 0 => by simp [smk]
  | n + 1 => by
    have ih := smk_succ len m n
    show smk len (m + 1) n + (if n = 0 then 0 else cnt len n (m + 1) * 2 ^ (16 - n)) = smk len m n + (if n = 0 then 0 else cnt len n m * 2 ^ (16 - n)) + _
    rw [ih]
    by_cases h0 : n = 0
    · subst h0
      rw [if_pos rfl, if_pos rfl, if_neg (by omega), if_neg (by omega)]
    · rw [if_neg h0, if_neg h0]
      show _ + (cnt len n m + (if len m = n then 1 else 0)) * _ = _
      by_cases h1 : len m = n
      · rw [if_pos h1, if_neg (by omega), if_pos (by omega), Nat.add_mul, h1]
        omega
      · rw [if_neg h1, Nat.add_zero]
        by_cases h2 : 1 ≤ len m ∧ len m < n
        · rw [if_pos h2, if_pos (by omega)]
          omega
        · rw [if_neg h2, if_neg (by omega)]
          omega
theorem krf_smk (len : Nat → Nat) : ∀ m, (∀ s, s < m → len s ≤ 16) → krf len m = smk len m 17
  | 0, _ => by
    have : ∀ n, smk len 0 n = 0 := by
      intro n
      induction n with
      | zero => rfl
      | succ n ih => show smk len 0 n + _ = 0; rw [ih]; split <;> simp [cnt]
    rw [this]
    rfl
  | m + 1, h => by
    rw [smk_succ, ← krf_smk len m (fun s hs => h s (by omega))]
    show krf len m + _ = _
    have := h m (by omega)
    by_cases g : len m = 0
    · rw [if_pos g, if_neg (by omega)]
    · rw [if_neg g, if_pos (by omega)]
theorem smk_le_krf (len : Nat → Nat) (m : Nat) (h : ∀ s, s < m → len s ≤ 16) (n : Nat) (hn : n ≤ 17) : smk len m n ≤ krf len m := by
  rw [krf_smk len m h]
  have : ∀ k, smk len m (17 - k) ≤ smk len m 17 := by
    intro k
    induction k with
    | zero => exact Nat.le_refl _
    | succ k ih =>
      by_cases g : k < 17
      · have e : 17 - k = (17 - (k + 1)) + 1 := by omega
        rw [e] at ih
        exact Nat.le_trans (Nat.le_add_right _ _) ih
      · rw [show 17 - (k + 1) = 17 - k by omega]; exact ih
  have h1 := this (17 - n)
  rwa [show 17 - (17 - n) = n by omega] at h1
theorem krf_le (len : Nat → Nat) : ∀ m, krf len m ≤ m * 2 ^ 15
  | 0 => Nat.zero_le _
  | m + 1 => by
    have ih := krf_le len m
    show krf len m + _ ≤ _
    have h1 : (if len m = 0 then 0 else 2 ^ (16 - len m)) ≤ 2 ^ 15 := by
      split
      · omega
      · exact Nat.pow_le_pow_right (by omega) (by omega)
    have e : (m + 1) * 2 ^ 15 = m * 2 ^ 15 + 2 ^ 15 := Nat.succ_mul _ _
    omega
theorem plc_le (len : Nat → Nat) (m : Nat) : ∀ n, plc len m n + (if n = 0 then 0 else cnt len n m) ≤ m := by
  intro n
  induction m generalizing n with
  | zero =>
    have : ∀ n, plc len 0 n = 0 := by
      intro n
      induction n with
      | zero => rfl
      | succ n ih => show plc len 0 n + _ = 0; rw [ih]; split <;> simp [cnt]
    rw [this]
    split <;> simp [cnt]
  | succ m ih =>
    have key : ∀ n, plc len (m + 1) n = plc len m n + (if 1 ≤ len m ∧ len m < n then 1 else 0) := by
      intro n
      induction n with
      | zero => simp [plc]
      | succ n ih2 =>
        show plc len (m + 1) n + (if n = 0 then 0 else cnt len n (m + 1)) = plc len m n + (if n = 0 then 0 else cnt len n m) + _
        rw [ih2]
        by_cases h0 : n = 0
        · subst h0
          rw [if_pos rfl, if_pos rfl, if_neg (by omega), if_neg (by omega)]
        · rw [if_neg h0, if_neg h0]
          show _ + (cnt len n m + (if len m = n then 1 else 0)) = _
          by_cases h1 : len m = n
          · rw [if_pos h1, if_neg (by omega), if_pos (by omega)]; omega
          · rw [if_neg h1]
            by_cases h2 : 1 ≤ len m ∧ len m < n
            · rw [if_pos h2, if_pos (by omega)]; omega
            · rw [if_neg h2, if_neg (by omega)]; omega
    have h1 := ih n
    rw [key n]
    by_cases h0 : n = 0
    · subst h0
      simp [plc]
    · rw [if_neg h0] at h1 ⊢
      show _ + (cnt len n m + (if len m = n then 1 else 0)) ≤ _
      by_cases h2 : len m = n
      · rw [if_pos h2, if_neg (by omega)]; omega
      · rw [if_neg h2]
        split <;> omega
theorem plc_lt {len : Nat → Nat} {m n s : Nat} (hn : n ≠ 0) (hs : s < m) (hl : len s = n) : plc len m n + cnt len n s < m := by
  have h1 := plc_le len m n
  rw [if_neg hn] at h1
  have h2 := cnt_lt hs hl
  omega
/-! ===== pure: bits ===== -/
/-- bit k of a row -/
def bt (f : Nat → Int32) (k : Nat) : Nat := (f (k / 8) >>> (nI (7 - k % 8) &&& 31)).toBitVec.toNat % 2
theorem bt_lt (f : Nat → Int32) (k : Nat) : bt f k < 2 := Nat.mod_lt _ (by decide)
/-- the number of n bits from bit k on -/
def num (f : Nat → Int32) (k : Nat) : Nat → Nat
  | 0 => 0
  | n + 1 => 2 * num f k n + bt f (k + n)
theorem num_lt (f : Nat → Int32) (k : Nat) : ∀ n, num f k n < 2 ^ n
  | 0 => Nat.lt_of_sub_pos (by exact Nat.one_pos)
  | n + 1 => by
    have h1 := num_lt f k n
    have h2 := bt_lt f (k + n)
    show 2 * _ + _ < _
    rw [Nat.pow_succ]
    omega
theorem bt_and (f : Nat → Int32) (k : Nat) : (f (k / 8) >>> (nI (7 - k % 8) &&& 31)) &&& nI 1 = nI (bt f k) := pk_and _ (m := nI 1) 1 (by decide +kernel)
theorem nI_or1 {v b : Nat} (hv : 2 * v + 1 < 2 ^ 31) (hb : b < 2) : (nI v <<< (nI 1 &&& 31)) ||| nI b = nI (2 * v + b) := by
  rw [show (nI 1 &&& 31 : Int32) = nI 1 by decide +kernel, pk_shlN (n := v) (nI 1) 1 (by decide +kernel) (by omega)]
  apply Int32.toBitVec_inj.mp
  apply BitVec.eq_of_toNat_eq
  rw [Int32.toBitVec_or, BitVec.toNat_or, pk_tn (by omega), pk_tn (by omega), pk_tn (by omega)]
  rw [Nat.mul_comm v, show 2 * v = 2 ^ 1 * v by rfl]
  exact (Nat.two_pow_add_eq_or_of_lt (i := 1) (by simpa using hb) v).symm
/-- where a code of a tree ends: the first length at which the bits are one -/
def dec (len : Nat → Nat) (m : Nat) (f : Nat → Int32) (k n j : Nat) : Prop := 1 ≤ n ∧ n ≤ 16 ∧ (∀ n', 1 ≤ n' → n' < n → frst len m n' + cnt len n' m ≤ num f k n') ∧ num f k n = frst len m n + j ∧ j < cnt len n m
theorem dec_ge {len : Nat → Nat} {m : Nat} {f : Nat → Int32} {k : Nat} : ∀ {n : Nat}, (∀ n', 1 ≤ n' → n' < n → frst len m n' + cnt len n' m ≤ num f k n') → frst len m n ≤ num f k n
  | 0, _ => Nat.zero_le _
  | 1, _ => Nat.zero_le _
  | n + 2, h => by
    have h1 := h (n + 1) (by omega) (by omega)
    show 2 * (frst len m (n + 1) + (if n + 1 = 0 then 0 else cnt len (n + 1) m)) ≤ 2 * num f k (n + 1) + _
    rw [if_neg (by omega)]
    omega
/-- in a complete tree every row of bits begins with a code -/
theorem dec_ex {len : Nat → Nat} {m : Nat} (hl : ∀ s, s < m → len s ≤ 16) (hk : krf len m = 65536) (f : Nat → Int32) (k : Nat) : ∃ n j, dec len m f k n j := by
  have key : ∀ q n, n + q = 17 → 1 ≤ n → (∀ n', 1 ≤ n' → n' < n → frst len m n' + cnt len n' m ≤ num f k n') → ∃ n j, dec len m f k n j := by
    intro q
    induction q with
    | zero =>
      intro n hn h1 h
      have h2 := h 16 (by omega) (by omega)
      rw [← smk_17, ← krf_smk len m hl, hk] at h2
      have := num_lt f k 16
      omega
    | succ q ih =>
      intro n hn h1 h
      have h2 := dec_ge h
      by_cases g : num f k n < frst len m n + cnt len n m
      · exact ⟨n, num f k n - frst len m n, h1, by omega, h, by omega, by omega⟩
      · refine ih (n + 1) (by omega) (by omega) (fun n' a b => ?_)
        by_cases e : n' = n
        · subst e; omega
        · exact h n' a (by omega)
  exact key 16 1 (by omega) (by omega) (fun n' a b => by omega)
end
section
/-! ===== shifts by a small number ===== -/
theorem am_m31 {k : Nat} (h : k < 32) : (nI k &&& 31 : Int32) = nI k := by
  have := pk_andN (n := k) (by omega) (m := 31) 5 (by decide +kernel)
  rw [this, Nat.mod_eq_of_lt (by omega)]
theorem am_smod {k : Nat} (h : k < 32) : ((nI k).toBitVec.smod 32).toNat = k := by
  have key : ∀ k : Fin 32, ((nI k.1).toBitVec.smod 32).toNat = k.1 := by decide +kernel
  exact key ⟨k, h⟩
theorem am_nm1 {k : Nat} (h : k < 2 ^ 31) : ¬ nI k = -1 := by
  intro e
  have h1 := congrArg Int32.toInt e
  rw [nI_toInt h, show (-1 : Int32).toInt = -1 by decide +kernel] at h1
  omega
end
section
/-! ===== ByteRow ===== -/
section ROW
variable {l : Launch} {D : va_G} {dA : Bool → ClassId}
set_option maxHeartbeats 4000000 in
set_option maxRecDepth 100000 in
theorem t_X3_count (d n0 : Nat) {h : am_H} {r a c : Nat} (hr : h r = some (.inr (3, [am_r a, .inl (nI c)]))) : am_Ct l D dA m_X3_count d 0 0 n0 [am_r r] h (am_qi fun x h' => x = nI c ∧ h' = h) := by
  refine am_Ci (by decide +kernel) rfl rfl ?_
  refine am_aload_n dX3_count_0 rfl rfl ?_
  refine am_get f_X3_15 dX3_count_1 rfl hr rfl ?_
  exact am_ri dX3_count_4 rfl rfl rfl ⟨rfl, rfl⟩
set_option maxHeartbeats 4000000 in
set_option maxRecDepth 100000 in
theorem t_X3_hasRoomFor (d n0 : Nat) {h : am_H} {r a c : Nat} (hr : h r = some (.inr (3, [am_r a, .inl (nI c)]))) {n : Nat} {f : Nat → Int32} (ha : h a = some (.inl (false, n, f))) (hne : a ≠ r) (hn : n < 2 ^ 31) (hcn : c ≤ n) (v : Int32) : am_Ct l D dA m_X3_hasRoomFor d 0 0 n0 [am_r r, .inl v] h (am_qi fun x h' => x = am_bz (decide (v ≤ nI (n - c))) ∧ h' = h) := by
  refine am_Cz (by decide +kernel) rfl (fun x h' hx => by rw [hx.1]; exact am_bz_01 _) rfl ?_
  refine am_iload_n dX3_hasRoomFor_0 rfl rfl ?_
  refine am_aload_n dX3_hasRoomFor_1 rfl rfl ?_
  refine am_get f_X3_9 dX3_hasRoomFor_2 rfl hr rfl ?_
  refine am_alen dX3_hasRoomFor_5 rfl ha ?_
  refine am_aload_n dX3_hasRoomFor_6 rfl rfl ?_
  refine am_get f_X3_15 dX3_hasRoomFor_7 rfl hr rfl ?_
  refine am_isub dX3_hasRoomFor_10 rfl ?_
  rw [pk_sub hcn]
  refine am_icmp_gt 18 dX3_hasRoomFor_11 rfl rfl (fun hc => ?_) (fun hc => ?_)
  · refine am_iconst (v := nI 0) dX3_hasRoomFor_18 rfl (by decide +kernel) ?_
    exact am_ri dX3_hasRoomFor_19 rfl rfl rfl ⟨by rw [decide_eq_false (fun g => absurd g (Int32.not_le.mpr hc))]; rfl, rfl⟩
  · refine am_iconst (v := nI 1) dX3_hasRoomFor_14 rfl (by decide +kernel) ?_
    refine am_goto 19 dX3_hasRoomFor_15 rfl rfl ?_
    exact am_ri dX3_hasRoomFor_19 rfl rfl rfl ⟨by rw [decide_eq_true (Int32.not_lt.mp hc)]; rfl, rfl⟩
set_option maxHeartbeats 4000000 in
set_option maxRecDepth 100000 in
theorem t_X3_has (d n0 : Nat) {h : am_H} {r a c : Nat} (hr : h r = some (.inr (3, [am_r a, .inl (nI c)]))) (hc : c < 2 ^ 31) (i : Int32) : am_Ct l D dA m_X3_has d 0 0 n0 [am_r r, .inl i] h (am_qi fun x h' => x = am_bz (ix i c).isSome ∧ h' = h) := by
  refine am_Cz (by decide +kernel) rfl (fun x h' hx => by rw [hx.1]; exact am_bz_01 _) rfl ?_
  refine am_iload_n dX3_has_0 rfl rfl ?_
  refine am_if_lt 16 dX3_has_1 rfl rfl (fun h0 => ?_) (fun h0 => ?_)
  · refine am_iconst (v := nI 0) dX3_has_16 rfl (by decide +kernel) ?_
    exact am_ri dX3_has_17 rfl rfl rfl ⟨by rw [ix_neg h0]; rfl, rfl⟩
  · refine am_iload_n dX3_has_4 rfl rfl ?_
    refine am_aload_n dX3_has_5 rfl rfl ?_
    refine am_get f_X3_15 dX3_has_6 rfl hr rfl ?_
    refine am_icmp_ge 16 dX3_has_9 rfl rfl (fun h1 => ?_) (fun h1 => ?_)
    · refine am_iconst (v := nI 0) dX3_has_16 rfl (by decide +kernel) ?_
      exact am_ri dX3_has_17 rfl rfl rfl ⟨by rw [ix_big h1 hc]; rfl, rfl⟩
    · refine am_iconst (v := nI 1) dX3_has_12 rfl (by decide +kernel) ?_
      refine am_goto 17 dX3_has_13 rfl rfl ?_
      exact am_ri dX3_has_17 rfl rfl rfl ⟨by obtain ⟨j, hj, rfl⟩ := ix_of h0 h1 hc; rw [ix_in hj hc]; rfl, rfl⟩
set_option maxHeartbeats 4000000 in
set_option maxRecDepth 100000 in
theorem t_X3_at (d n0 : Nat) {h : am_H} {r a c : Nat} (hr : h r = some (.inr (3, [am_r a, .inl (nI c)]))) {n : Nat} {f : Nat → Int32} (ha : h a = some (.inl (false, n, f))) (hne : a ≠ r) (hn : n < 2 ^ 31) (hcn : c ≤ n) (hd : 1 ≤ d) (i : Int32) : am_Ct l D dA m_X3_at d 0 0 n0 [am_r r, .inl i] h (am_qi fun x h' => x = (match ix i c with | some k => f k | none => -1) ∧ h' = h) := by
  refine am_Ci (by decide +kernel) rfl rfl ?_
  refine am_aload_n dX3_at_0 rfl rfl ?_
  refine am_iload_n dX3_at_1 rfl rfl ?_
  refine am_vi (t_X3_has (d - 1) _ hr (by omega) i) k_X3_has l_X3_19 dX3_at_2 rfl rfl rfl rfl hr (by omega) (Nat.le_refl _) (Nat.le_refl _) (fun x h1 hx => ?_)
  obtain ⟨rfl, rfl⟩ := hx
  refine am_bif_eq 17 dX3_at_5 rfl rfl (fun hc => ?_) (fun hc => ?_)
  · refine am_iconst (v := -1) dX3_at_17 rfl (by decide +kernel) ?_
    exact am_ri dX3_at_18 rfl rfl rfl ⟨by rw [Option.isSome_eq_false_iff.mp hc |> Option.isNone_iff_eq_none.mp], rfl⟩
  · obtain ⟨j, hj⟩ := Option.isSome_iff_exists.mp hc
    obtain ⟨hj1, rfl⟩ := ix_some hj
    refine am_aload_n dX3_at_8 rfl rfl ?_
    refine am_get f_X3_9 dX3_at_9 rfl hr rfl ?_
    refine am_iload_n dX3_at_12 rfl rfl ?_
    refine am_iald dX3_at_13 rfl ha (by omega) (by omega) ?_
    refine am_goto 18 dX3_at_14 rfl rfl ?_
    exact am_ri dX3_at_18 rfl rfl rfl ⟨by rw [hj], rfl⟩
set_option maxHeartbeats 4000000 in
set_option maxRecDepth 100000 in
theorem t_X3_change (d n0 : Nat) {h : am_H} {r a c : Nat} (hr : h r = some (.inr (3, [am_r a, .inl (nI c)]))) {n : Nat} {f : Nat → Int32} (ha : h a = some (.inl (false, n, f))) (hne : a ≠ r) (hn : n < 2 ^ 31) (hcn : c ≤ n) (hd : 1 ≤ d) (i v : Int32) : am_Ct l D dA m_X3_change d 0 0 n0 [am_r r, .inl i, .inl v] h (am_qv fun h' => (∀ k, ix i c = some k → h' = am_set h a (.inl (false, n, upd f k v))) ∧ (ix i c = none → h' = h)) := by
  refine am_Cv (by decide +kernel) rfl rfl ?_
  refine am_aload_n dX3_change_0 rfl rfl ?_
  refine am_iload_n dX3_change_1 rfl rfl ?_
  refine am_vi (t_X3_has (d - 1) _ hr (by omega) i) k_X3_has l_X3_19 dX3_change_2 rfl rfl rfl rfl hr (by omega) (Nat.le_refl _) (Nat.le_refl _) (fun x h1 hx => ?_)
  obtain ⟨rfl, rfl⟩ := hx
  refine am_bif_eq 15 dX3_change_5 rfl rfl (fun hc => ?_) (fun hc => ?_)
  · exact am_rv dX3_change_15 rfl rfl rfl ⟨fun k hk => (by rw [hk] at hc; cases hc), fun _ => rfl⟩
  · obtain ⟨j, hj⟩ := Option.isSome_iff_exists.mp hc
    obtain ⟨hj1, rfl⟩ := ix_some hj
    refine am_aload_n dX3_change_8 rfl rfl ?_
    refine am_get f_X3_9 dX3_change_9 rfl hr rfl ?_
    refine am_iload_n dX3_change_12 rfl rfl ?_
    refine am_iload_n dX3_change_13 rfl rfl ?_
    refine am_iast dX3_change_14 rfl ha (by omega) (by omega) ?_
    exact am_rv dX3_change_15 rfl rfl rfl ⟨fun k hk => (by rw [hj] at hk; cases hk; rfl), fun hk => (by rw [hj] at hk; cases hk)⟩
set_option maxHeartbeats 4000000 in
set_option maxRecDepth 100000 in
theorem t_X3_add (d n0 : Nat) {h : am_H} {r a c : Nat} (hr : h r = some (.inr (3, [am_r a, .inl (nI c)]))) {n : Nat} {f : Nat → Int32} (ha : h a = some (.inl (false, n, f))) (hne : a ≠ r) (hn : n < 2 ^ 31) (hcn : c < n) (v : Int32) : am_Ct l D dA m_X3_add d 0 0 n0 [am_r r, .inl v] h (am_qv fun h' => h' = am_set (am_set h a (.inl (false, n, upd f c v))) r (.inr (3, [am_r a, .inl (nI (c + 1))]))) := by
  refine am_Cv (by decide +kernel) rfl rfl ?_
  refine am_aload_n dX3_add_0 rfl rfl ?_
  refine am_get f_X3_15 dX3_add_1 rfl hr rfl ?_
  refine am_aload_n dX3_add_4 rfl rfl ?_
  refine am_get f_X3_9 dX3_add_5 rfl hr rfl ?_
  refine am_alen dX3_add_8 rfl ha ?_
  refine am_ncmp_ge 32 dX3_add_9 rfl rfl (by omega) (by omega) (fun hc => ?_) (fun hc => ?_)
  · omega
  · refine am_aload_n dX3_add_12 rfl rfl ?_
    refine am_get f_X3_9 dX3_add_13 rfl hr rfl ?_
    refine am_aload_n dX3_add_16 rfl rfl ?_
    refine am_get f_X3_15 dX3_add_17 rfl hr rfl ?_
    refine am_iload_n dX3_add_20 rfl rfl ?_
    refine am_iast dX3_add_21 rfl ha (by omega) (by omega) ?_
    refine am_aload_n dX3_add_22 rfl rfl ?_
    refine am_dup dX3_add_23 rfl ?_
    refine am_get f_X3_15 dX3_add_24 rfl ((am_set_ne (Ne.symm hne)).trans hr) rfl ?_
    refine am_iconst (v := nI 1) dX3_add_27 rfl (by decide +kernel) ?_
    refine am_iadd dX3_add_28 rfl ?_
    refine am_put f_X3_15 dX3_add_29 rfl ((am_set_ne (Ne.symm hne)).trans hr) (am_fit_i _) rfl ?_
    exact am_rv dX3_add_32 rfl rfl rfl (by rw [nI_add]; rfl)
set_option maxHeartbeats 4000000 in
set_option maxRecDepth 100000 in
theorem t_X3_mixIntoLast (d n0 : Nat) {h : am_H} {r a c : Nat} (hr : h r = some (.inr (3, [am_r a, .inl (nI c)]))) {n : Nat} {f : Nat → Int32} (ha : h a = some (.inl (false, n, f))) (hne : a ≠ r) (hn : n < 2 ^ 31) (hcn : c ≤ n) (hc0 : 0 < c) (v : Int32) : am_Ct l D dA m_X3_mixIntoLast d 0 0 n0 [am_r r, .inl v] h (am_qv fun h' => h' = am_set h a (.inl (false, n, upd f (c - 1) (f (c - 1) ||| v)))) := by
  refine am_Cv (by decide +kernel) rfl rfl ?_
  refine am_aload_n dX3_mixIntoLast_0 rfl rfl ?_
  refine am_get f_X3_15 dX3_mixIntoLast_1 rfl hr rfl ?_
  refine am_nif_le 22 dX3_mixIntoLast_4 rfl rfl (by omega) (fun hc => ?_) (fun hc => ?_)
  · omega
  · refine am_aload_n dX3_mixIntoLast_7 rfl rfl ?_
    refine am_get f_X3_9 dX3_mixIntoLast_8 rfl hr rfl ?_
    refine am_aload_n dX3_mixIntoLast_11 rfl rfl ?_
    refine am_get f_X3_15 dX3_mixIntoLast_12 rfl hr rfl ?_
    refine am_iconst (v := nI 1) dX3_mixIntoLast_15 rfl (by decide +kernel) ?_
    refine am_isub dX3_mixIntoLast_16 rfl ?_
    rw [pk_sub (by omega)]
    refine am_dup2 dX3_mixIntoLast_17 rfl ?_
    refine am_iald dX3_mixIntoLast_18 rfl ha (by omega) (by omega) ?_
    refine am_iload_n dX3_mixIntoLast_19 rfl rfl ?_
    refine am_ior dX3_mixIntoLast_20 rfl ?_
    refine am_iast dX3_mixIntoLast_21 rfl ha (by omega) (by omega) ?_
    exact am_rv dX3_mixIntoLast_22 rfl rfl rfl rfl
set_option maxHeartbeats 4000000 in
set_option maxRecDepth 100000 in
theorem t_X3_empty (d n0 : Nat) {h : am_H} {r a c : Nat} (hr : h r = some (.inr (3, [am_r a, .inl (nI c)]))) : am_Ct l D dA m_X3_empty d 0 0 n0 [am_r r] h (am_qv fun h' => h' = am_set h r (.inr (3, [am_r a, .inl (nI 0)]))) := by
  refine am_Cv (by decide +kernel) rfl rfl ?_
  refine am_aload_n dX3_empty_0 rfl rfl ?_
  refine am_iconst (v := nI 0) dX3_empty_1 rfl (by decide +kernel) ?_
  refine am_put f_X3_15 dX3_empty_2 rfl hr (am_fit_i _) rfl ?_
  exact am_rv dX3_empty_5 rfl rfl rfl rfl
end ROW
end
section
/-! ===== Tree ===== -/
section TREE
variable {l : Launch} {D : va_G} {dA : Bool → ClassId}
abbrev trO (t : Nat) (al : Int32) : am_E := .inr (7, [am_r (t + 1), am_r (t + 2), am_r (t + 3), am_r (t + 4), am_r (t + 5), am_r (t + 6), am_r (t + 7), .inl al])
/-- the lengths up to the last one above 0 -/
def lst (len : Nat → Nat) : Nat → Nat
  | 0 => 0
  | n + 1 => if len n = 0 then lst len n else n + 1
/-- how many lengths 0 stand in a row, up to a limit -/
def zrs (len : Nat → Nat) (s : Nat) : Nat → Nat
  | 0 => 0
  | k + 1 => if len s = 0 then zrs len (s + 1) k + 1 else 0
/-- the codes of a tree are made -/
def stl (h : am_H) (t m : Nat) (len : Nat → Nat) : Prop := ∃ cf orf ct fc fp : Nat → Int32, h (t + 2) = some (.inl (false, m, cf)) ∧ h (t + 4) = some (.inl (false, m, orf)) ∧ h (t + 5) = some (.inl (false, 17, ct)) ∧ h (t + 6) = some (.inl (false, 17, fc)) ∧ h (t + 7) = some (.inl (false, 17, fp)) ∧ (∀ n, 1 ≤ n → n ≤ 16 → ct n = nI (cnt len n m) ∧ fc n = nI (frst len m n) ∧ fp n = nI (plc len m n)) ∧ ∀ s, s < m → len s ≠ 0 → cf s = nI (frst len m (len s) + cnt len (len s) s) ∧ orf (plc len m (len s) + cnt len (len s) s) = nI s
set_option maxHeartbeats 4000000 in
set_option maxRecDepth 100000 in
theorem t_fill (d n0 : Nat) {h : am_H} {a n : Nat} {f : Nat → Int32} (ha : h a = some (.inl (false, n, f))) (hn : n < 2 ^ 31) (v : Int32) : am_Ct l D dA m_J7_fill_53178 d 0 0 n0 [am_r a, .inl v] h (am_qv fun h' => h' = am_set h a (.inl (false, n, fun j => if j < n then v else f j))) := by
  refine am_Cv (by decide +kernel) rfl rfl ?_
  refine am_iconst (v := nI 0) dJ7_fill_53178_0 rfl (by decide +kernel) ?_
  refine am_istore_n dJ7_fill_53178_1 rfl rfl ?_
  refine am_aload_n dJ7_fill_53178_2 rfl rfl ?_
  refine am_alen dJ7_fill_53178_3 rfl ha ?_
  refine am_istore_n dJ7_fill_53178_4 rfl rfl ?_
  have loop : ∀ (q i : Nat), i + q = n → am_At l D dA m_J7_fill_53178 d 0 0 0 0 n0 none (am_qv fun h' => h' = am_set h a (.inl (false, n, fun j => if j < n then v else f j))) 0 0 5 [some (am_r a), some (.inl v), some (.inl (nI i)), some (.inl (nI n))] [] (am_set h a (.inl (false, n, fun j => if j < i then v else f j))) := by
    intro q
    induction q with
    | zero =>
      intro i hi
      obtain rfl : i = n := by omega
      refine am_iload_n dJ7_fill_53178_5 rfl rfl ?_
      refine am_iload_n dJ7_fill_53178_6 rfl rfl ?_
      refine am_ncmp_ge 20 dJ7_fill_53178_7 rfl rfl (by omega) (by omega) (fun hc => ?_) (fun hc => ?_)
      · exact am_rv dJ7_fill_53178_20 rfl rfl rfl rfl
      · omega
    | succ q ih =>
      intro i hi
      refine am_iload_n dJ7_fill_53178_5 rfl rfl ?_
      refine am_iload_n dJ7_fill_53178_6 rfl rfl ?_
      refine am_ncmp_ge 20 dJ7_fill_53178_7 rfl rfl (by omega) (by omega) (fun hc => ?_) (fun hc => ?_)
      · omega
      · refine am_aload_n dJ7_fill_53178_10 rfl rfl ?_
        refine am_iload_n dJ7_fill_53178_11 rfl rfl ?_
        refine am_iload_n dJ7_fill_53178_12 rfl rfl ?_
        refine am_iast dJ7_fill_53178_13 rfl am_set_eq (by omega) (by omega) ?_
        refine am_iinc (n := 1) dJ7_fill_53178_14 rfl rfl (nI_1 i) ?_
        refine am_goto 5 dJ7_fill_53178_17 rfl rfl ?_
        rw [am_set_set]
        refine am_eq rfl rfl rfl ?_ (ih (i + 1) (by omega))
        congr 4
        funext j
        by_cases hj : j = i
        · subst hj; rw [upd_eq, if_pos (by omega)]
        · rw [upd_ne hj]
          by_cases g : j < i
          · rw [if_pos g, if_pos (by omega)]
          · rw [if_neg g, if_neg (by omega)]
  refine am_eq rfl rfl rfl ?_ (loop n 0 (by omega))
  rw [show (fun j => if j < 0 then v else f j) = f from funext fun j => if_neg (Nat.not_lt_zero j)]
  exact (am_set_self ha).symm
set_option maxHeartbeats 4000000 in
set_option maxRecDepth 100000 in
theorem t_X7_symbols (d n0 : Nat) {h : am_H} {t : Nat} {al : Int32} (ht : h t = some (trO t al)) {m : Nat} {lf : Nat → Int32} (h1 : h (t + 1) = some (.inl (false, m, lf))) (hm : m < 2 ^ 20) : am_Ct l D dA m_X7_symbols d 0 0 n0 [am_r t] h (am_qi fun x h' => x = nI m ∧ h' = h) := by
  refine am_Ci (by decide +kernel) rfl rfl ?_
  refine am_aload_n dX7_symbols_0 rfl rfl ?_
  refine am_get f_X7_9 dX7_symbols_1 rfl ht rfl ?_
  refine am_alen dX7_symbols_4 rfl h1 ?_
  exact am_ri dX7_symbols_5 rfl rfl rfl ⟨rfl, rfl⟩
set_option maxHeartbeats 4000000 in
set_option maxRecDepth 100000 in
theorem t_X7_has (d n0 : Nat) {h : am_H} {t : Nat} {al : Int32} (ht : h t = some (trO t al)) {m : Nat} {lf : Nat → Int32} (h1 : h (t + 1) = some (.inl (false, m, lf))) (hm : m < 2 ^ 20) (i : Int32) : am_Ct l D dA m_X7_has d 0 0 n0 [am_r t, .inl i] h (am_qi fun x h' => x = am_bz (ix i m).isSome ∧ h' = h) := by
  refine am_Cz (by decide +kernel) rfl (fun x h' hx => by rw [hx.1]; exact am_bz_01 _) rfl ?_
  refine am_iload_n dX7_has_0 rfl rfl ?_
  refine am_if_lt 17 dX7_has_1 rfl rfl (fun h0 => ?_) (fun h0 => ?_)
  · refine am_iconst (v := nI 0) dX7_has_17 rfl (by decide +kernel) ?_
    exact am_ri dX7_has_18 rfl rfl rfl ⟨by rw [ix_neg h0]; rfl, rfl⟩
  · refine am_iload_n dX7_has_4 rfl rfl ?_
    refine am_aload_n dX7_has_5 rfl rfl ?_
    refine am_get f_X7_9 dX7_has_6 rfl ht rfl ?_
    refine am_alen dX7_has_9 rfl h1 ?_
    refine am_icmp_ge 17 dX7_has_10 rfl rfl (fun h2 => ?_) (fun h2 => ?_)
    · refine am_iconst (v := nI 0) dX7_has_17 rfl (by decide +kernel) ?_
      exact am_ri dX7_has_18 rfl rfl rfl ⟨by rw [ix_big h2 (by omega)]; rfl, rfl⟩
    · refine am_iconst (v := nI 1) dX7_has_13 rfl (by decide +kernel) ?_
      refine am_goto 18 dX7_has_14 rfl rfl ?_
      exact am_ri dX7_has_18 rfl rfl rfl ⟨by obtain ⟨j, hj, rfl⟩ := ix_of h0 h2 (by omega); rw [ix_in hj (by omega)]; rfl, rfl⟩
set_option maxHeartbeats 4000000 in
set_option maxRecDepth 100000 in
theorem t_X7_lengthOf (d n0 : Nat) {h : am_H} {t : Nat} {al : Int32} (ht : h t = some (trO t al)) {m : Nat} {lf : Nat → Int32} (h1 : h (t + 1) = some (.inl (false, m, lf))) (hm : m < 2 ^ 20) (hd : 1 ≤ d) (i : Int32) : am_Ct l D dA m_X7_lengthOf d 0 0 n0 [am_r t, .inl i] h (am_qi fun x h' => x = (match ix i m with | some k => lf k | none => -1) ∧ h' = h) := by
  refine am_Ci (by decide +kernel) rfl rfl ?_
  refine am_aload_n dX7_lengthOf_0 rfl rfl ?_
  refine am_iload_n dX7_lengthOf_1 rfl rfl ?_
  refine am_vi (t_X7_has (d - 1) _ ht h1 hm i) k_X7_has l_X7_43 dX7_lengthOf_2 rfl rfl rfl rfl ht (by omega) (Nat.le_refl _) (Nat.le_refl _) (fun x h1 hx => ?_)
  obtain ⟨rfl, rfl⟩ := hx
  refine am_bif_eq 17 dX7_lengthOf_5 rfl rfl (fun hc => ?_) (fun hc => ?_)
  · refine am_iconst (v := -1) dX7_lengthOf_17 rfl (by decide +kernel) ?_
    exact am_ri dX7_lengthOf_18 rfl rfl rfl ⟨by rw [Option.isSome_eq_false_iff.mp hc |> Option.isNone_iff_eq_none.mp], rfl⟩
  · obtain ⟨j, hj⟩ := Option.isSome_iff_exists.mp hc
    obtain ⟨hj1, rfl⟩ := ix_some hj
    refine am_aload_n dX7_lengthOf_8 rfl rfl ?_
    refine am_get f_X7_9 dX7_lengthOf_9 rfl ht rfl ?_
    refine am_iload_n dX7_lengthOf_12 rfl rfl ?_
    refine am_iald dX7_lengthOf_13 rfl h1 (by omega) (by omega) ?_
    refine am_goto 18 dX7_lengthOf_14 rfl rfl ?_
    exact am_ri dX7_lengthOf_18 rfl rfl rfl ⟨by rw [hj], rfl⟩
set_option maxHeartbeats 4000000 in
set_option maxRecDepth 100000 in
theorem t_X7_codeOf (d n0 : Nat) {h : am_H} {t : Nat} {al : Int32} (ht : h t = some (trO t al)) {m : Nat} {lf : Nat → Int32} (h1 : h (t + 1) = some (.inl (false, m, lf))) (hm : m < 2 ^ 20) {g : Nat → Int32} (h2 : h (t + 2) = some (.inl (false, m, g))) (hd : 1 ≤ d) (i : Int32) : am_Ct l D dA m_X7_codeOf d 0 0 n0 [am_r t, .inl i] h (am_qi fun x h' => x = (match ix i m with | some k => g k | none => nI 0) ∧ h' = h) := by
  refine am_Ci (by decide +kernel) rfl rfl ?_
  refine am_aload_n dX7_codeOf_0 rfl rfl ?_
  refine am_iload_n dX7_codeOf_1 rfl rfl ?_
  refine am_vi (t_X7_has (d - 1) _ ht h1 hm i) k_X7_has l_X7_43 dX7_codeOf_2 rfl rfl rfl rfl ht (by omega) (Nat.le_refl _) (Nat.le_refl _) (fun x h1 hx => ?_)
  obtain ⟨rfl, rfl⟩ := hx
  refine am_bif_eq 17 dX7_codeOf_5 rfl rfl (fun hc => ?_) (fun hc => ?_)
  · refine am_iconst (v := nI 0) dX7_codeOf_17 rfl (by decide +kernel) ?_
    exact am_ri dX7_codeOf_18 rfl rfl rfl ⟨by rw [Option.isSome_eq_false_iff.mp hc |> Option.isNone_iff_eq_none.mp], rfl⟩
  · obtain ⟨j, hj⟩ := Option.isSome_iff_exists.mp hc
    obtain ⟨hj1, rfl⟩ := ix_some hj
    refine am_aload_n dX7_codeOf_8 rfl rfl ?_
    refine am_get f_X7_15 dX7_codeOf_9 rfl ht rfl ?_
    refine am_iload_n dX7_codeOf_12 rfl rfl ?_
    refine am_iald dX7_codeOf_13 rfl h2 (by omega) (by omega) ?_
    refine am_goto 18 dX7_codeOf_14 rfl rfl ?_
    exact am_ri dX7_codeOf_18 rfl rfl rfl ⟨by rw [hj], rfl⟩
set_option maxHeartbeats 4000000 in
set_option maxRecDepth 100000 in
theorem t_X7_usesOf (d n0 : Nat) {h : am_H} {t : Nat} {al : Int32} (ht : h t = some (trO t al)) {m : Nat} {lf : Nat → Int32} (h1 : h (t + 1) = some (.inl (false, m, lf))) (hm : m < 2 ^ 20) {g : Nat → Int32} (h2 : h (t + 3) = some (.inl (false, m, g))) (hd : 1 ≤ d) (i : Int32) : am_Ct l D dA m_X7_usesOf d 0 0 n0 [am_r t, .inl i] h (am_qi fun x h' => x = (match ix i m with | some k => g k | none => nI 0) ∧ h' = h) := by
  refine am_Ci (by decide +kernel) rfl rfl ?_
  refine am_aload_n dX7_usesOf_0 rfl rfl ?_
  refine am_iload_n dX7_usesOf_1 rfl rfl ?_
  refine am_vi (t_X7_has (d - 1) _ ht h1 hm i) k_X7_has l_X7_43 dX7_usesOf_2 rfl rfl rfl rfl ht (by omega) (Nat.le_refl _) (Nat.le_refl _) (fun x h1 hx => ?_)
  obtain ⟨rfl, rfl⟩ := hx
  refine am_bif_eq 17 dX7_usesOf_5 rfl rfl (fun hc => ?_) (fun hc => ?_)
  · refine am_iconst (v := nI 0) dX7_usesOf_17 rfl (by decide +kernel) ?_
    exact am_ri dX7_usesOf_18 rfl rfl rfl ⟨by rw [Option.isSome_eq_false_iff.mp hc |> Option.isNone_iff_eq_none.mp], rfl⟩
  · obtain ⟨j, hj⟩ := Option.isSome_iff_exists.mp hc
    obtain ⟨hj1, rfl⟩ := ix_some hj
    refine am_aload_n dX7_usesOf_8 rfl rfl ?_
    refine am_get f_X7_18 dX7_usesOf_9 rfl ht rfl ?_
    refine am_iload_n dX7_usesOf_12 rfl rfl ?_
    refine am_iald dX7_usesOf_13 rfl h2 (by omega) (by omega) ?_
    refine am_goto 18 dX7_usesOf_14 rfl rfl ?_
    exact am_ri dX7_usesOf_18 rfl rfl rfl ⟨by rw [hj], rfl⟩
set_option maxHeartbeats 4000000 in
set_option maxRecDepth 100000 in
theorem t_X7_alone (d n0 : Nat) {h : am_H} {t : Nat} {al : Int32} (ht : h t = some (trO t al)) : am_Ct l D dA m_X7_alone d 0 0 n0 [am_r t] h (am_qi fun x h' => x = al ∧ h' = h) := by
  refine am_Ci (by decide +kernel) rfl rfl ?_
  refine am_aload_n dX7_alone_0 rfl rfl ?_
  refine am_get f_X7_33 dX7_alone_1 rfl ht rfl ?_
  exact am_ri dX7_alone_4 rfl rfl rfl ⟨rfl, rfl⟩
set_option maxHeartbeats 4000000 in
set_option maxRecDepth 100000 in
theorem t_X7_isAlone (d n0 : Nat) {h : am_H} {t : Nat} {al : Int32} (ht : h t = some (trO t al)) : am_Ct l D dA m_X7_isAlone d 0 0 n0 [am_r t] h (am_qi fun x h' => x = am_bz (decide (al ≠ -1)) ∧ h' = h) := by
  refine am_Cz (by decide +kernel) rfl (fun x h' hx => by rw [hx.1]; exact am_bz_01 _) rfl ?_
  refine am_aload_n dX7_isAlone_0 rfl rfl ?_
  refine am_get f_X7_33 dX7_isAlone_1 rfl ht rfl ?_
  refine am_iconst (v := -1) dX7_isAlone_4 rfl (by decide +kernel) ?_
  refine am_icmp_eq 12 dX7_isAlone_5 rfl rfl (fun hc => ?_) (fun hc => ?_)
  · refine am_iconst (v := nI 0) dX7_isAlone_12 rfl (by decide +kernel) ?_
    exact am_ri dX7_isAlone_13 rfl rfl rfl ⟨by rw [decide_eq_false (fun g => g hc)]; rfl, rfl⟩
  · refine am_iconst (v := nI 1) dX7_isAlone_8 rfl (by decide +kernel) ?_
    refine am_goto 13 dX7_isAlone_9 rfl rfl ?_
    exact am_ri dX7_isAlone_13 rfl rfl rfl ⟨by rw [decide_eq_true hc]; rfl, rfl⟩
set_option maxHeartbeats 4000000 in
set_option maxRecDepth 100000 in
theorem t_X7_setAlone (d n0 : Nat) {h : am_H} {t : Nat} {al : Int32} (ht : h t = some (trO t al)) (v : Int32) : am_Ct l D dA m_X7_setAlone d 0 0 n0 [am_r t, .inl v] h (am_qv fun h' => h' = am_set h t (trO t v)) := by
  refine am_Cv (by decide +kernel) rfl rfl ?_
  refine am_aload_n dX7_setAlone_0 rfl rfl ?_
  refine am_iload_n dX7_setAlone_1 rfl rfl ?_
  refine am_put f_X7_33 dX7_setAlone_2 rfl ht (am_fit_i _) rfl ?_
  exact am_rv dX7_setAlone_5 rfl rfl rfl rfl
set_option maxHeartbeats 4000000 in
set_option maxRecDepth 100000 in
theorem t_X7_use (d n0 : Nat) {h : am_H} {t : Nat} {al : Int32} (ht : h t = some (trO t al)) {m : Nat} {lf : Nat → Int32} (h1 : h (t + 1) = some (.inl (false, m, lf))) (hm : m < 2 ^ 20) {g : Nat → Int32} (h3 : h (t + 3) = some (.inl (false, m, g))) (hd : 1 ≤ d) {s : Nat} (hs : s < m) : am_Ct l D dA m_X7_use d 0 0 n0 [am_r t, .inl (nI s)] h (am_qv fun h' => h' = am_set h (t + 3) (.inl (false, m, upd g s (g s + nI 1)))) := by
  refine am_Cv (by decide +kernel) rfl rfl ?_
  refine am_aload_n dX7_use_0 rfl rfl ?_
  refine am_iload_n dX7_use_1 rfl rfl ?_
  refine am_vi (t_X7_has (d - 1) _ ht h1 hm (nI s)) k_X7_has l_X7_43 dX7_use_2 rfl rfl rfl rfl ht (by omega) (Nat.le_refl _) (Nat.le_refl _) (fun x h1 hx => ?_)
  obtain ⟨rfl, rfl⟩ := hx
  rw [ix_in hs (by omega)]
  refine am_bif_eq 18 dX7_use_5 rfl rfl (fun hc => ?_) (fun hc => ?_)
  · cases hc
  · refine am_aload_n dX7_use_8 rfl rfl ?_
    refine am_get f_X7_18 dX7_use_9 rfl ht rfl ?_
    refine am_iload_n dX7_use_12 rfl rfl ?_
    refine am_dup2 dX7_use_13 rfl ?_
    refine am_iald dX7_use_14 rfl h3 (by omega) (by omega) ?_
    refine am_iconst (v := nI 1) dX7_use_15 rfl (by decide +kernel) ?_
    refine am_iadd dX7_use_16 rfl ?_
    refine am_iast dX7_use_17 rfl h3 (by omega) (by omega) ?_
    exact am_rv dX7_use_18 rfl rfl rfl rfl
set_option maxHeartbeats 4000000 in
set_option maxRecDepth 100000 in
theorem t_X7_setLength (d n0 : Nat) {h : am_H} {t : Nat} {al : Int32} (ht : h t = some (trO t al)) {m : Nat} {lf : Nat → Int32} (h1 : h (t + 1) = some (.inl (false, m, lf))) (hm : m < 2 ^ 20) (hd : 1 ≤ d) {s n : Nat} (hs : s < m) (hn : n ≤ 16) : am_Ct l D dA m_X7_setLength d 0 0 n0 [am_r t, .inl (nI s), .inl (nI n)] h (am_qv fun h' => h' = am_set h (t + 1) (.inl (false, m, upd lf s (nI n)))) := by
  refine am_Cv (by decide +kernel) rfl rfl ?_
  refine am_aload_n dX7_setLength_0 rfl rfl ?_
  refine am_iload_n dX7_setLength_1 rfl rfl ?_
  refine am_vi (t_X7_has (d - 1) _ ht h1 hm (nI s)) k_X7_has l_X7_43 dX7_setLength_2 rfl rfl rfl rfl ht (by omega) (Nat.le_refl _) (Nat.le_refl _) (fun x h1 hx => ?_)
  obtain ⟨rfl, rfl⟩ := hx
  rw [ix_in hs (by omega)]
  refine am_bif_eq 25 dX7_setLength_5 rfl rfl (fun hc => ?_) (fun hc => ?_)
  · cases hc
  · refine am_iload_n dX7_setLength_8 rfl rfl ?_
    refine am_nif_lt 25 dX7_setLength_9 rfl rfl (by omega) ?_
    refine am_iload_n dX7_setLength_12 rfl rfl ?_
    refine am_bipush (v := nI 16) dX7_setLength_13 rfl (by decide +kernel) ?_
    refine am_ncmp_gt 25 dX7_setLength_15 rfl rfl (by omega) (by omega) (fun hc => ?_) (fun hc => ?_)
    · omega
    · refine am_aload_n dX7_setLength_18 rfl rfl ?_
      refine am_get f_X7_9 dX7_setLength_19 rfl ht rfl ?_
      refine am_iload_n dX7_setLength_22 rfl rfl ?_
      refine am_iload_n dX7_setLength_23 rfl rfl ?_
      refine am_iast dX7_setLength_24 rfl h1 (by omega) (by omega) ?_
      exact am_rv dX7_setLength_25 rfl rfl rfl rfl
set_option maxHeartbeats 4000000 in
set_option maxRecDepth 100000 in
theorem t_X7_lengthsInUse (d n0 : Nat) {h : am_H} {t : Nat} {al : Int32} (ht : h t = some (trO t al)) {m : Nat} {lf : Nat → Int32} (h1 : h (t + 1) = some (.inl (false, m, lf))) (hm : m < 2 ^ 20) {len : Nat → Nat} (hlf : ∀ s, s < m → lf s = nI (len s)) (hle : ∀ s, s < m → len s ≤ 16) : am_Ct l D dA m_X7_lengthsInUse d 0 0 n0 [am_r t] h (am_qi fun x h' => x = nI (lst len m) ∧ h' = h) := by
  refine am_Ci (by decide +kernel) rfl rfl ?_
  refine am_aload_n dX7_lengthsInUse_0 rfl rfl ?_
  refine am_get f_X7_9 dX7_lengthsInUse_1 rfl ht rfl ?_
  refine am_alen dX7_lengthsInUse_4 rfl h1 ?_
  refine am_istore_n dX7_lengthsInUse_5 rfl rfl ?_
  have loop : ∀ (n : Nat), n ≤ m → am_At l D dA m_X7_lengthsInUse d 0 0 0 0 n0 none (am_qi fun x h' => x = nI (lst len n) ∧ h' = h) 0 0 6 [some (am_r t), some (.inl (nI n))] [] h := by
    intro n
    induction n with
    | zero =>
      intro _
      refine am_iload_n dX7_lengthsInUse_6 rfl rfl ?_
      refine am_nif_le 29 dX7_lengthsInUse_7 rfl rfl (by omega) (fun hc => ?_) (fun hc => ?_)
      · refine am_iconst (v := nI 0) dX7_lengthsInUse_29 rfl (by decide +kernel) ?_
        exact am_ri dX7_lengthsInUse_30 rfl rfl rfl ⟨rfl, rfl⟩
      · omega
    | succ n ih =>
      intro hn
      refine am_iload_n dX7_lengthsInUse_6 rfl rfl ?_
      refine am_nif_le 29 dX7_lengthsInUse_7 rfl rfl (by omega) (fun hc => ?_) (fun hc => ?_)
      · omega
      · refine am_aload_n dX7_lengthsInUse_10 rfl rfl ?_
        refine am_get f_X7_9 dX7_lengthsInUse_11 rfl ht rfl ?_
        refine am_iload_n dX7_lengthsInUse_14 rfl rfl ?_
        refine am_iconst (v := nI 1) dX7_lengthsInUse_15 rfl (by decide +kernel) ?_
        refine am_isub dX7_lengthsInUse_16 rfl ?_
        rw [show nI (n + 1) - nI 1 = nI n from pk_sub (by omega)]
        refine am_iald dX7_lengthsInUse_17 rfl h1 (by omega) (by omega) ?_
        rw [hlf n (by omega)]
        have := hle n (by omega)
        refine am_nif_le 23 dX7_lengthsInUse_18 rfl rfl (by omega) (fun hc => ?_) (fun hc => ?_)
        · refine am_iinc (n := (-1)) dX7_lengthsInUse_23 rfl rfl (pk_m1 n) ?_
          refine am_goto 6 dX7_lengthsInUse_26 rfl rfl ?_
          have e : lst len (n + 1) = lst len n := if_pos hc
          rw [e]
          exact ih (by omega)
        · refine am_iload_n dX7_lengthsInUse_21 rfl rfl ?_
          exact am_ri dX7_lengthsInUse_22 rfl rfl rfl ⟨by rw [show lst len (n + 1) = n + 1 from if_neg (by omega)], rfl⟩
  exact loop m (Nat.le_refl m)
set_option maxHeartbeats 4000000 in
set_option maxRecDepth 100000 in
theorem t_X7_zerosFrom (d n0 : Nat) {h : am_H} {t : Nat} {al : Int32} (ht : h t = some (trO t al)) {m : Nat} {lf : Nat → Int32} (h1 : h (t + 1) = some (.inl (false, m, lf))) (hm : m < 2 ^ 20) {len : Nat → Nat} (hlf : ∀ s, s < m → lf s = nI (len s)) (hle : ∀ s, s < m → len s ≤ 16) (hd : 2 ≤ d) {s lim : Nat} (hs : s + lim ≤ m) : am_Ct l D dA m_X7_zerosFrom d 0 0 n0 [am_r t, .inl (nI s), .inl (nI lim)] h (am_qi fun x h' => x = nI (zrs len s lim) ∧ h' = h) := by
  refine am_Ci (by decide +kernel) rfl rfl ?_
  refine am_iconst (v := nI 0) dX7_zerosFrom_0 rfl (by decide +kernel) ?_
  refine am_istore_n dX7_zerosFrom_1 rfl rfl ?_
  have loop : ∀ (q n : Nat), n + q = lim → zrs len s lim = n + zrs len (s + n) q → am_At l D dA m_X7_zerosFrom d 0 0 0 0 n0 none (am_qi fun x h' => x = nI (zrs len s lim) ∧ h' = h) 0 0 2 [some (am_r t), some (.inl (nI s)), some (.inl (nI lim)), some (.inl (nI n))] [] h := by
    intro q
    induction q with
    | zero =>
      intro n hn hz
      refine am_iload_n dX7_zerosFrom_2 rfl rfl ?_
      refine am_iload_n dX7_zerosFrom_3 rfl rfl ?_
      refine am_ncmp_ge 25 dX7_zerosFrom_4 rfl rfl (by omega) (by omega) (fun hc => ?_) (fun hc => ?_)
      · refine am_iload_n dX7_zerosFrom_25 rfl rfl ?_
        exact am_ri dX7_zerosFrom_26 rfl rfl rfl ⟨by rw [hz]; congr 1; show lim = n + 0; omega, rfl⟩
      · omega
    | succ q ih =>
      intro n hn hz
      refine am_iload_n dX7_zerosFrom_2 rfl rfl ?_
      refine am_iload_n dX7_zerosFrom_3 rfl rfl ?_
      refine am_ncmp_ge 25 dX7_zerosFrom_4 rfl rfl (by omega) (by omega) (fun hc => ?_) (fun hc => ?_)
      · omega
      · refine am_aload_n dX7_zerosFrom_7 rfl rfl ?_
        refine am_iload_n dX7_zerosFrom_8 rfl rfl ?_
        refine am_iload_n dX7_zerosFrom_9 rfl rfl ?_
        refine am_iadd dX7_zerosFrom_10 rfl ?_
        rw [nI_add]
        refine am_vi (t_X7_lengthOf (d - 1) _ ht h1 hm (by omega) (nI (s + n))) k_X7_lengthOf l_X7_47 dX7_zerosFrom_11 rfl rfl rfl rfl ht (by omega) (Nat.le_refl _) (Nat.le_refl _) (fun x h1 hx => ?_)
        obtain ⟨rfl, rfl⟩ := hx
        rw [ix_in (by omega) (by omega)]
        simp only []
        rw [hlf (s + n) (by omega)]
        have := hle (s + n) (by omega)
        refine am_nif_eq 19 dX7_zerosFrom_14 rfl rfl (by omega) (fun hc => ?_) (fun hc => ?_)
        · refine am_iinc (n := 1) dX7_zerosFrom_19 rfl rfl (nI_1 n) ?_
          refine am_goto 2 dX7_zerosFrom_22 rfl rfl ?_
          refine ih (n + 1) (by omega) ?_
          rw [hz]
          show n + (if len (s + n) = 0 then zrs len (s + n + 1) q + 1 else 0) = _
          rw [if_pos hc]
          show n + (zrs len (s + n + 1) q + 1) = n + 1 + zrs len (s + (n + 1)) q
          rw [show s + (n + 1) = s + n + 1 by omega]
          omega
        · refine am_iload_n dX7_zerosFrom_17 rfl rfl ?_
          exact am_ri dX7_zerosFrom_18 rfl rfl rfl ⟨by rw [hz]; show nI n = nI (n + (if len (s + n) = 0 then _ else 0)); rw [if_neg (by omega)]; rfl, rfl⟩
  exact loop lim 0 (by omega) (by rw [Nat.zero_add]; rfl)
set_option maxHeartbeats 4000000 in
set_option maxRecDepth 100000 in
theorem t_X7_symbolOf (d n0 : Nat) {h : am_H} {t : Nat} {al : Int32} (ht : h t = some (trO t al)) {m : Nat} (hm : m < 2 ^ 20) {len : Nat → Nat} (hle : ∀ s, s < m → len s ≤ 16) (hs : stl h t m len) {v n : Nat} (hn : 1 ≤ n) (hn2 : n ≤ 16) (hv : v < 2 ^ 17) (hv2 : frst len m n ≤ v) : am_Ct l D dA m_X7_symbolOf d 0 0 n0 [am_r t, .inl (nI v), .inl (nI n)] h (am_qi fun x h' => h' = h ∧ (frst len m n + cnt len n m ≤ v → x = -1) ∧ ∀ s, s < m → len s = n → v = frst len m n + cnt len n s → x = nI s) := by
  refine am_Ci (by decide +kernel) rfl rfl ?_
  obtain ⟨cf, orf, ct, fc, fp, h2, h4, h5, h6, h7, hT, hO⟩ := hs
  obtain ⟨e1, e2, e3⟩ := hT n hn hn2
  have c1 := cnt_le len n m
  have c2 := plc_le len m n
  rw [if_neg (by omega)] at c2
  refine am_iload_n dX7_symbolOf_0 rfl rfl ?_
  refine am_aload_n dX7_symbolOf_1 rfl rfl ?_
  refine am_get f_X7_27 dX7_symbolOf_2 rfl ht rfl ?_
  refine am_iload_n dX7_symbolOf_5 rfl rfl ?_
  refine am_iald dX7_symbolOf_6 rfl h6 (by omega) (by omega) ?_
  rw [e2]
  refine am_isub dX7_symbolOf_7 rfl ?_
  rw [pk_sub hv2]
  refine am_istore_n dX7_symbolOf_8 rfl rfl ?_
  refine am_iload_n dX7_symbolOf_9 rfl rfl ?_
  refine am_nif_lt 23 dX7_symbolOf_10 rfl rfl (by omega) ?_
  refine am_iload_n dX7_symbolOf_13 rfl rfl ?_
  refine am_aload_n dX7_symbolOf_14 rfl rfl ?_
  refine am_get f_X7_24 dX7_symbolOf_15 rfl ht rfl ?_
  refine am_iload_n dX7_symbolOf_18 rfl rfl ?_
  refine am_iald dX7_symbolOf_19 rfl h5 (by omega) (by omega) ?_
  rw [e1]
  refine am_ncmp_lt 25 dX7_symbolOf_20 rfl rfl (by omega) (by omega) (fun hc => ?_) (fun hc => ?_)
  · refine am_aload_n dX7_symbolOf_25 rfl rfl ?_
    refine am_get f_X7_21 dX7_symbolOf_26 rfl ht rfl ?_
    refine am_aload_n dX7_symbolOf_29 rfl rfl ?_
    refine am_get f_X7_30 dX7_symbolOf_30 rfl ht rfl ?_
    refine am_iload_n dX7_symbolOf_33 rfl rfl ?_
    refine am_iald dX7_symbolOf_34 rfl h7 (by omega) (by omega) ?_
    rw [e3]
    refine am_iload_n dX7_symbolOf_35 rfl rfl ?_
    refine am_iadd dX7_symbolOf_36 rfl ?_
    rw [nI_add]
    refine am_iald dX7_symbolOf_37 rfl h4 (by omega) (by omega) ?_
    exact am_ri dX7_symbolOf_38 rfl rfl rfl ⟨rfl, fun g => by omega, fun s hs hl hv3 => by
      have := (hO s hs (by omega)).2
      rw [hl] at this
      rw [← this]
      congr 1
      omega⟩
  · refine am_iconst (v := -1) dX7_symbolOf_23 rfl (by decide +kernel) ?_
    exact am_ri dX7_symbolOf_24 rfl rfl rfl ⟨rfl, fun _ => rfl, fun s hs hl hv3 => by
      have := cnt_lt hs hl
      omega⟩
end TREE
end
section
/-! ===== Tree: wipe, number, settle ===== -/
section TREE2
variable {l : Launch} {D : va_G} {dA : Bool → ClassId}
set_option maxHeartbeats 4000000 in
set_option maxRecDepth 100000 in
theorem t_X7_wipe (d n0 : Nat) {h : am_H} {t : Nat} {al : Int32} (ht : h t = some (trO t al)) {m : Nat} {lf : Nat → Int32} (h1 : h (t + 1) = some (.inl (false, m, lf))) (hm : m < 2 ^ 20) {g : Nat → Int32} (h3 : h (t + 3) = some (.inl (false, m, g))) (hd : 1 ≤ d) : am_Ct l D dA m_X7_wipe d 0 0 n0 [am_r t] h (am_qv fun h' => h' = am_set (am_set (am_set h (t + 1) (.inl (false, m, fun j => if j < m then nI 0 else lf j))) (t + 3) (.inl (false, m, fun j => if j < m then nI 0 else g j))) t (trO t (-1))) := by
  refine am_Cv (by decide +kernel) rfl rfl ?_
  refine am_aload_n dX7_wipe_0 rfl rfl ?_
  refine am_get f_X7_9 dX7_wipe_1 rfl ht rfl ?_
  refine am_iconst (v := nI 0) dX7_wipe_4 rfl (by decide +kernel) ?_
  refine am_sv (t_fill (d - 1) _ h1 (by omega) (nI 0)) k_J7_fill_53178 l_X7_37 dX7_wipe_5 rfl rfl rfl rfl (by omega) (Nat.le_refl _) (Nat.le_refl _) (fun h2 hx => ?_)
  subst hx
  refine am_aload_n dX7_wipe_8 rfl rfl ?_
  refine am_get f_X7_18 dX7_wipe_9 rfl ((am_set_ne (by omega)).trans ht) rfl ?_
  refine am_iconst (v := nI 0) dX7_wipe_12 rfl (by decide +kernel) ?_
  refine am_sv (t_fill (d - 1) _ ((am_set_ne (by omega)).trans h3) (by omega) (nI 0)) k_J7_fill_53178 l_X7_37 dX7_wipe_13 rfl rfl rfl rfl (by omega) (Nat.le_refl _) (Nat.le_refl _) (fun h2 hx => ?_)
  subst hx
  refine am_aload_n dX7_wipe_16 rfl rfl ?_
  refine am_iconst (v := -1) dX7_wipe_17 rfl (by decide +kernel) ?_
  refine am_put f_X7_33 dX7_wipe_18 rfl ((am_set_ne (by omega)).trans ((am_set_ne (by omega)).trans ht)) (am_fit_i _) rfl ?_
  exact am_rv dX7_wipe_21 rfl rfl rfl rfl
theorem plc_mono (len : Nat → Nat) (m : Nat) {l n : Nat} (hl : 1 ≤ l) (h : l < n) : plc len m l + cnt len l m ≤ plc len m n := by
  induction n with
  | zero => omega
  | succ n ih =>
    show _ ≤ plc len m n + _
    by_cases g : l = n
    · subst g
      rw [if_neg (by omega)]
      exact Nat.le_refl _
    · have := ih (by omega)
      omega
theorem plc_ne {len : Nat → Nat} {m s i : Nat} (hs : s < i) (hi : i < m) (h1 : len s ≠ 0) (h2 : len i ≠ 0) : plc len m (len s) + cnt len (len s) s ≠ plc len m (len i) + cnt len (len i) i := by
  intro e
  rcases Nat.lt_trichotomy (len s) (len i) with g | g | g
  · have a := plc_mono len m (by omega) g
    have b := cnt_lt (show s < m by omega) (rfl : len s = len s)
    omega
  · rw [← g] at e
    have b := cnt_lt hs (rfl : len s = len s)
    omega
  · have a := plc_mono len m (by omega) g
    have b := cnt_lt hi (rfl : len i = len i)
    omega
set_option maxHeartbeats 4000000 in
set_option maxRecDepth 100000 in
theorem t_X7_number (d n0 : Nat) {h : am_H} {t : Nat} {al : Int32} (ht : h t = some (trO t al)) {m : Nat} {lf : Nat → Int32} (h1 : h (t + 1) = some (.inl (false, m, lf))) (hm : m < 2 ^ 20) {len : Nat → Nat} (hlf : ∀ s, s < m → lf s = nI (len s)) (hle : ∀ s, s < m → len s ≤ 16) {cf orf ct fc fp : Nat → Int32} (h2 : h (t + 2) = some (.inl (false, m, cf))) (h4 : h (t + 4) = some (.inl (false, m, orf))) (h5 : h (t + 5) = some (.inl (false, 17, ct))) (h6 : h (t + 6) = some (.inl (false, 17, fc))) (h7 : h (t + 7) = some (.inl (false, 17, fp))) (hT : ∀ n, 1 ≤ n → n ≤ 16 → fc n = nI (frst len m n) ∧ fp n = nI (plc len m n)) (hd : 1 ≤ d) : am_Ct l D dA m_X7_number d 0 0 n0 [am_r t] h (am_qv fun h' => am_fr h h' [t + 2, t + 4, t + 5] ∧ stl h' t m len) := by
  refine am_Cv (by decide +kernel) rfl rfl ?_
  refine am_aload_n dX7_number_0 rfl rfl ?_
  refine am_get f_X7_24 dX7_number_1 rfl ht rfl ?_
  refine am_iconst (v := nI 0) dX7_number_4 rfl (by decide +kernel) ?_
  refine am_sv (t_fill (d - 1) _ h5 (by omega) (nI 0)) k_J7_fill_53178 l_X7_37 dX7_number_5 rfl rfl rfl rfl (by omega) (Nat.le_refl _) (Nat.le_refl _) (fun h2 hx => ?_)
  subst hx
  refine am_iconst (v := nI 0) dX7_number_8 rfl (by decide +kernel) ?_
  refine am_istore_n dX7_number_9 rfl rfl ?_
  have loop : ∀ (q i : Nat) (x2 : Option am_V) (H : am_H) (g cf orf : Nat → Int32), i + q = m → am_fr h H [t + 2, t + 4, t + 5] → H (t + 5) = some (.inl (false, 17, g)) → H (t + 2) = some (.inl (false, m, cf)) → H (t + 4) = some (.inl (false, m, orf)) → (∀ n, 1 ≤ n → n ≤ 16 → g n = nI (cnt len n i)) → (∀ s, s < i → len s ≠ 0 → cf s = nI (frst len m (len s) + cnt len (len s) s) ∧ orf (plc len m (len s) + cnt len (len s) s) = nI s) → am_At l D dA m_X7_number d 0 0 0 0 n0 none (am_qv fun h' => am_fr h h' [t + 2, t + 4, t + 5] ∧ stl h' t m len) 0 0 10 [some (am_r t), some (.inl (nI i)), x2] [] H := by
    intro q
    induction q with
    | zero =>
      intro i x2 H g cf orf hi hfr g5 g2 g4 hg hO
      obtain rfl : i = m := by omega
      have ht := (hfr t (by simp)).trans ht
      have h1 := (hfr (t + 1) (by simp)).trans h1
      have h6 := (hfr (t + 6) (by simp)).trans h6
      have h7 := (hfr (t + 7) (by simp)).trans h7
      refine am_iload_n dX7_number_10 rfl rfl ?_
      refine am_aload_n dX7_number_11 rfl rfl ?_
      refine am_get f_X7_9 dX7_number_12 rfl ht rfl ?_
      refine am_alen dX7_number_15 rfl h1 ?_
      refine am_ncmp_ge 84 dX7_number_16 rfl rfl (by omega) (by omega) (fun hc => ?_) (fun hc => ?_)
      · exact am_rv dX7_number_84 rfl rfl rfl ⟨hfr, cf, orf, g, fc, fp, g2, g4, g5, h6, h7, fun n a b => ⟨hg n a b, hT n a b⟩, hO⟩
      · omega
    | succ q ih =>
      intro i x2 H g cf orf hi hfr g5 g2 g4 hg hO
      have ht := (hfr t (by simp)).trans ht
      have h1 := (hfr (t + 1) (by simp)).trans h1
      have h6 := (hfr (t + 6) (by simp)).trans h6
      have h7 := (hfr (t + 7) (by simp)).trans h7
      refine am_iload_n dX7_number_10 rfl rfl ?_
      refine am_aload_n dX7_number_11 rfl rfl ?_
      refine am_get f_X7_9 dX7_number_12 rfl ht rfl ?_
      refine am_alen dX7_number_15 rfl h1 ?_
      refine am_ncmp_ge 84 dX7_number_16 rfl rfl (by omega) (by omega) (fun hc => ?_) (fun hc => ?_)
      · omega
      · refine am_aload_n dX7_number_19 rfl rfl ?_
        refine am_get f_X7_9 dX7_number_20 rfl ht rfl ?_
        refine am_iload_n dX7_number_23 rfl rfl ?_
        refine am_iald dX7_number_24 rfl h1 (by omega) (by omega) ?_
        rw [hlf i (by omega)]
        have hli := hle i (by omega)
        refine am_istore_n dX7_number_25 rfl rfl ?_
        refine am_iload_n dX7_number_26 rfl rfl ?_
        refine am_nif_le 78 dX7_number_27 rfl rfl (by omega) (fun hc => ?_) (fun hc => ?_)
        · refine am_iinc (n := 1) dX7_number_78 rfl rfl (nI_1 i) ?_
          refine am_goto 10 dX7_number_81 rfl rfl ?_
          refine ih (i + 1) _ H g cf orf (by omega) hfr g5 g2 g4 (fun n a b => ?_) (fun s a b => ?_)
          · rw [hg n a b]
            show _ = nI (cnt len n i + _)
            rw [if_neg (by omega)]
            rfl
          · by_cases e : s = i
            · rw [e] at b; exact absurd hc b
            · exact hO s (by omega) b
        · obtain ⟨e6, e7⟩ := hT (len i) (by omega) hli
          have e5 := hg (len i) (by omega) hli
          have hpl := plc_lt (m := m) (s := i) (by omega : len i ≠ 0) (by omega) rfl
          refine am_aload_n dX7_number_30 rfl rfl ?_
          refine am_get f_X7_15 dX7_number_31 rfl ht rfl ?_
          refine am_iload_n dX7_number_34 rfl rfl ?_
          refine am_aload_n dX7_number_35 rfl rfl ?_
          refine am_get f_X7_27 dX7_number_36 rfl ht rfl ?_
          refine am_iload_n dX7_number_39 rfl rfl ?_
          refine am_iald dX7_number_40 rfl h6 (by omega) (by omega) ?_
          refine am_aload_n dX7_number_41 rfl rfl ?_
          refine am_get f_X7_24 dX7_number_42 rfl ht rfl ?_
          refine am_iload_n dX7_number_45 rfl rfl ?_
          refine am_iald dX7_number_46 rfl g5 (by omega) (by omega) ?_
          rw [e6, e5]
          refine am_iadd dX7_number_47 rfl ?_
          rw [nI_add]
          refine am_iast dX7_number_48 rfl g2 (by omega) (by omega) ?_
          refine am_aload_n dX7_number_49 rfl rfl ?_
          refine am_get f_X7_21 dX7_number_50 rfl ((am_set_ne (by omega)).trans ht) rfl ?_
          refine am_aload_n dX7_number_53 rfl rfl ?_
          refine am_get f_X7_30 dX7_number_54 rfl ((am_set_ne (by omega)).trans ht) rfl ?_
          refine am_iload_n dX7_number_57 rfl rfl ?_
          refine am_iald dX7_number_58 rfl ((am_set_ne (by omega)).trans h7) (by omega) (by omega) ?_
          refine am_aload_n dX7_number_59 rfl rfl ?_
          refine am_get f_X7_24 dX7_number_60 rfl ((am_set_ne (by omega)).trans ht) rfl ?_
          refine am_iload_n dX7_number_63 rfl rfl ?_
          refine am_iald dX7_number_64 rfl ((am_set_ne (by omega)).trans g5) (by omega) (by omega) ?_
          rw [e7, e5]
          refine am_iadd dX7_number_65 rfl ?_
          rw [nI_add]
          refine am_iload_n dX7_number_66 rfl rfl ?_
          refine am_iast dX7_number_67 rfl ((am_set_ne (by omega)).trans g4) (by omega) (by omega) ?_
          refine am_aload_n dX7_number_68 rfl rfl ?_
          refine am_get f_X7_24 dX7_number_69 rfl ((am_set_ne (by omega)).trans ((am_set_ne (by omega)).trans ht)) rfl ?_
          refine am_iload_n dX7_number_72 rfl rfl ?_
          refine am_dup2 dX7_number_73 rfl ?_
          refine am_iald dX7_number_74 rfl ((am_set_ne (by omega)).trans ((am_set_ne (by omega)).trans g5)) (by omega) (by omega) ?_
          refine am_iconst (v := nI 1) dX7_number_75 rfl (by decide +kernel) ?_
          refine am_iadd dX7_number_76 rfl ?_
          rw [e5, nI_add]
          refine am_iast dX7_number_77 rfl ((am_set_ne (by omega)).trans ((am_set_ne (by omega)).trans g5)) (by omega) (by omega) ?_
          refine am_iinc (n := 1) dX7_number_78 rfl rfl (nI_1 i) ?_
          refine am_goto 10 dX7_number_81 rfl rfl ?_
          refine ih (i + 1) _ _ _ _ _ (by omega) (((hfr.set (by simp)).set (by simp)).set (by simp)) am_set_eq ((am_set_ne (by omega)).trans ((am_set_ne (by omega)).trans am_set_eq)) ((am_set_ne (by omega)).trans am_set_eq) (fun n a b => ?_) (fun s a b => ?_)
          · show _ = nI (cnt len n i + _)
            by_cases e : n = len i
            · subst e; rw [upd_eq, if_pos rfl]
            · rw [upd_ne e, if_neg (fun z => e z.symm), hg n a b]; rfl
          · by_cases e : s = i
            · subst e
              rw [upd_eq, upd_eq]
              exact ⟨rfl, rfl⟩
            · have hsi : s < i := by omega
              rw [upd_ne e, upd_ne (plc_ne hsi (by omega) b (by omega))]
              exact hO s hsi b
  refine loop m 0 _ _ _ cf orf (by omega) (am_fr.rf.set (by simp)) am_set_eq ((am_set_ne (by omega)).trans h2) ((am_set_ne (by omega)).trans h4) (fun n a b => ?_) (fun s a _ => absurd a (Nat.not_lt_zero s))
  rw [if_pos (by omega)]
  rfl
set_option maxHeartbeats 4000000 in
set_option maxRecDepth 100000 in
theorem t_X7_settle (d n0 : Nat) {h : am_H} {t : Nat} {al : Int32} (ht : h t = some (trO t al)) {m : Nat} {lf : Nat → Int32} (h1 : h (t + 1) = some (.inl (false, m, lf))) (hm : m < 2 ^ 20) (hm2 : m ≤ 1000) {len : Nat → Nat} (hlf : ∀ s, s < m → lf s = nI (len s)) (hle : ∀ s, s < m → len s ≤ 16) {cf orf ct fc fp : Nat → Int32} (h2 : h (t + 2) = some (.inl (false, m, cf))) (h4 : h (t + 4) = some (.inl (false, m, orf))) (h5 : h (t + 5) = some (.inl (false, 17, ct))) (h6 : h (t + 6) = some (.inl (false, 17, fc))) (h7 : h (t + 7) = some (.inl (false, 17, fp))) (hd : 2 ≤ d) : am_Ct l D dA m_X7_settle d 0 0 n0 [am_r t] h (am_qi fun x h' => x = am_bz (decide (krf len m = 65536)) ∧ am_fr h h' [t + 2, t + 4, t + 5, t + 6, t + 7] ∧ (krf len m = 65536 → stl h' t m len) ∧ (∃ cf orf ct fc fp : Nat → Int32, h' (t + 2) = some (.inl (false, m, cf)) ∧ h' (t + 4) = some (.inl (false, m, orf)) ∧ h' (t + 5) = some (.inl (false, 17, ct)) ∧ h' (t + 6) = some (.inl (false, 17, fc)) ∧ h' (t + 7) = some (.inl (false, 17, fp)))) := by
  refine am_Cz (by decide +kernel) rfl (fun x h' hx => by rw [hx.1]; exact am_bz_01 _) rfl ?_
  refine am_aload_n dX7_settle_0 rfl rfl ?_
  refine am_get f_X7_24 dX7_settle_1 rfl ht rfl ?_
  refine am_iconst (v := nI 0) dX7_settle_4 rfl (by decide +kernel) ?_
  refine am_sv (t_fill (d - 1) _ h5 (by omega) (nI 0)) k_J7_fill_53178 l_X7_37 dX7_settle_5 rfl rfl rfl rfl (by omega) (Nat.le_refl _) (Nat.le_refl _) (fun h2 hx => ?_)
  subst hx
  refine am_aload_n dX7_settle_8 rfl rfl ?_
  refine am_get f_X7_9 dX7_settle_9 rfl ((am_set_ne (by omega)).trans ht) rfl ?_
  refine am_astore_n dX7_settle_12 rfl rfl ?_
  refine am_aload_n dX7_settle_13 rfl rfl ?_
  refine am_alen dX7_settle_14 rfl ((am_set_ne (by omega)).trans h1) ?_
  refine am_istore_n dX7_settle_15 rfl rfl ?_
  refine am_iconst (v := nI 0) dX7_settle_16 rfl (by decide +kernel) ?_
  refine am_istore_n dX7_settle_17 rfl rfl ?_
  have hA : ∀ (q i : Nat) (x4 : Option am_V) (g : Nat → Int32), i + q = m → (∀ n, n ≤ 16 → g n = nI (cnt len n i)) → (∀ (x4 : Option am_V) (g : Nat → Int32), (∀ n, n ≤ 16 → g n = nI (cnt len n m)) → am_At l D dA m_X7_settle d 0 0 0 0 n0 none (am_qi fun x h' => x = am_bz (decide (krf len m = 65536)) ∧ am_fr h h' [t + 2, t + 4, t + 5, t + 6, t + 7] ∧ (krf len m = 65536 → stl h' t m len) ∧ (∃ cf orf ct fc fp : Nat → Int32, h' (t + 2) = some (.inl (false, m, cf)) ∧ h' (t + 4) = some (.inl (false, m, orf)) ∧ h' (t + 5) = some (.inl (false, 17, ct)) ∧ h' (t + 6) = some (.inl (false, 17, fc)) ∧ h' (t + 7) = some (.inl (false, 17, fp)))) 0 0 45 [some (am_r t), some (am_r (t + 1)), some (.inl (nI m)), some (.inl (nI m)), x4] [] (am_set h (t + 5) (.inl (false, 17, g)))) → am_At l D dA m_X7_settle d 0 0 0 0 n0 none (am_qi fun x h' => x = am_bz (decide (krf len m = 65536)) ∧ am_fr h h' [t + 2, t + 4, t + 5, t + 6, t + 7] ∧ (krf len m = 65536 → stl h' t m len) ∧ (∃ cf orf ct fc fp : Nat → Int32, h' (t + 2) = some (.inl (false, m, cf)) ∧ h' (t + 4) = some (.inl (false, m, orf)) ∧ h' (t + 5) = some (.inl (false, 17, ct)) ∧ h' (t + 6) = some (.inl (false, 17, fc)) ∧ h' (t + 7) = some (.inl (false, 17, fp)))) 0 0 18 [some (am_r t), some (am_r (t + 1)), some (.inl (nI m)), some (.inl (nI i)), x4] [] (am_set h (t + 5) (.inl (false, 17, g))) := by
    intro q
    induction q with
    | zero =>
      intro i x4 g hi hg K
      obtain rfl : i = m := by omega
      refine am_iload_n dX7_settle_18 rfl rfl ?_
      refine am_iload_n dX7_settle_19 rfl rfl ?_
      refine am_ncmp_ge 45 dX7_settle_20 rfl rfl (by omega) (by omega) (fun hc => ?_) (fun hc => ?_)
      · exact K x4 g hg
      · omega
    | succ q ih =>
      intro i x4 g hi hg K
      refine am_iload_n dX7_settle_18 rfl rfl ?_
      refine am_iload_n dX7_settle_19 rfl rfl ?_
      refine am_ncmp_ge 45 dX7_settle_20 rfl rfl (by omega) (by omega) (fun hc => ?_) (fun hc => ?_)
      · omega
      · refine am_aload_n dX7_settle_23 rfl rfl ?_
        refine am_iload_n dX7_settle_24 rfl rfl ?_
        refine am_iald dX7_settle_25 rfl ((am_set_ne (by omega)).trans h1) (by omega) (by omega) ?_
        rw [hlf i (by omega)]
        have hli := hle i (by omega)
        refine am_istore dX7_settle_26 rfl rfl ?_
        refine am_aload_n dX7_settle_28 rfl rfl ?_
        refine am_get f_X7_24 dX7_settle_29 rfl ((am_set_ne (by omega)).trans ht) rfl ?_
        refine am_iload dX7_settle_32 rfl rfl ?_
        refine am_dup2 dX7_settle_34 rfl ?_
        refine am_iald dX7_settle_35 rfl am_set_eq (by omega) (by omega) ?_
        refine am_iconst (v := nI 1) dX7_settle_36 rfl (by decide +kernel) ?_
        refine am_iadd dX7_settle_37 rfl ?_
        rw [hg (len i) hli, nI_add]
        refine am_iast dX7_settle_38 rfl am_set_eq (by omega) (by omega) ?_
        refine am_iinc (n := 1) dX7_settle_39 rfl rfl (nI_1 i) ?_
        refine am_goto 18 dX7_settle_42 rfl rfl ?_
        rw [am_set_set]
        refine ih (i + 1) _ _ (by omega) (fun n b => ?_) K
        show _ = nI (cnt len n i + _)
        by_cases e : n = len i
        · subst e; rw [upd_eq, if_pos rfl]
        · rw [upd_ne e, if_neg (fun z => e z.symm), hg n b]; rfl
  refine hA m 0 _ _ (by omega) (fun n b => by rw [if_pos (by omega)]; rfl) (fun x4 g hg => ?_)
  refine am_iconst (v := nI 0) dX7_settle_45 rfl (by decide +kernel) ?_
  refine am_istore_n dX7_settle_46 rfl rfl ?_
  refine am_iconst (v := nI 0) dX7_settle_47 rfl (by decide +kernel) ?_
  refine am_istore_n dX7_settle_48 rfl rfl ?_
  refine am_iconst (v := nI 1) dX7_settle_49 rfl (by decide +kernel) ?_
  refine am_istore_n dX7_settle_50 rfl rfl ?_
  have hB : ∀ (q n : Nat) (x4 : Option am_V) (H : am_H) (fc fp : Nat → Int32), n + q = 17 → 1 ≤ n → am_fr h H [t + 5, t + 6, t + 7] → H (t + 5) = some (.inl (false, 17, g)) → H (t + 6) = some (.inl (false, 17, fc)) → H (t + 7) = some (.inl (false, 17, fp)) → (∀ n', 1 ≤ n' → n' < n → fc n' = nI (frst len m n') ∧ fp n' = nI (plc len m n')) → am_At l D dA m_X7_settle d 0 0 0 0 n0 none (am_qi fun x h' => x = am_bz (decide (krf len m = 65536)) ∧ am_fr h h' [t + 2, t + 4, t + 5, t + 6, t + 7] ∧ (krf len m = 65536 → stl h' t m len) ∧ (∃ cf orf ct fc fp : Nat → Int32, h' (t + 2) = some (.inl (false, m, cf)) ∧ h' (t + 4) = some (.inl (false, m, orf)) ∧ h' (t + 5) = some (.inl (false, 17, ct)) ∧ h' (t + 6) = some (.inl (false, 17, fc)) ∧ h' (t + 7) = some (.inl (false, 17, fp)))) 0 0 51 [some (am_r t), some (.inl (nI (smk len m n))), some (.inl (nI (plc len m n))), some (.inl (nI n)), x4] [] H := by
    intro q
    induction q with
    | zero =>
      intro n x4 H fc fp hn hn1 hfr g5 g6 g7 hT
      obtain rfl : n = 17 := by omega
      have ht := (hfr t (by simp)).trans ht
      have h1 := (hfr (t + 1) (by simp)).trans h1
      have h2 := (hfr (t + 2) (by simp)).trans h2
      have h4 := (hfr (t + 4) (by simp)).trans h4
      have hk := krf_le len m
      rw [krf_smk len m hle] at hk
      refine am_iload_n dX7_settle_51 rfl rfl ?_
      refine am_bipush (v := nI 16) dX7_settle_52 rfl (by decide +kernel) ?_
      refine am_ncmp_gt 105 dX7_settle_54 rfl rfl (by omega) (by omega) (fun hc => ?_) (fun hc => ?_)
      · refine am_iload_n dX7_settle_105 rfl rfl ?_
        refine am_ldc dX7_settle_106 rfl wd_k_X7_51 ?_
        rw [show (65536 : Int32) = nI 65536 by decide +kernel]
        refine am_ncmp_eq 113 dX7_settle_108 rfl rfl (by omega) (by omega) (fun hc => ?_) (fun hc => ?_)
        · refine am_aload_n dX7_settle_113 rfl rfl ?_
          refine am_vv (t_X7_number (d - 1) _ ht h1 hm hlf hle h2 h4 g5 g6 g7 (fun n' a b => hT n' a (by omega)) (by omega)) k_X7_number l_X7_52 dX7_settle_114 rfl rfl rfl rfl ht (by omega) (Nat.le_refl _) (Nat.le_refl _) (fun h3 hx => ?_)
          obtain ⟨hf3, hs⟩ := hx
          refine am_iconst (v := nI 1) dX7_settle_117 rfl (by decide +kernel) ?_
          exact am_ri dX7_settle_118 rfl rfl rfl ⟨by rw [krf_smk len m hle, decide_eq_true hc]; rfl, fun j hj => (hf3 j (by simp at hj ⊢; omega)).trans (hfr j (by simp at hj ⊢; omega)), fun _ => hs, by
            obtain ⟨cf, orf, ct, fc, fp, a1, a2, a3, a4, a5, -⟩ := hs
            exact ⟨cf, orf, ct, fc, fp, a1, a2, a3, a4, a5⟩⟩
        · refine am_iconst (v := nI 0) dX7_settle_111 rfl (by decide +kernel) ?_
          exact am_ri dX7_settle_112 rfl rfl rfl ⟨by rw [krf_smk len m hle, decide_eq_false hc]; rfl, fun j hj => hfr j (by simp at hj ⊢; omega), fun e => absurd (by rw [← krf_smk len m hle]; exact e) hc, cf, orf, g, fc, fp, h2, h4, g5, g6, g7⟩
      · omega
    | succ q ih =>
      intro n x4 H fc fp hn hn1 hfr g5 g6 g7 hT
      have ht := (hfr t (by simp)).trans ht
      have hk := krf_le len m
      have hk1 := smk_le_krf len m hle n (by omega)
      have hk2 := smk_le_krf len m hle (n + 1) (by omega)
      have e5 := hg n (by omega)
      have e1 : smk len m (n + 1) = smk len m n + cnt len n m * 2 ^ (16 - n) := by show _ + _ = _; rw [if_neg (by omega)]
      have e2 : plc len m (n + 1) = plc len m n + cnt len n m := by show _ + _ = _; rw [if_neg (by omega)]
      have c1 := plc_le len m n
      rw [if_neg (by omega)] at c1
      refine am_iload_n dX7_settle_51 rfl rfl ?_
      refine am_bipush (v := nI 16) dX7_settle_52 rfl (by decide +kernel) ?_
      refine am_ncmp_gt 105 dX7_settle_54 rfl rfl (by omega) (by omega) (fun hc => ?_) (fun hc => ?_)
      · omega
      · refine am_aload_n dX7_settle_57 rfl rfl ?_
        refine am_get f_X7_27 dX7_settle_58 rfl ht rfl ?_
        refine am_iload_n dX7_settle_61 rfl rfl ?_
        refine am_iload_n dX7_settle_62 rfl rfl ?_
        refine am_bipush (v := nI 16) dX7_settle_63 rfl (by decide +kernel) ?_
        refine am_iload_n dX7_settle_65 rfl rfl ?_
        refine am_isub dX7_settle_66 rfl ?_
        rw [pk_sub (by omega)]
        refine am_ishr dX7_settle_67 rfl ?_
        rw [show (nI (smk len m n)) >>> (nI (16 - n) &&& 31) = nI (frst len m n) by
          rw [am_m31 (by omega), pk_shrN (by omega) (nI (16 - n)) (16 - n) (am_smod (by omega)), smk_frst len m n (by omega), Nat.mul_div_cancel _ (Nat.pow_pos (by omega))]]
        refine am_iast dX7_settle_68 rfl g6 (by omega) (by omega) ?_
        refine am_aload_n dX7_settle_69 rfl rfl ?_
        refine am_get f_X7_30 dX7_settle_70 rfl ((am_set_ne (by omega)).trans ht) rfl ?_
        refine am_iload_n dX7_settle_73 rfl rfl ?_
        refine am_iload_n dX7_settle_74 rfl rfl ?_
        refine am_iast dX7_settle_75 rfl ((am_set_ne (by omega)).trans g7) (by omega) (by omega) ?_
        refine am_iload_n dX7_settle_76 rfl rfl ?_
        refine am_aload_n dX7_settle_77 rfl rfl ?_
        refine am_get f_X7_24 dX7_settle_78 rfl ((am_set_ne (by omega)).trans ((am_set_ne (by omega)).trans ht)) rfl ?_
        refine am_iload_n dX7_settle_81 rfl rfl ?_
        refine am_iald dX7_settle_82 rfl ((am_set_ne (by omega)).trans ((am_set_ne (by omega)).trans g5)) (by omega) (by omega) ?_
        refine am_bipush (v := nI 16) dX7_settle_83 rfl (by decide +kernel) ?_
        refine am_iload_n dX7_settle_85 rfl rfl ?_
        rw [e5]
        refine am_isub dX7_settle_86 rfl ?_
        rw [pk_sub (by omega)]
        refine am_ishl dX7_settle_87 rfl ?_
        rw [show (nI (cnt len n m)) <<< (nI (16 - n) &&& 31) = nI (cnt len n m * 2 ^ (16 - n)) by
          rw [am_m31 (by omega), pk_shlN (nI (16 - n)) (16 - n) (am_smod (by omega)) (by omega)]]
        refine am_iadd dX7_settle_88 rfl ?_
        rw [nI_add, ← e1]
        refine am_istore_n dX7_settle_89 rfl rfl ?_
        refine am_iload_n dX7_settle_90 rfl rfl ?_
        refine am_aload_n dX7_settle_91 rfl rfl ?_
        refine am_get f_X7_24 dX7_settle_92 rfl ((am_set_ne (by omega)).trans ((am_set_ne (by omega)).trans ht)) rfl ?_
        refine am_iload_n dX7_settle_95 rfl rfl ?_
        refine am_iald dX7_settle_96 rfl ((am_set_ne (by omega)).trans ((am_set_ne (by omega)).trans g5)) (by omega) (by omega) ?_
        rw [e5]
        refine am_iadd dX7_settle_97 rfl ?_
        rw [nI_add, ← e2]
        refine am_istore_n dX7_settle_98 rfl rfl ?_
        refine am_iinc (n := 1) dX7_settle_99 rfl rfl (nI_1 n) ?_
        refine am_goto 51 dX7_settle_102 rfl rfl ?_
        refine ih (n + 1) _ _ _ _ (by omega) (by omega) ((hfr.set (by simp)).set (by simp)) ((am_set_ne (by omega)).trans ((am_set_ne (by omega)).trans g5)) ((am_set_ne (by omega)).trans am_set_eq) am_set_eq (fun n' a b => ?_)
        by_cases e : n' = n
        · subst e; rw [upd_eq, upd_eq]; exact ⟨rfl, rfl⟩
        · rw [upd_ne e, upd_ne e]; exact hT n' a (by omega)
  exact hB 16 1 _ _ fc fp (by omega) (by omega) (am_fr.rf.set (by simp)) am_set_eq ((am_set_ne (by omega)).trans h6) ((am_set_ne (by omega)).trans h7) (fun n' a b => by omega)
end TREE2
end
section
/-! ===== BitSource ===== -/
section SRC
variable {l : Launch} {D : va_G} {dA : Bool → ClassId}
abbrev bsO (r E k : Nat) : am_E := .inr (2, [am_r r, .inl (nI E), .inl (nI k)])
abbrev rwO (a c : Nat) : am_E := .inr (3, [am_r a, .inl (nI c)])
theorem stl.keep {h h' : am_H} {t m : Nat} {len : Nat → Nat} (hs : stl h t m len) (hk : ∀ j, t + 2 ≤ j → j ≤ t + 7 → h' j = h j) : stl h' t m len := by
  obtain ⟨cf, orf, ct, fc, fp, a1, a2, a3, a4, a5, a6⟩ := hs
  exact ⟨cf, orf, ct, fc, fp, (hk _ (by omega) (by omega)).trans a1, (hk _ (by omega) (by omega)).trans a2, (hk _ (by omega) (by omega)).trans a3, (hk _ (by omega) (by omega)).trans a4, (hk _ (by omega) (by omega)).trans a5, a6⟩
theorem num_1 (f : Nat → Int32) (k : Nat) : num f k 1 = bt f k := by show 2 * 0 + bt f (k + 0) = _; simp
/-- a tree is fit to be read by -/
def rdy (h : am_H) (t m : Nat) (al : Int32) (len : Nat → Nat) : Prop := (al = -1 → stl h t m len ∧ krf len m = 65536 ∧ ∀ s, s < m → len s ≤ 16) ∧ (al ≠ -1 → ∃ s, s < m ∧ al = nI s)
/-- a symbol and its bits -/
def SR (len : Nat → Nat) (m : Nat) (al : Int32) (f : Nat → Int32) (k n s : Nat) : Prop := s < m ∧ ((al ≠ -1 ∧ al = nI s ∧ n = 0) ∨ (al = -1 ∧ len s = n ∧ dec len m f k n (cnt len n s)))
theorem SR_ex {h : am_H} {t m : Nat} {al : Int32} {len : Nat → Nat} (hr : rdy h t m al len) (f : Nat → Int32) (k : Nat) : ∃ n s, SR len m al f k n s := by
  by_cases g : al = -1
  · obtain ⟨h1, h2, h3⟩ := hr.1 g
    obtain ⟨n, j, hd⟩ := dec_ex h3 h2 f k
    obtain ⟨s, a, b, c⟩ := cnt_nth hd.2.2.2.2
    exact ⟨n, s, a, Or.inr ⟨g, b, by rw [c]; exact hd⟩⟩
  · obtain ⟨s, a, b⟩ := hr.2 g
    exact ⟨0, s, a, Or.inl ⟨g, b, rfl⟩⟩
/-- how many bits 1 stand in a row, up to a limit -/
def ons (f : Nat → Int32) (k : Nat) : Nat → Nat
  | 0 => 0
  | q + 1 => if bt f k = 1 then ons f (k + 1) q + 1 else 0
theorem ons_le (f : Nat → Int32) : ∀ (q k : Nat), ons f k q ≤ q
  | 0, _ => Nat.le_refl _
  | q + 1, k => by
    have := ons_le f q (k + 1)
    unfold ons
    split <;> omega
/-- a length as T and P have it: its value, its bits -/
def tlv (f : Nat → Int32) (k : Nat) : Nat := if num f k 3 < 7 then num f k 3 else 7 + ons f (k + 3) 10
def tln (f : Nat → Int32) (k : Nat) : Nat := if num f k 3 < 7 then 3 else if ons f (k + 3) 10 = 10 then 13 else 4 + ons f (k + 3) 10
set_option maxHeartbeats 4000000 in
set_option maxRecDepth 100000 in
theorem t_X2_open (d n0 : Nat) {h : am_H} {s r a E k c n : Nat} {u v : Int32} (hs : h s = some (.inr (2, [am_r r, .inl u, .inl v]))) (hr : h r = some (rwO a c)) (hsr : s ≠ r) (hc : c < 2 ^ 20) (hn : n ≤ c) (hd : 1 ≤ d) : am_Ct l D dA m_X2_open d 0 0 n0 [am_r s, .inl (nI n)] h (am_qv fun h' => h' = am_set h s (bsO r (8 * n) 0)) := by
  refine am_Cv (by decide +kernel) rfl rfl ?_
  refine am_aload_n dX2_open_0 rfl rfl ?_
  refine am_bipush (v := nI 8) dX2_open_1 rfl (by decide +kernel) ?_
  refine am_iload_n dX2_open_3 rfl rfl ?_
  refine am_aload_n dX2_open_4 rfl rfl ?_
  refine am_get f_X2_9 dX2_open_5 rfl hs rfl ?_
  refine am_vi (t_X3_count (d - 1) _ hr) k_X3_count l_X2_22 dX2_open_8 rfl rfl rfl rfl hr (by omega) (Nat.le_refl _) (Nat.le_refl _) (fun x h1 hx => ?_)
  obtain ⟨rfl, hh⟩ := hx
  obtain rfl := hh.symm
  refine am_min l_X2_28 wd_mins wd_mini wd_minc dX2_open_11 rfl (Nat.le_of_ble_eq_true rfl) (by omega) (Nat.le_refl _) (Nat.le_refl _) ?_
  rw [if_neg (nI_nlt hn (by omega))]
  refine am_imul dX2_open_14 rfl ?_
  rw [pk_mul]
  refine am_put f_X2_15 dX2_open_15 rfl hs (am_fit_i _) rfl ?_
  refine am_aload_n dX2_open_18 rfl rfl ?_
  refine am_iconst (v := nI 0) dX2_open_19 rfl (by decide +kernel) ?_
  refine am_put f_X2_19 dX2_open_20 rfl am_set_eq (am_fit_i _) rfl ?_
  exact am_rv dX2_open_23 rfl rfl rfl (by rw [am_set_set]; rfl)
set_option maxHeartbeats 4000000 in
set_option maxRecDepth 100000 in
theorem t_X2_taken (d n0 : Nat) {h : am_H} {s r E k : Nat} (hs : h s = some (bsO r E k)) : am_Ct l D dA m_X2_taken d 0 0 n0 [am_r s] h (am_qi fun x h' => x = nI k ∧ h' = h) := by
  refine am_Ci (by decide +kernel) rfl rfl ?_
  refine am_aload_n dX2_taken_0 rfl rfl ?_
  refine am_get f_X2_19 dX2_taken_1 rfl hs rfl ?_
  exact am_ri dX2_taken_4 rfl rfl rfl ⟨rfl, rfl⟩
set_option maxHeartbeats 4000000 in
set_option maxRecDepth 100000 in
theorem t_X2_take (d n0 : Nat) {h : am_H} {s r a n E k c : Nat} {f : Nat → Int32} (hs : h s = some (bsO r E k)) (hr : h r = some (rwO a c)) (ha : h a = some (.inl (false, n, f))) (hE : E ≤ 8 * n) (hn : n < 2 ^ 20) (hk : k ≤ E) (hsr : s ≠ r) (hsa : s ≠ a) {b : Nat} (hb : b ≤ 16) : am_Ct l D dA m_X2_take d 0 0 n0 [am_r s, .inl (nI b)] h (am_qi fun x h' => (k + b ≤ E → x = nI (num f k b) ∧ h' = am_set h s (bsO r E (k + b))) ∧ (E < k + b → x = -1 ∧ h' = am_set h s (bsO r E E))) := by
  refine am_Ci (by decide +kernel) rfl rfl ?_
  refine am_iload_n dX2_take_0 rfl rfl ?_
  refine am_aload_n dX2_take_1 rfl rfl ?_
  refine am_get f_X2_15 dX2_take_2 rfl hs rfl ?_
  refine am_aload_n dX2_take_5 rfl rfl ?_
  refine am_get f_X2_19 dX2_take_6 rfl hs rfl ?_
  refine am_isub dX2_take_9 rfl ?_
  rw [pk_sub hk]
  refine am_ncmp_le 23 dX2_take_10 rfl rfl (by omega) (by omega) (fun hc => ?_) (fun hc => ?_)
  · refine am_iconst (v := nI 0) dX2_take_23 rfl (by decide +kernel) ?_
    refine am_istore_n dX2_take_24 rfl rfl ?_
    refine am_iconst (v := nI 0) dX2_take_25 rfl (by decide +kernel) ?_
    refine am_istore_n dX2_take_26 rfl rfl ?_
    have loop : ∀ (q i : Nat), i + q = b → am_At l D dA m_X2_take d 0 0 0 0 n0 none (am_qi fun x h' => (k + b ≤ E → x = nI (num f k b) ∧ h' = am_set h s (bsO r E (k + b))) ∧ (E < k + b → x = -1 ∧ h' = am_set h s (bsO r E E))) 0 0 27 [some (am_r s), some (.inl (nI b)), some (.inl (nI (num f k i))), some (.inl (nI i))] [] (am_set h s (bsO r E (k + i))) := by
      intro q
      induction q with
      | zero =>
        intro i hi
        obtain rfl : i = b := by omega
        refine am_iload_n dX2_take_27 rfl rfl ?_
        refine am_iload_n dX2_take_28 rfl rfl ?_
        refine am_ncmp_ge 80 dX2_take_29 rfl rfl (by omega) (by omega) (fun hc => ?_) (fun hc => ?_)
        · refine am_iload_n dX2_take_80 rfl rfl ?_
          exact am_ri dX2_take_81 rfl rfl rfl ⟨fun _ => ⟨rfl, rfl⟩, fun g => by omega⟩
        · omega
      | succ q ih =>
        intro i hi
        have hnl := num_lt f k i
        have hp : 2 ^ i ≤ 2 ^ 15 := Nat.pow_le_pow_right (by omega) (by omega)
        refine am_iload_n dX2_take_27 rfl rfl ?_
        refine am_iload_n dX2_take_28 rfl rfl ?_
        refine am_ncmp_ge 80 dX2_take_29 rfl rfl (by omega) (by omega) (fun hc => ?_) (fun hc => ?_)
        · omega
        · refine am_iload_n dX2_take_32 rfl rfl ?_
          refine am_iconst (v := nI 1) dX2_take_33 rfl (by decide +kernel) ?_
          refine am_ishl dX2_take_34 rfl ?_
          refine am_aload_n dX2_take_35 rfl rfl ?_
          refine am_get f_X2_9 dX2_take_36 rfl am_set_eq rfl ?_
          refine am_getN f_X2_34 dX2_take_39 rfl ((am_set_ne hsr.symm).trans hr) rfl ?_
          refine am_aload_n dX2_take_42 rfl rfl ?_
          refine am_get f_X2_19 dX2_take_43 rfl am_set_eq rfl ?_
          refine am_iconst (v := nI 3) dX2_take_46 rfl (by decide +kernel) ?_
          refine am_ishr dX2_take_47 rfl ?_
          rw [am_m31 (by omega), pk_shrN (by omega) (nI 3) 3 (am_smod (by omega))]
          refine am_iald dX2_take_48 rfl ((am_set_ne hsa.symm).trans ha) (by omega) (by omega) ?_
          refine am_bipush (v := nI 7) dX2_take_49 rfl (by decide +kernel) ?_
          refine am_aload_n dX2_take_51 rfl rfl ?_
          refine am_get f_X2_19 dX2_take_52 rfl am_set_eq rfl ?_
          refine am_bipush (v := nI 7) dX2_take_55 rfl (by decide +kernel) ?_
          refine am_iand dX2_take_57 rfl ?_
          rw [pk_andN (by omega) (m := nI 7) 3 (by decide +kernel)]
          refine am_isub dX2_take_58 rfl ?_
          rw [pk_sub (by omega)]
          refine am_ishr dX2_take_59 rfl ?_
          refine am_iconst (v := nI 1) dX2_take_60 rfl (by decide +kernel) ?_
          refine am_iand dX2_take_61 rfl ?_
          rw [show (2 : Nat) ^ 3 = 8 from rfl, bt_and f (k + i)]
          refine am_ior dX2_take_62 rfl ?_
          rw [nI_or1 (by omega) (bt_lt f (k + i))]
          refine am_istore_n dX2_take_63 rfl rfl ?_
          refine am_aload_n dX2_take_64 rfl rfl ?_
          refine am_dup dX2_take_65 rfl ?_
          refine am_get f_X2_19 dX2_take_66 rfl am_set_eq rfl ?_
          refine am_iconst (v := nI 1) dX2_take_69 rfl (by decide +kernel) ?_
          refine am_iadd dX2_take_70 rfl ?_
          rw [nI_add]
          refine am_put f_X2_19 dX2_take_71 rfl am_set_eq (am_fit_i _) rfl ?_
          refine am_iinc (n := 1) dX2_take_74 rfl rfl (nI_1 i) ?_
          refine am_goto 27 dX2_take_77 rfl rfl ?_
          rw [am_set_set]
          exact ih (i + 1) (by omega)
    refine am_eq rfl rfl rfl ?_ (loop b 0 (by omega))
    exact (am_set_self hs).symm
  · refine am_aload_n dX2_take_13 rfl rfl ?_
    refine am_aload_n dX2_take_14 rfl rfl ?_
    refine am_get f_X2_15 dX2_take_15 rfl hs rfl ?_
    refine am_put f_X2_19 dX2_take_18 rfl hs (am_fit_i _) rfl ?_
    refine am_iconst (v := -1) dX2_take_21 rfl (by decide +kernel) ?_
    exact am_ri dX2_take_22 rfl rfl rfl ⟨fun g => by omega, fun _ => ⟨rfl, rfl⟩⟩
set_option maxHeartbeats 4000000 in
set_option maxRecDepth 100000 in
theorem t_X2_takeSymbol (d n0 : Nat) {h : am_H} {s r a n E k c : Nat} {f : Nat → Int32} (hs : h s = some (bsO r E k)) (hr : h r = some (rwO a c)) (ha : h a = some (.inl (false, n, f))) (hE : E ≤ 8 * n) (hn : n < 2 ^ 20) (hk : k ≤ E) (hsr : s ≠ r) (hsa : s ≠ a) {t m : Nat} {al : Int32} {len : Nat → Nat} (ht : h t = some (trO t al)) (hm : m < 2 ^ 20) (hrd : rdy h t m al len) (hst : ∀ j, t ≤ j → j ≤ t + 7 → j ≠ s) {w y : Nat} (hSR : SR len m al f k w y) (hd : 1 ≤ d) : am_Ct l D dA m_X2_takeSymbol d 0 0 n0 [am_r s, am_r t] h (am_qi fun x h' => (k + w ≤ E → x = nI y ∧ h' = am_set h s (bsO r E (k + w))) ∧ (E < k + w → x = -1 ∧ h' = am_set h s (bsO r E E))) := by
  refine am_Ci (by decide +kernel) rfl rfl ?_
  refine am_aload_n dX2_takeSymbol_0 rfl rfl ?_
  refine am_vi (t_X7_isAlone (d - 1) _ ht) k_X7_isAlone l_X2_38 dX2_takeSymbol_1 rfl rfl rfl rfl ht (by omega) (Nat.le_refl _) (Nat.le_refl _) (fun x h1 hx => ?_)
  obtain ⟨rfl, hh⟩ := hx
  obtain rfl := hh.symm
  refine am_bif_eq 12 dX2_takeSymbol_4 rfl rfl (fun hc => ?_) (fun hc => ?_)
  · have hal : al = -1 := by simpa using hc
    obtain ⟨hy, hSR⟩ := hSR
    obtain ⟨hw, hdec⟩ : len y = w ∧ dec len m f k w (cnt len w y) := by
      rcases hSR with ⟨g, -⟩ | ⟨-, hw, hdec⟩
      · exact absurd hal g
      · exact ⟨hw, hdec⟩
    obtain ⟨hstl, -, hle⟩ := hrd.1 hal
    obtain ⟨d1, d2, d3, d4, d5⟩ := id hdec
    refine am_iconst (v := nI 0) dX2_takeSymbol_12 rfl (by decide +kernel) ?_
    refine am_istore_n dX2_takeSymbol_13 rfl rfl ?_
    refine am_iconst (v := nI 1) dX2_takeSymbol_14 rfl (by decide +kernel) ?_
    refine am_istore_n dX2_takeSymbol_15 rfl rfl ?_
    have loop : ∀ (q i : Nat) (x4 x5 : Option am_V), i + 1 + q = w → k + i ≤ E → am_At l D dA m_X2_takeSymbol d 0 0 0 0 n0 none (am_qi fun x h' => (k + w ≤ E → x = nI y ∧ h' = am_set h s (bsO r E (k + w))) ∧ (E < k + w → x = -1 ∧ h' = am_set h s (bsO r E E))) 0 0 16 [some (am_r s), some (am_r t), some (.inl (nI (num f k i))), some (.inl (nI (i + 1))), x4, x5] [] (am_set h s (bsO r E (k + i))) := by
      intro q
      induction q with
      | zero =>
        intro i x4 x5 hi hEk
        have hnl := num_lt f k i
        have hp : 2 ^ i ≤ 2 ^ 15 := Nat.pow_le_pow_right (by omega) (by omega)
        have hs' : am_set h s (bsO r E (k + i)) s = some (bsO r E (k + i)) := am_set_eq
        have hr' : am_set h s (bsO r E (k + i)) r = some (rwO a c) := (am_set_ne hsr.symm).trans hr
        have ha' : am_set h s (bsO r E (k + i)) a = some (.inl (false, n, f)) := (am_set_ne hsa.symm).trans ha
        have hb1 := bt_lt f (k + i)
        refine am_iload_n dX2_takeSymbol_16 rfl rfl ?_
        refine am_bipush (v := nI 16) dX2_takeSymbol_17 rfl (by decide +kernel) ?_
        refine am_ncmp_gt 67 dX2_takeSymbol_19 rfl rfl (by omega) (by omega) (fun hc => ?_) (fun hc => ?_)
        · omega
        · refine am_aload_n dX2_takeSymbol_22 rfl rfl ?_
          refine am_iconst (v := nI 1) dX2_takeSymbol_23 rfl (by decide +kernel) ?_
          refine am_vi (t_X2_take (d - 1) _ hs' hr' ha' hE hn hEk hsr hsa (b := 1) (by omega)) k_X2_take l_X2_47 dX2_takeSymbol_24 rfl rfl rfl rfl hs' (by omega) (Nat.le_refl _) (Nat.le_refl _) (fun x h1 hx => ?_)
          obtain ⟨hx1, hx2⟩ := hx
          by_cases hE1 : k + i + 1 ≤ E
          · obtain ⟨rfl, rfl⟩ := hx1 hE1
            rw [am_set_set, num_1]
            refine am_istore dX2_takeSymbol_27 rfl rfl ?_
            refine am_iload dX2_takeSymbol_29 rfl rfl ?_
            refine am_iconst (v := -1) dX2_takeSymbol_31 rfl (by decide +kernel) ?_
            refine am_icmp_ne 37 dX2_takeSymbol_32 rfl rfl (fun hc => ?_) (fun hc => ?_)
            · refine am_iload_n dX2_takeSymbol_37 rfl rfl ?_
              refine am_iconst (v := nI 1) dX2_takeSymbol_38 rfl (by decide +kernel) ?_
              refine am_ishl dX2_takeSymbol_39 rfl ?_
              refine am_iload dX2_takeSymbol_40 rfl rfl ?_
              refine am_ior dX2_takeSymbol_42 rfl ?_
              rw [nI_or1 (by omega) hb1, show 2 * num f k i + bt f (k + i) = num f k (i + 1) from rfl]
              refine am_istore_n dX2_takeSymbol_43 rfl rfl ?_
              refine am_aload_n dX2_takeSymbol_44 rfl rfl ?_
              refine am_iload_n dX2_takeSymbol_45 rfl rfl ?_
              refine am_iload_n dX2_takeSymbol_46 rfl rfl ?_
              have hnl2 := num_lt f k (i + 1)
              have hp2 : 2 ^ (i + 1) ≤ 2 ^ 16 := Nat.pow_le_pow_right (by omega) (by omega)
              have hge := dec_ge (n := i + 1) (fun n' a b => d3 n' a (by omega))
              refine am_vi (t_X7_symbolOf (d - 1) _ ((am_set_ne (hst t (by omega) (by omega))).trans ht) hm hle (hstl.keep (fun j a b => am_set_ne (hst j (by omega) (by omega)))) (by omega : 1 ≤ i + 1) (by omega) (by omega) hge) k_X7_symbolOf l_X2_51 dX2_takeSymbol_47 rfl rfl rfl rfl ((am_set_ne (hst t (by omega) (by omega))).trans ht) (by omega) (Nat.le_refl _) (Nat.le_refl _) (fun x h1 hx => ?_)
              obtain ⟨hh, hx3, hx4⟩ := hx
              rw [hh]
              have hi1 : i + 1 = w := by omega
              have hx5 := hx4 y hy (by omega) (by rw [hi1]; exact d4)
              subst hx5
              refine am_istore dX2_takeSymbol_50 rfl rfl ?_
              refine am_iload dX2_takeSymbol_52 rfl rfl ?_
              refine am_iconst (v := -1) dX2_takeSymbol_54 rfl (by decide +kernel) ?_
              refine am_icmp_eq 61 dX2_takeSymbol_55 rfl rfl (fun hc => ?_) (fun hc => ?_)
              · exact absurd hc (am_nm1 (by omega))
              · refine am_iload dX2_takeSymbol_58 rfl rfl ?_
                exact am_ri dX2_takeSymbol_60 rfl rfl rfl ⟨fun g => ⟨rfl, by rw [← hi1]; rfl⟩, fun g => by omega⟩
            · exact absurd hc (am_nm1 (by omega))
          · obtain ⟨rfl, rfl⟩ := hx2 (by omega)
            rw [am_set_set]
            refine am_istore dX2_takeSymbol_27 rfl rfl ?_
            refine am_iload dX2_takeSymbol_29 rfl rfl ?_
            refine am_iconst (v := -1) dX2_takeSymbol_31 rfl (by decide +kernel) ?_
            refine am_icmp_ne 37 dX2_takeSymbol_32 rfl rfl (fun hc => ?_) (fun hc => ?_)
            · exact absurd rfl hc
            · refine am_iconst (v := -1) dX2_takeSymbol_35 rfl (by decide +kernel) ?_
              exact am_ri dX2_takeSymbol_36 rfl rfl rfl ⟨fun g => by omega, fun _ => ⟨rfl, rfl⟩⟩
      | succ q ih =>
        intro i x4 x5 hi hEk
        have hnl := num_lt f k i
        have hp : 2 ^ i ≤ 2 ^ 15 := Nat.pow_le_pow_right (by omega) (by omega)
        have hs' : am_set h s (bsO r E (k + i)) s = some (bsO r E (k + i)) := am_set_eq
        have hr' : am_set h s (bsO r E (k + i)) r = some (rwO a c) := (am_set_ne hsr.symm).trans hr
        have ha' : am_set h s (bsO r E (k + i)) a = some (.inl (false, n, f)) := (am_set_ne hsa.symm).trans ha
        have hb1 := bt_lt f (k + i)
        refine am_iload_n dX2_takeSymbol_16 rfl rfl ?_
        refine am_bipush (v := nI 16) dX2_takeSymbol_17 rfl (by decide +kernel) ?_
        refine am_ncmp_gt 67 dX2_takeSymbol_19 rfl rfl (by omega) (by omega) (fun hc => ?_) (fun hc => ?_)
        · omega
        · refine am_aload_n dX2_takeSymbol_22 rfl rfl ?_
          refine am_iconst (v := nI 1) dX2_takeSymbol_23 rfl (by decide +kernel) ?_
          refine am_vi (t_X2_take (d - 1) _ hs' hr' ha' hE hn hEk hsr hsa (b := 1) (by omega)) k_X2_take l_X2_47 dX2_takeSymbol_24 rfl rfl rfl rfl hs' (by omega) (Nat.le_refl _) (Nat.le_refl _) (fun x h1 hx => ?_)
          obtain ⟨hx1, hx2⟩ := hx
          by_cases hE1 : k + i + 1 ≤ E
          · obtain ⟨rfl, rfl⟩ := hx1 hE1
            rw [am_set_set, num_1]
            refine am_istore dX2_takeSymbol_27 rfl rfl ?_
            refine am_iload dX2_takeSymbol_29 rfl rfl ?_
            refine am_iconst (v := -1) dX2_takeSymbol_31 rfl (by decide +kernel) ?_
            refine am_icmp_ne 37 dX2_takeSymbol_32 rfl rfl (fun hc => ?_) (fun hc => ?_)
            · refine am_iload_n dX2_takeSymbol_37 rfl rfl ?_
              refine am_iconst (v := nI 1) dX2_takeSymbol_38 rfl (by decide +kernel) ?_
              refine am_ishl dX2_takeSymbol_39 rfl ?_
              refine am_iload dX2_takeSymbol_40 rfl rfl ?_
              refine am_ior dX2_takeSymbol_42 rfl ?_
              rw [nI_or1 (by omega) hb1, show 2 * num f k i + bt f (k + i) = num f k (i + 1) from rfl]
              refine am_istore_n dX2_takeSymbol_43 rfl rfl ?_
              refine am_aload_n dX2_takeSymbol_44 rfl rfl ?_
              refine am_iload_n dX2_takeSymbol_45 rfl rfl ?_
              refine am_iload_n dX2_takeSymbol_46 rfl rfl ?_
              have hnl2 := num_lt f k (i + 1)
              have hp2 : 2 ^ (i + 1) ≤ 2 ^ 16 := Nat.pow_le_pow_right (by omega) (by omega)
              have hge := dec_ge (n := i + 1) (fun n' a b => d3 n' a (by omega))
              refine am_vi (t_X7_symbolOf (d - 1) _ ((am_set_ne (hst t (by omega) (by omega))).trans ht) hm hle (hstl.keep (fun j a b => am_set_ne (hst j (by omega) (by omega)))) (by omega : 1 ≤ i + 1) (by omega) (by omega) hge) k_X7_symbolOf l_X2_51 dX2_takeSymbol_47 rfl rfl rfl rfl ((am_set_ne (hst t (by omega) (by omega))).trans ht) (by omega) (Nat.le_refl _) (Nat.le_refl _) (fun x h1 hx => ?_)
              obtain ⟨hh, hx3, hx4⟩ := hx
              rw [hh]
              have hx5 := hx3 (d3 (i + 1) (by omega) (by omega))
              subst hx5
              refine am_istore dX2_takeSymbol_50 rfl rfl ?_
              refine am_iload dX2_takeSymbol_52 rfl rfl ?_
              refine am_iconst (v := -1) dX2_takeSymbol_54 rfl (by decide +kernel) ?_
              refine am_icmp_eq 61 dX2_takeSymbol_55 rfl rfl (fun hc => ?_) (fun hc => ?_)
              · refine am_iinc (n := 1) dX2_takeSymbol_61 rfl rfl (nI_1 (i + 1)) ?_
                refine am_goto 16 dX2_takeSymbol_64 rfl rfl ?_
                exact ih (i + 1) _ _ (by omega) (by omega)
              · exact absurd rfl hc
            · exact absurd hc (am_nm1 (by omega))
          · obtain ⟨rfl, rfl⟩ := hx2 (by omega)
            rw [am_set_set]
            refine am_istore dX2_takeSymbol_27 rfl rfl ?_
            refine am_iload dX2_takeSymbol_29 rfl rfl ?_
            refine am_iconst (v := -1) dX2_takeSymbol_31 rfl (by decide +kernel) ?_
            refine am_icmp_ne 37 dX2_takeSymbol_32 rfl rfl (fun hc => ?_) (fun hc => ?_)
            · exact absurd rfl hc
            · refine am_iconst (v := -1) dX2_takeSymbol_35 rfl (by decide +kernel) ?_
              exact am_ri dX2_takeSymbol_36 rfl rfl rfl ⟨fun g => by omega, fun _ => ⟨rfl, rfl⟩⟩
    refine am_eq rfl rfl rfl ?_ (loop (w - 1) 0 _ _ (by omega) (by omega))
    exact (am_set_self hs).symm
  · have hal : al ≠ -1 := by simpa using hc
    obtain ⟨hy, hSR⟩ := hSR
    obtain ⟨g2, g3⟩ : al = nI y ∧ w = 0 := by
      rcases hSR with ⟨-, g2, g3⟩ | ⟨g, -⟩
      · exact ⟨g2, g3⟩
      · exact absurd g hal
    subst g3
    refine am_aload_n dX2_takeSymbol_7 rfl rfl ?_
    refine am_vi (t_X7_alone (d - 1) _ ht) k_X7_alone l_X2_44 dX2_takeSymbol_8 rfl rfl rfl rfl ht (by omega) (Nat.le_refl _) (Nat.le_refl _) (fun x h1 hx => ?_)
    obtain ⟨rfl, hh⟩ := hx
    obtain rfl := hh.symm
    exact am_ri dX2_takeSymbol_11 rfl rfl rfl ⟨fun _ => ⟨g2, (am_set_self hs).symm⟩, fun g => by omega⟩
end SRC
end
section
/-! ===== BitSource: lengths and distances ===== -/
section SRC2
variable {l : Launch} {D : va_G} {dA : Bool → ClassId}
set_option maxHeartbeats 4000000 in
set_option maxRecDepth 100000 in
theorem t_X2_takeLength (d n0 : Nat) {h : am_H} {s r a n E k c : Nat} {f : Nat → Int32} (hs : h s = some (bsO r E k)) (hr : h r = some (rwO a c)) (ha : h a = some (.inl (false, n, f))) (hE : E ≤ 8 * n) (hn : n < 2 ^ 20) (hk : k ≤ E) (hsr : s ≠ r) (hsa : s ≠ a) (hd : 1 ≤ d) : am_Ct l D dA m_X2_takeLength d 0 0 n0 [am_r s] h (am_qi fun x h' => (k + tln f k ≤ E → x = nI (tlv f k) ∧ h' = am_set h s (bsO r E (k + tln f k))) ∧ (E < k + tln f k → x = -1 ∧ h' = am_set h s (bsO r E E))) := by
  refine am_Ci (by decide +kernel) rfl rfl ?_
  have hn3 := num_lt f k 3
  have ho := ons_le f 10 (k + 3)
  refine am_aload_n dX2_takeLength_0 rfl rfl ?_
  refine am_iconst (v := nI 3) dX2_takeLength_1 rfl (by decide +kernel) ?_
  refine am_vi (t_X2_take (d - 1) _ hs hr ha hE hn hk hsr hsa (b := 3) (by omega)) k_X2_take l_X2_47 dX2_takeLength_2 rfl rfl rfl rfl hs (by omega) (Nat.le_refl _) (Nat.le_refl _) (fun x h3 hx => ?_)
  obtain ⟨hx1, hx2⟩ := hx
  by_cases hE3 : k + 3 ≤ E
  · obtain ⟨rfl, rfl⟩ := hx1 hE3
    refine am_istore_n dX2_takeLength_5 rfl rfl ?_
    refine am_iload_n dX2_takeLength_6 rfl rfl ?_
    refine am_bipush (v := nI 7) dX2_takeLength_7 rfl (by decide +kernel) ?_
    refine am_ncmp_eq 14 dX2_takeLength_9 rfl rfl (by omega) (by omega) (fun hc => ?_) (fun hc => ?_)
    · have ev : tlv f k = 7 + ons f (k + 3) 10 := if_neg (by omega)
      have en : tln f k = if ons f (k + 3) 10 = 10 then 13 else 4 + ons f (k + 3) 10 := if_neg (by omega)
      rw [hc]
      have loop : ∀ (q u : Nat) (x2 : Option am_V), u + q = 10 → ons f (k + 3) 10 = u + ons f (k + 3 + u) q → k + 3 + u ≤ E → am_At l D dA m_X2_takeLength d 0 0 0 0 n0 none (am_qi fun x h' => (k + tln f k ≤ E → x = nI (tlv f k) ∧ h' = am_set h s (bsO r E (k + tln f k))) ∧ (E < k + tln f k → x = -1 ∧ h' = am_set h s (bsO r E E))) 0 0 14 [some (am_r s), some (.inl (nI (7 + u))), x2] [] (am_set h s (bsO r E (k + 3 + u))) := by
        intro q
        induction q with
        | zero =>
          intro u x2 hu hq hEu
          obtain rfl : u = 10 := by omega
          have hq : ons f (k + 3) 10 = 10 := hq
          refine am_iload_n dX2_takeLength_14 rfl rfl ?_
          refine am_bipush (v := nI 16) dX2_takeLength_15 rfl (by decide +kernel) ?_
          refine am_ncmp_gt 45 dX2_takeLength_17 rfl rfl (by omega) (by omega) (fun hc => ?_) (fun hc => ?_)
          · refine am_iload_n dX2_takeLength_45 rfl rfl ?_
            exact am_ri dX2_takeLength_46 rfl rfl rfl ⟨fun _ => ⟨by rw [ev, hq], by rw [en, if_pos hq]⟩, fun g => by rw [en, if_pos hq] at g; omega⟩
          · omega
        | succ q ih =>
          intro u x2 hu hq hEu
          have hb1 := bt_lt f (k + 3 + u)
          have hs' : am_set h s (bsO r E (k + 3 + u)) s = some (bsO r E (k + 3 + u)) := am_set_eq
          have hr' : am_set h s (bsO r E (k + 3 + u)) r = some (rwO a c) := (am_set_ne hsr.symm).trans hr
          have ha' : am_set h s (bsO r E (k + 3 + u)) a = some (.inl (false, n, f)) := (am_set_ne hsa.symm).trans ha
          refine am_iload_n dX2_takeLength_14 rfl rfl ?_
          refine am_bipush (v := nI 16) dX2_takeLength_15 rfl (by decide +kernel) ?_
          refine am_ncmp_gt 45 dX2_takeLength_17 rfl rfl (by omega) (by omega) (fun hc => ?_) (fun hc => ?_)
          · omega
          · refine am_aload_n dX2_takeLength_20 rfl rfl ?_
            refine am_iconst (v := nI 1) dX2_takeLength_21 rfl (by decide +kernel) ?_
            refine am_vi (t_X2_take (d - 1) _ hs' hr' ha' hE hn hEu hsr hsa (b := 1) (by omega)) k_X2_take l_X2_47 dX2_takeLength_22 rfl rfl rfl rfl hs' (by omega) (Nat.le_refl _) (Nat.le_refl _) (fun x h4 hx => ?_)
            obtain ⟨hx1, hx2⟩ := hx
            by_cases hE4 : k + 3 + u + 1 ≤ E
            · obtain ⟨rfl, rfl⟩ := hx1 hE4
              rw [am_set_set, num_1]
              refine am_istore_n dX2_takeLength_25 rfl rfl ?_
              refine am_iload_n dX2_takeLength_26 rfl rfl ?_
              refine am_iconst (v := -1) dX2_takeLength_27 rfl (by decide +kernel) ?_
              refine am_icmp_ne 33 dX2_takeLength_28 rfl rfl (fun hc => ?_) (fun hc => ?_)
              · refine am_iload_n dX2_takeLength_33 rfl rfl ?_
                refine am_nif_ne 39 dX2_takeLength_34 rfl rfl (by omega) (fun hc => ?_) (fun hc => ?_)
                · refine am_iinc (n := 1) dX2_takeLength_39 rfl rfl (nI_1 (7 + u)) ?_
                  refine am_goto 14 dX2_takeLength_42 rfl rfl ?_
                  refine ih (u + 1) _ (by omega) ?_ (by omega)
                  rw [hq]
                  show u + (if bt f (k + 3 + u) = 1 then ons f (k + 3 + u + 1) q + 1 else 0) = u + 1 + ons f (k + 3 + (u + 1)) q
                  rw [if_pos (by omega), show k + 3 + (u + 1) = k + 3 + u + 1 by omega]
                  omega
                · have hq2 : ons f (k + 3) 10 = u := by
                    rw [hq]
                    show u + (if bt f (k + 3 + u) = 1 then _ else 0) = u
                    rw [if_neg (by omega)]
                    rfl
                  refine am_iload_n dX2_takeLength_37 rfl rfl ?_
                  exact am_ri dX2_takeLength_38 rfl rfl rfl ⟨fun _ => ⟨by rw [ev, hq2], by rw [en, if_neg (by omega), hq2, show k + (4 + u) = k + 3 + u + 1 by omega]⟩, fun g => by rw [en, if_neg (by omega), hq2] at g; omega⟩
              · exact absurd hc (am_nm1 (by omega))
            · obtain ⟨rfl, rfl⟩ := hx2 (by omega)
              rw [am_set_set]
              refine am_istore_n dX2_takeLength_25 rfl rfl ?_
              refine am_iload_n dX2_takeLength_26 rfl rfl ?_
              refine am_iconst (v := -1) dX2_takeLength_27 rfl (by decide +kernel) ?_
              refine am_icmp_ne 33 dX2_takeLength_28 rfl rfl (fun hc => ?_) (fun hc => ?_)
              · exact absurd rfl hc
              · have hlt : 4 + u ≤ tln f k := by
                  rw [en]
                  split <;> omega
                refine am_iconst (v := -1) dX2_takeLength_31 rfl (by decide +kernel) ?_
                exact am_ri dX2_takeLength_32 rfl rfl rfl ⟨fun g => by omega, fun _ => ⟨rfl, rfl⟩⟩
      exact loop 10 0 _ (by omega) (by rw [Nat.zero_add]) (by omega)
    · have ev : tlv f k = num f k 3 := if_pos (by omega)
      have en : tln f k = 3 := if_pos (by omega)
      refine am_iload_n dX2_takeLength_12 rfl rfl ?_
      exact am_ri dX2_takeLength_13 rfl rfl rfl ⟨fun _ => ⟨by rw [ev], by rw [en]⟩, fun g => by omega⟩
  · obtain ⟨rfl, rfl⟩ := hx2 (by omega)
    have hlt : 3 ≤ tln f k := by
      unfold tln
      split
      · omega
      · split <;> omega
    refine am_istore_n dX2_takeLength_5 rfl rfl ?_
    refine am_iload_n dX2_takeLength_6 rfl rfl ?_
    refine am_bipush (v := nI 7) dX2_takeLength_7 rfl (by decide +kernel) ?_
    refine am_icmp_eq 14 dX2_takeLength_9 rfl rfl (fun hc => ?_) (fun hc => ?_)
    · exact absurd hc (by decide +kernel)
    · refine am_iload_n dX2_takeLength_12 rfl rfl ?_
      exact am_ri dX2_takeLength_13 rfl rfl rfl ⟨fun g => by omega, fun _ => ⟨rfl, rfl⟩⟩
/-- the distance of a symbol of P, by the bits behind it -/
def dst (f : Nat → Int32) (k y : Nat) : Nat := if y = 0 then 1 else 2 ^ (y - 1) + num f k (y - 1) + 1
set_option maxHeartbeats 4000000 in
set_option maxRecDepth 100000 in
theorem t_X2_takeDistance (d n0 : Nat) {h : am_H} {s r a n E k c : Nat} {f : Nat → Int32} (hs : h s = some (bsO r E k)) (hr : h r = some (rwO a c)) (ha : h a = some (.inl (false, n, f))) (hE : E ≤ 8 * n) (hn : n < 2 ^ 20) (hk : k ≤ E) (hsr : s ≠ r) (hsa : s ≠ a) {t m : Nat} {al : Int32} {len : Nat → Nat} (ht : h t = some (trO t al)) (hm : m ≤ 14) (hrd : rdy h t m al len) (hst : ∀ j, t ≤ j → j ≤ t + 7 → j ≠ s) {w y : Nat} (hSR : SR len m al f k w y) (hd : 2 ≤ d) : am_Ct l D dA m_X2_takeDistance d 0 0 n0 [am_r s, am_r t] h (am_qi fun x h' => (k + w + (y - 1) ≤ E → x = nI (dst f (k + w) y) ∧ h' = am_set h s (bsO r E (k + w + (y - 1)))) ∧ (E < k + w + (y - 1) → x = -1 ∧ h' = am_set h s (bsO r E E))) := by
  refine am_Ci (by decide +kernel) rfl rfl ?_
  have hy := hSR.1
  have hp : 2 ^ (y - 1) ≤ 2 ^ 13 := Nat.pow_le_pow_right (by omega) (by omega)
  have hnl := num_lt f (k + w) (y - 1)
  refine am_aload_n dX2_takeDistance_0 rfl rfl ?_
  refine am_aload_n dX2_takeDistance_1 rfl rfl ?_
  refine am_vi (t_X2_takeSymbol (d - 1) _ hs hr ha hE hn hk hsr hsa ht (by omega) hrd hst hSR (by omega)) k_X2_takeSymbol l_X2_54 dX2_takeDistance_2 rfl rfl rfl rfl hs (by omega) (Nat.le_refl _) (Nat.le_refl _) (fun x h3 hx => ?_)
  obtain ⟨hx1, hx2⟩ := hx
  by_cases hE3 : k + w ≤ E
  · obtain ⟨rfl, rfl⟩ := hx1 hE3
    refine am_istore_n dX2_takeDistance_5 rfl rfl ?_
    refine am_iload_n dX2_takeDistance_6 rfl rfl ?_
    refine am_iconst (v := -1) dX2_takeDistance_7 rfl (by decide +kernel) ?_
    refine am_icmp_ne 13 dX2_takeDistance_8 rfl rfl (fun hc => ?_) (fun hc => ?_)
    · refine am_iload_n dX2_takeDistance_13 rfl rfl ?_
      refine am_nif_ne 19 dX2_takeDistance_14 rfl rfl (by omega) (fun hc => ?_) (fun hc => ?_)
      · have ed : dst f (k + w) y = 2 ^ (y - 1) + num f (k + w) (y - 1) + 1 := if_neg (by omega)
        refine am_aload_n dX2_takeDistance_19 rfl rfl ?_
        refine am_iload_n dX2_takeDistance_20 rfl rfl ?_
        refine am_iconst (v := nI 1) dX2_takeDistance_21 rfl (by decide +kernel) ?_
        refine am_isub dX2_takeDistance_22 rfl ?_
        rw [pk_sub (by omega)]
        refine am_vi (t_X2_take (d - 1) _ am_set_eq ((am_set_ne hsr.symm).trans hr) ((am_set_ne hsa.symm).trans ha) hE hn hE3 hsr hsa (b := y - 1) (by omega)) k_X2_take l_X2_47 dX2_takeDistance_23 rfl rfl rfl rfl am_set_eq (by omega) (Nat.le_refl _) (Nat.le_refl _) (fun x h4 hx => ?_)
        obtain ⟨hx3, hx4⟩ := hx
        by_cases hE4 : k + w + (y - 1) ≤ E
        · obtain ⟨rfl, rfl⟩ := hx3 hE4
          rw [am_set_set]
          refine am_istore_n dX2_takeDistance_26 rfl rfl ?_
          refine am_iload_n dX2_takeDistance_27 rfl rfl ?_
          refine am_iconst (v := -1) dX2_takeDistance_28 rfl (by decide +kernel) ?_
          refine am_icmp_ne 36 dX2_takeDistance_29 rfl rfl (fun hc => ?_) (fun hc => ?_)
          · refine am_iconst (v := nI 1) dX2_takeDistance_36 rfl (by decide +kernel) ?_
            refine am_iload_n dX2_takeDistance_37 rfl rfl ?_
            refine am_iconst (v := nI 1) dX2_takeDistance_38 rfl (by decide +kernel) ?_
            refine am_isub dX2_takeDistance_39 rfl ?_
            rw [pk_sub (by omega)]
            refine am_ishl dX2_takeDistance_40 rfl ?_
            rw [am_m31 (by omega), pk_shlN (nI (y - 1)) (y - 1) (am_smod (by omega)) (by omega), Nat.one_mul]
            refine am_iload_n dX2_takeDistance_41 rfl rfl ?_
            refine am_iadd dX2_takeDistance_42 rfl ?_
            refine am_iconst (v := nI 1) dX2_takeDistance_43 rfl (by decide +kernel) ?_
            refine am_iadd dX2_takeDistance_44 rfl ?_
            rw [nI_add, nI_add]
            exact am_ri dX2_takeDistance_45 rfl rfl rfl ⟨fun _ => ⟨by rw [ed], rfl⟩, fun g => by omega⟩
          · exact absurd hc (am_nm1 (by omega))
        · obtain ⟨rfl, rfl⟩ := hx4 (by omega)
          rw [am_set_set]
          refine am_istore_n dX2_takeDistance_26 rfl rfl ?_
          refine am_iload_n dX2_takeDistance_27 rfl rfl ?_
          refine am_iconst (v := -1) dX2_takeDistance_28 rfl (by decide +kernel) ?_
          refine am_icmp_ne 36 dX2_takeDistance_29 rfl rfl (fun hc => ?_) (fun hc => ?_)
          · exact absurd rfl hc
          · refine am_iconst (v := -1) dX2_takeDistance_32 rfl (by decide +kernel) ?_
            refine am_goto 45 dX2_takeDistance_33 rfl rfl ?_
            exact am_ri dX2_takeDistance_45 rfl rfl rfl ⟨fun g => by omega, fun _ => ⟨rfl, rfl⟩⟩
      · subst hc
        refine am_iconst (v := nI 1) dX2_takeDistance_17 rfl (by decide +kernel) ?_
        exact am_ri dX2_takeDistance_18 rfl rfl rfl ⟨fun _ => ⟨rfl, rfl⟩, fun g => by omega⟩
    · exact absurd hc (am_nm1 (by omega))
  · obtain ⟨rfl, rfl⟩ := hx2 (by omega)
    refine am_istore_n dX2_takeDistance_5 rfl rfl ?_
    refine am_iload_n dX2_takeDistance_6 rfl rfl ?_
    refine am_iconst (v := -1) dX2_takeDistance_7 rfl (by decide +kernel) ?_
    refine am_icmp_ne 13 dX2_takeDistance_8 rfl rfl (fun hc => ?_) (fun hc => ?_)
    · exact absurd rfl hc
    · refine am_iconst (v := -1) dX2_takeDistance_11 rfl (by decide +kernel) ?_
      exact am_ri dX2_takeDistance_12 rfl rfl rfl ⟨fun g => by omega, fun _ => ⟨rfl, rfl⟩⟩
end SRC2
end
section
/-! ===== Account ===== -/
section ACCT
variable {l : Launch} {D : va_G} {dA : Bool → ClassId}
abbrev acO (op : Bool) (bl co cp bi : Nat) : am_E := .inr (0, [am_r 6, am_r 14, am_r 22, .inl (am_bz op), .inl (nI bl), .inl (nI co), .inl (nI cp), .inl (nI bi)])
theorem am_fit_b (x : Bool) : am_fit .boolean (.inl (am_bz x)) := fun b ad c h => by
  rw [am_cv_i h]
  cases x
  · exact ⟨by decide +kernel, by decide +kernel⟩
  · exact ⟨by decide +kernel, by decide +kernel⟩
/-- the shape of a cell that is an array of ints -/
def ars (h : am_H) (k n : Nat) : Prop := ∃ f : Nat → Int32, h k = some (.inl (false, n, f))
theorem ars.at {h h' : am_H} {k n : Nat} (a : ars h k n) (e : h' k = h k) : ars h' k n := by
  obtain ⟨f, hf⟩ := a
  exact ⟨f, e.trans hf⟩
theorem ars.of {h : am_H} {k n : Nat} {f : Nat → Int32} (e : h k = some (.inl (false, n, f))) : ars h k n := ⟨f, e⟩
/-- the shape of a tree -/
def tsh (h : am_H) (t m : Nat) : Prop := (∃ al, h t = some (trO t al)) ∧ ars h (t + 1) m ∧ ars h (t + 2) m ∧ ars h (t + 3) m ∧ ars h (t + 4) m ∧ ars h (t + 5) 17 ∧ ars h (t + 6) 17 ∧ ars h (t + 7) 17
/-- a tree that is wiped -/
def wpd (h : am_H) (t m : Nat) : Prop := h t = some (trO t (-1)) ∧ (∃ f : Nat → Int32, h (t + 1) = some (.inl (false, m, f)) ∧ ∀ j, j < m → f j = nI 0) ∧ ∃ g : Nat → Int32, h (t + 3) = some (.inl (false, m, g)) ∧ ∀ j, j < m → g j = nI 0
theorem wpd.at {h h' : am_H} {t m : Nat} (a : wpd h t m) (e : ∀ j, t ≤ j → j ≤ t + 7 → h' j = h j) : wpd h' t m := by
  obtain ⟨a1, ⟨f, a2, a3⟩, g, a4, a5⟩ := a
  exact ⟨(e _ (by omega) (by omega)).trans a1, ⟨f, (e _ (by omega) (by omega)).trans a2, a3⟩, g, (e _ (by omega) (by omega)).trans a4, a5⟩
theorem tsh.at {h h' : am_H} {t m : Nat} (a : tsh h t m) (e : ∀ j, t ≤ j → j ≤ t + 7 → h' j = h j) : tsh h' t m := by
  obtain ⟨⟨al, a1⟩, b1, b2, b3, b4, b5, b6, b7⟩ := a
  exact ⟨⟨al, (e _ (by omega) (by omega)).trans a1⟩, b1.at (e _ (by omega) (by omega)), b2.at (e _ (by omega) (by omega)), b3.at (e _ (by omega) (by omega)), b4.at (e _ (by omega) (by omega)), b5.at (e _ (by omega) (by omega)), b6.at (e _ (by omega) (by omega)), b7.at (e _ (by omega) (by omega))⟩
/-- wiping a tree: what changes -/
theorem t_wipe (d n0 : Nat) {h : am_H} {t m : Nat} (ht : tsh h t m) (hm : m < 2 ^ 20) (hd : 1 ≤ d) : am_Ct l D dA m_X7_wipe d 0 0 n0 [am_r t] h (am_qv fun h' => am_fr h h' [t, t + 1, t + 3] ∧ wpd h' t m ∧ tsh h' t m) := by
  obtain ⟨⟨al, a1⟩, ⟨f1, b1⟩, b2, ⟨f3, b3⟩, b4, b5, b6, b7⟩ := ht
  refine (t_X7_wipe d n0 a1 b1 hm b3 hd).mono (fun r h' hq => ⟨hq.1, ?_⟩)
  have e := hq.2
  have hfr : am_fr h h' [t, t + 1, t + 3] := by rw [e]; exact ((am_fr.rf.set (by simp)).set (by simp)).set (by simp)
  have e0 : h' t = some (trO t (-1)) := by rw [e]; exact am_set_eq
  have e1 : h' (t + 1) = some (.inl (false, m, fun j => if j < m then nI 0 else f1 j)) := by rw [e]; exact (am_set_ne (by omega)).trans ((am_set_ne (by omega)).trans am_set_eq)
  have e3 : h' (t + 3) = some (.inl (false, m, fun j => if j < m then nI 0 else f3 j)) := by rw [e]; exact (am_set_ne (by omega)).trans am_set_eq
  exact ⟨hfr, ⟨e0, ⟨_, e1, fun j hj => if_pos hj⟩, _, e3, fun j hj => if_pos hj⟩, ⟨_, e0⟩, ⟨_, e1⟩, b2.at (hfr _ (by simp)), ⟨_, e3⟩, b4.at (hfr _ (by simp)), b5.at (hfr _ (by simp)), b6.at (hfr _ (by simp)), b7.at (hfr _ (by simp))⟩
set_option maxHeartbeats 4000000 in
set_option maxRecDepth 100000 in
theorem t_X0_open (d n0 : Nat) {h : am_H} {op : Bool} {bl co cp bi : Nat} (ha : h 5 = some (acO op bl co cp bi)) : am_Ct l D dA m_X0_open d 0 0 n0 [am_r 5] h (am_qv fun h' => h' = am_set h 5 (acO true 0 0 0 0)) := by
  refine am_Cv (by decide +kernel) rfl rfl ?_
  refine am_aload_n dX0_open_0 rfl rfl ?_
  refine am_iconst (v := nI 1) dX0_open_1 rfl (by decide +kernel) ?_
  refine am_put f_X0_26 dX0_open_2 rfl ha (am_fit_b true) rfl ?_
  refine am_aload_n dX0_open_5 rfl rfl ?_
  refine am_iconst (v := nI 0) dX0_open_6 rfl (by decide +kernel) ?_
  refine am_put f_X0_30 dX0_open_7 rfl am_set_eq (am_fit_i _) rfl ?_
  refine am_aload_n dX0_open_10 rfl rfl ?_
  refine am_iconst (v := nI 0) dX0_open_11 rfl (by decide +kernel) ?_
  refine am_put f_X0_34 dX0_open_12 rfl am_set_eq (am_fit_i _) rfl ?_
  refine am_aload_n dX0_open_15 rfl rfl ?_
  refine am_iconst (v := nI 0) dX0_open_16 rfl (by decide +kernel) ?_
  refine am_put f_X0_37 dX0_open_17 rfl am_set_eq (am_fit_i _) rfl ?_
  refine am_aload_n dX0_open_20 rfl rfl ?_
  refine am_iconst (v := nI 0) dX0_open_21 rfl (by decide +kernel) ?_
  refine am_put f_X0_40 dX0_open_22 rfl am_set_eq (am_fit_i _) rfl ?_
  exact am_rv dX0_open_25 rfl rfl rfl (by rw [am_set_set, am_set_set, am_set_set, am_set_set]; rfl)
set_option maxHeartbeats 4000000 in
set_option maxRecDepth 100000 in
theorem t_X0_countByte (d n0 : Nat) {h : am_H} {op : Bool} {bl co cp bi : Nat} (ha : h 5 = some (acO op bl co cp bi)) : am_Ct l D dA m_X0_countByte d 0 0 n0 [am_r 5] h (am_qv fun h' => h' = am_set h 5 (acO op bl (co + 1) cp bi)) := by
  refine am_Cv (by decide +kernel) rfl rfl ?_
  refine am_aload_n dX0_countByte_0 rfl rfl ?_
  refine am_dup dX0_countByte_1 rfl ?_
  refine am_get f_X0_34 dX0_countByte_2 rfl ha rfl ?_
  refine am_iconst (v := nI 1) dX0_countByte_5 rfl (by decide +kernel) ?_
  refine am_iadd dX0_countByte_6 rfl ?_
  rw [nI_add]
  refine am_put f_X0_34 dX0_countByte_7 rfl ha (am_fit_i _) rfl ?_
  exact am_rv dX0_countByte_10 rfl rfl rfl rfl
set_option maxHeartbeats 4000000 in
set_option maxRecDepth 100000 in
theorem t_X0_countCopy (d n0 : Nat) {h : am_H} {op : Bool} {bl co cp bi : Nat} (ha : h 5 = some (acO op bl co cp bi)) : am_Ct l D dA m_X0_countCopy d 0 0 n0 [am_r 5] h (am_qv fun h' => h' = am_set h 5 (acO op bl (co + 1) (cp + 1) bi)) := by
  refine am_Cv (by decide +kernel) rfl rfl ?_
  refine am_aload_n dX0_countCopy_0 rfl rfl ?_
  refine am_dup dX0_countCopy_1 rfl ?_
  refine am_get f_X0_34 dX0_countCopy_2 rfl ha rfl ?_
  refine am_iconst (v := nI 1) dX0_countCopy_5 rfl (by decide +kernel) ?_
  refine am_iadd dX0_countCopy_6 rfl ?_
  rw [nI_add]
  refine am_put f_X0_34 dX0_countCopy_7 rfl ha (am_fit_i _) rfl ?_
  refine am_aload_n dX0_countCopy_10 rfl rfl ?_
  refine am_dup dX0_countCopy_11 rfl ?_
  refine am_get f_X0_37 dX0_countCopy_12 rfl am_set_eq rfl ?_
  refine am_iconst (v := nI 1) dX0_countCopy_15 rfl (by decide +kernel) ?_
  refine am_iadd dX0_countCopy_16 rfl ?_
  rw [nI_add]
  refine am_put f_X0_37 dX0_countCopy_17 rfl am_set_eq (am_fit_i _) rfl ?_
  exact am_rv dX0_countCopy_20 rfl rfl rfl (by rw [am_set_set]; rfl)
set_option maxHeartbeats 4000000 in
set_option maxRecDepth 100000 in
theorem t_X0_close (d n0 : Nat) {h : am_H} {op : Bool} {bl co cp bi : Nat} (ha : h 5 = some (acO op bl co cp bi)) (n : Nat) : am_Ct l D dA m_X0_close d 0 0 n0 [am_r 5, .inl (nI n)] h (am_qv fun h' => h' = am_set h 5 (acO op bl co cp n)) := by
  refine am_Cv (by decide +kernel) rfl rfl ?_
  refine am_aload_n dX0_close_0 rfl rfl ?_
  refine am_iload_n dX0_close_1 rfl rfl ?_
  refine am_put f_X0_40 dX0_close_2 rfl ha (am_fit_i _) rfl ?_
  exact am_rv dX0_close_5 rfl rfl rfl rfl
set_option maxHeartbeats 4000000 in
set_option maxRecDepth 100000 in
theorem t_X0_hasBlock (d n0 : Nat) {h : am_H} {op : Bool} {bl co cp bi : Nat} (ha : h 5 = some (acO op bl co cp bi)) (hb : bl < 2 ^ 31) : am_Ct l D dA m_X0_hasBlock d 0 0 n0 [am_r 5] h (am_qi fun x h' => x = am_bz (decide (0 < bl)) ∧ h' = h) := by
  refine am_Cz (by decide +kernel) rfl (fun x h' hx => by rw [hx.1]; exact am_bz_01 _) rfl ?_
  refine am_aload_n dX0_hasBlock_0 rfl rfl ?_
  refine am_get f_X0_30 dX0_hasBlock_1 rfl ha rfl ?_
  refine am_nif_le 11 dX0_hasBlock_4 rfl rfl (by omega) (fun hc => ?_) (fun hc => ?_)
  · refine am_iconst (v := nI 0) dX0_hasBlock_11 rfl (by decide +kernel) ?_
    exact am_ri dX0_hasBlock_12 rfl rfl rfl ⟨by rw [decide_eq_false (by omega)]; rfl, rfl⟩
  · refine am_iconst (v := nI 1) dX0_hasBlock_7 rfl (by decide +kernel) ?_
    refine am_goto 12 dX0_hasBlock_8 rfl rfl ?_
    exact am_ri dX0_hasBlock_12 rfl rfl rfl ⟨by rw [decide_eq_true hc]; rfl, rfl⟩
set_option maxHeartbeats 4000000 in
set_option maxRecDepth 100000 in
theorem t_X0_tree0 (d n0 : Nat) {h : am_H} {op : Bool} {bl co cp bi : Nat} (ha : h 5 = some (acO op bl co cp bi)) : am_Ct l D dA m_X0_tree d 0 0 n0 [am_r 5, .inl (nI 0)] h (am_qr fun x h' => x = 6 ∧ h' = h) := by
  refine am_Cr (by decide +kernel) rfl rfl ?_
  refine am_iload_n dX0_tree_0 rfl rfl ?_
  refine am_nif_ne 11 dX0_tree_1 rfl rfl (by omega) (fun hc => ?_) (fun hc => ?_)
  · omega
  · refine am_aload_n dX0_tree_4 rfl rfl ?_
    refine am_get f_X0_14 dX0_tree_5 rfl ha rfl ?_
    refine am_goto 27 dX0_tree_8 rfl rfl ?_
    exact am_rr dX0_tree_27 rfl rfl rfl ⟨rfl, rfl⟩
set_option maxHeartbeats 4000000 in
set_option maxRecDepth 100000 in
theorem t_X0_tree1 (d n0 : Nat) {h : am_H} {op : Bool} {bl co cp bi : Nat} (ha : h 5 = some (acO op bl co cp bi)) : am_Ct l D dA m_X0_tree d 0 0 n0 [am_r 5, .inl (nI 1)] h (am_qr fun x h' => x = 14 ∧ h' = h) := by
  refine am_Cr (by decide +kernel) rfl rfl ?_
  refine am_iload_n dX0_tree_0 rfl rfl ?_
  refine am_nif_ne 11 dX0_tree_1 rfl rfl (by omega) (fun hc => ?_) (fun hc => ?_)
  · refine am_iload_n dX0_tree_11 rfl rfl ?_
    refine am_iconst (v := nI 1) dX0_tree_12 rfl (by decide +kernel) ?_
    refine am_ncmp_ne 23 dX0_tree_13 rfl rfl (by omega) (by omega) (fun hc => ?_) (fun hc => ?_)
    · omega
    · refine am_aload_n dX0_tree_16 rfl rfl ?_
      refine am_get f_X0_20 dX0_tree_17 rfl ha rfl ?_
      refine am_goto 27 dX0_tree_20 rfl rfl ?_
      exact am_rr dX0_tree_27 rfl rfl rfl ⟨rfl, rfl⟩
  · omega
set_option maxHeartbeats 4000000 in
set_option maxRecDepth 100000 in
theorem t_X0_tree2 (d n0 : Nat) {h : am_H} {op : Bool} {bl co cp bi : Nat} (ha : h 5 = some (acO op bl co cp bi)) : am_Ct l D dA m_X0_tree d 0 0 n0 [am_r 5, .inl (nI 2)] h (am_qr fun x h' => x = 22 ∧ h' = h) := by
  refine am_Cr (by decide +kernel) rfl rfl ?_
  refine am_iload_n dX0_tree_0 rfl rfl ?_
  refine am_nif_ne 11 dX0_tree_1 rfl rfl (by omega) (fun hc => ?_) (fun hc => ?_)
  · refine am_iload_n dX0_tree_11 rfl rfl ?_
    refine am_iconst (v := nI 1) dX0_tree_12 rfl (by decide +kernel) ?_
    refine am_ncmp_ne 23 dX0_tree_13 rfl rfl (by omega) (by omega) (fun hc => ?_) (fun hc => ?_)
    · refine am_aload_n dX0_tree_23 rfl rfl ?_
      refine am_get f_X0_23 dX0_tree_24 rfl ha rfl ?_
      exact am_rr dX0_tree_27 rfl rfl rfl ⟨rfl, rfl⟩
    · omega
  · omega
def tld (op : Bool) (bl co cp bi : Nat) (i : Int32) : Int32 := if op then (match ix i 4 with | some 0 => nI bl | some 1 => nI co | some 2 => nI cp | some _ => nI bi | none => -1) else -1
set_option maxHeartbeats 4000000 in
set_option maxRecDepth 100000 in
theorem t_X0_number (d n0 : Nat) {h : am_H} {op : Bool} {bl co cp bi : Nat} (ha : h 5 = some (acO op bl co cp bi)) (i : Int32) : am_Ct l D dA m_X0_number d 0 0 n0 [am_r 5, .inl i] h (am_qi fun x h' => x = tld op bl co cp bi i ∧ h' = h) := by
  refine am_Ci (by decide +kernel) rfl rfl ?_
  refine am_aload_n dX0_number_0 rfl rfl ?_
  refine am_get f_X0_26 dX0_number_1 rfl ha rfl ?_
  refine am_bif_ne 9 dX0_number_4 rfl rfl (fun hc => ?_) (fun hc => ?_)
  · subst hc
    refine am_iload_n dX0_number_9 rfl rfl ?_
    cases hi : ix i 4 with
    | none =>
      have hi2 := ix_none hi (by decide)
      refine am_swOut 60 dX0_number_10 rfl ?_ rfl ?_
      · rcases hi2 with g | g
        · have := Int32.lt_iff_toInt_lt.mp g
          rw [Int32.toInt_zero] at this
          exact Or.inl this
        · have := Int32.le_iff_toInt_le.mp g
          rw [nI_toInt (by decide)] at this
          exact Or.inr (by omega)
      · refine am_iconst (v := -1) dX0_number_60 rfl (by decide +kernel) ?_
        exact am_ri dX0_number_61 rfl rfl rfl ⟨by unfold tld; rw [if_pos rfl, hi], rfl⟩
    | some j =>
      obtain ⟨hj, rfl⟩ := ix_some hi
      have e : (nI j).toInt = (j : Int) := nI_toInt (by omega)
      rcases (show j = 0 ∨ j = 1 ∨ j = 2 ∨ j = 3 by omega) with rfl | rfl | rfl | rfl
      · refine am_swIn 40 dX0_number_10 rfl (by rw [e]; decide) (by rw [e]; decide) (by rw [e]; rfl) rfl ?_
        refine am_aload_n dX0_number_40 rfl rfl ?_
        refine am_get f_X0_30 dX0_number_41 rfl ha rfl ?_
        exact am_ri dX0_number_44 rfl rfl rfl ⟨by unfold tld; rw [if_pos rfl, hi]; rfl, rfl⟩
      · refine am_swIn 45 dX0_number_10 rfl (by rw [e]; decide) (by rw [e]; decide) (by rw [e]; rfl) rfl ?_
        refine am_aload_n dX0_number_45 rfl rfl ?_
        refine am_get f_X0_34 dX0_number_46 rfl ha rfl ?_
        exact am_ri dX0_number_49 rfl rfl rfl ⟨by unfold tld; rw [if_pos rfl, hi]; rfl, rfl⟩
      · refine am_swIn 50 dX0_number_10 rfl (by rw [e]; decide) (by rw [e]; decide) (by rw [e]; rfl) rfl ?_
        refine am_aload_n dX0_number_50 rfl rfl ?_
        refine am_get f_X0_37 dX0_number_51 rfl ha rfl ?_
        exact am_ri dX0_number_54 rfl rfl rfl ⟨by unfold tld; rw [if_pos rfl, hi]; rfl, rfl⟩
      · refine am_swIn 55 dX0_number_10 rfl (by rw [e]; decide) (by rw [e]; decide) (by rw [e]; rfl) rfl ?_
        refine am_aload_n dX0_number_55 rfl rfl ?_
        refine am_get f_X0_40 dX0_number_56 rfl ha rfl ?_
        exact am_ri dX0_number_59 rfl rfl rfl ⟨by unfold tld; rw [if_pos rfl, hi]; rfl, rfl⟩
  · subst hc
    refine am_iconst (v := -1) dX0_number_7 rfl (by decide +kernel) ?_
    exact am_ri dX0_number_8 rfl rfl rfl ⟨rfl, rfl⟩
set_option maxHeartbeats 4000000 in
set_option maxRecDepth 100000 in
theorem t_X0_beginBlock (d n0 : Nat) {h : am_H} {op : Bool} {bl co cp bi : Nat} (ha : h 5 = some (acO op bl co cp bi)) (hT : tsh h 6 19) (hC : tsh h 14 510) (hP : tsh h 22 14) (hd : 2 ≤ d) : am_Ct l D dA m_X0_beginBlock d 0 0 n0 [am_r 5] h (am_qv fun h' => am_fr h h' [5, 6, 7, 9, 14, 15, 17, 22, 23, 25] ∧ h' 5 = some (acO op (bl + 1) co cp bi) ∧ (wpd h' 6 19 ∧ tsh h' 6 19) ∧ (wpd h' 14 510 ∧ tsh h' 14 510) ∧ (wpd h' 22 14 ∧ tsh h' 22 14)) := by
  refine am_Cv (by decide +kernel) rfl rfl ?_
  refine am_aload_n dX0_beginBlock_0 rfl rfl ?_
  refine am_dup dX0_beginBlock_1 rfl ?_
  refine am_get f_X0_30 dX0_beginBlock_2 rfl ha rfl ?_
  refine am_iconst (v := nI 1) dX0_beginBlock_5 rfl (by decide +kernel) ?_
  refine am_iadd dX0_beginBlock_6 rfl ?_
  rw [nI_add]
  refine am_put f_X0_30 dX0_beginBlock_7 rfl ha (am_fit_i _) rfl ?_
  obtain ⟨h1, e1⟩ : ∃ h1, h1 = am_set h 5 (.inr (0, ([am_r 6, am_r 14, am_r 22, .inl (am_bz op), .inl (nI bl), .inl (nI co), .inl (nI cp), .inl (nI bi)] : List am_V).set 4 (.inl (nI (bl + 1))))) := ⟨_, rfl⟩
  rw [← e1]
  have f1 : am_fr h h1 [5] := by rw [e1]; exact am_fr.rf.set (by simp)
  have g5 : h1 5 = some (acO op (bl + 1) co cp bi) := by rw [e1]; exact am_set_eq
  have hT := hT.at (h' := h1) (fun j a b => f1 j (by simp; omega))
  have hC := hC.at (h' := h1) (fun j a b => f1 j (by simp; omega))
  have hP := hP.at (h' := h1) (fun j a b => f1 j (by simp; omega))
  obtain ⟨al6, t6⟩ := hT.1
  refine am_aload_n dX0_beginBlock_10 rfl rfl ?_
  refine am_get f_X0_14 dX0_beginBlock_11 rfl g5 rfl ?_
  refine am_vv (t_wipe (d - 1) _ hT (by omega) (by omega)) k_X7_wipe l_X0_43 dX0_beginBlock_14 rfl rfl rfl rfl t6 (by omega) (Nat.le_refl _) (Nat.le_refl _) (fun h2 hx => ?_)
  obtain ⟨f2, w6, s6⟩ := hx
  have g5 := (f2 5 (by simp)).trans g5
  have hC := hC.at (h' := h2) (fun j a b => f2 j (by simp; omega))
  have hP := hP.at (h' := h2) (fun j a b => f2 j (by simp; omega))
  obtain ⟨al14, t14⟩ := hC.1
  refine am_aload_n dX0_beginBlock_17 rfl rfl ?_
  refine am_get f_X0_20 dX0_beginBlock_18 rfl g5 rfl ?_
  refine am_vv (t_wipe (d - 1) _ hC (by omega) (by omega)) k_X7_wipe l_X0_43 dX0_beginBlock_21 rfl rfl rfl rfl t14 (by omega) (Nat.le_refl _) (Nat.le_refl _) (fun h3 hx => ?_)
  obtain ⟨f3, w14, s14⟩ := hx
  have g5 := (f3 5 (by simp)).trans g5
  have w6 := w6.at (h' := h3) (fun j a b => f3 j (by simp; omega))
  have s6 := s6.at (h' := h3) (fun j a b => f3 j (by simp; omega))
  have hP := hP.at (h' := h3) (fun j a b => f3 j (by simp; omega))
  obtain ⟨al22, t22⟩ := hP.1
  refine am_aload_n dX0_beginBlock_24 rfl rfl ?_
  refine am_get f_X0_23 dX0_beginBlock_25 rfl g5 rfl ?_
  refine am_vv (t_wipe (d - 1) _ hP (by omega) (by omega)) k_X7_wipe l_X0_43 dX0_beginBlock_28 rfl rfl rfl rfl t22 (by omega) (Nat.le_refl _) (Nat.le_refl _) (fun h4 hx => ?_)
  obtain ⟨f4, w22, s22⟩ := hx
  refine am_rv dX0_beginBlock_31 rfl rfl rfl ⟨fun j hj => ?_, (f4 5 (by simp)).trans g5, ⟨w6.at (fun j a b => f4 j (by simp; omega)), s6.at (fun j a b => f4 j (by simp; omega))⟩, ⟨w14.at (fun j a b => f4 j (by simp; omega)), s14.at (fun j a b => f4 j (by simp; omega))⟩, w22, s22⟩
  simp only [List.mem_cons, List.not_mem_nil, or_false, not_or] at hj
  rw [f4 j (by simp; omega), f3 j (by simp; omega), f2 j (by simp; omega), f1 j (by simp; omega)]
end ACCT
end
section
/-! ===== rows of bytes as lists; what reading is, as functions ===== -/
/-- a row of bytes: its object r, its array a of n -/
def rws (h : am_H) (r a n : Nat) (bs : List Int32) : Prop := ∃ g : Nat → Int32, h r = some (rwO a bs.length) ∧ h a = some (.inl (false, n, g)) ∧ ∀ i v, bs[i]? = some v → g i = v
theorem rws.at {h h' : am_H} {r a n : Nat} {bs : List Int32} (w : rws h r a n bs) (e1 : h' r = h r) (e2 : h' a = h a) : rws h' r a n bs := by
  obtain ⟨g, a1, a2, a3⟩ := w
  exact ⟨g, e1.trans a1, e2.trans a2, a3⟩
/-- a copy of q bytes from a distance -/
def cpl (bs : List Int32) (dd : Nat) : Nat → List Int32
  | 0 => bs
  | q + 1 => cpl bs dd q ++ [(cpl bs dd q).getD ((cpl bs dd q).length - dd) 0]
theorem cpl_len (bs : List Int32) (dd : Nat) : ∀ q, (cpl bs dd q).length = bs.length + q
  | 0 => rfl
  | q + 1 => by
    show (_ ++ [_]).length = _
    rw [List.length_append, cpl_len bs dd q]
    rfl
/-- the symbol that the bits are, with how many bits -/
noncomputable def sy (len : Nat → Nat) (m : Nat) (al : Int32) (f : Nat → Int32) (k : Nat) : Nat × Nat := @dite _ (∃ p : Nat × Nat, SR len m al f k p.1 p.2) (Classical.propDecidable _) (fun h => Classical.choose h) (fun _ => (0, 0))
theorem sy_spec {h : am_H} {t m : Nat} {al : Int32} {len : Nat → Nat} (hr : rdy h t m al len) (f : Nat → Int32) (k : Nat) : SR len m al f k (sy len m al f k).1 (sy len m al f k).2 := by
  obtain ⟨n, s, hs⟩ := SR_ex hr f k
  have he : ∃ p : Nat × Nat, SR len m al f k p.1 p.2 := ⟨(n, s), hs⟩
  unfold sy
  rw [dif_pos he]
  exact Classical.choose_spec he
/-- one code: the fault, the bits, what is made, codes, copies -/
noncomputable def oneR (lenC : Nat → Nat) (alC : Int32) (lenP : Nat → Nat) (alP : Int32) (f : Nat → Int32) (E wa k : Nat) (bs : List Int32) (co cp : Nat) : Nat × Nat × List Int32 × Nat × Nat :=
  if E < k + (sy lenC 510 alC f k).1 then (1, E, bs, co, cp)
  else if (sy lenC 510 alC f k).2 < 256 then (0, k + (sy lenC 510 alC f k).1, bs ++ [nI (sy lenC 510 alC f k).2], co + 1, cp)
  else if E < k + (sy lenC 510 alC f k).1 + (sy lenP 14 alP f (k + (sy lenC 510 alC f k).1)).1 + ((sy lenP 14 alP f (k + (sy lenC 510 alC f k).1)).2 - 1) then (1, E, bs, co, cp)
  else if bs.length < dst f (k + (sy lenC 510 alC f k).1 + (sy lenP 14 alP f (k + (sy lenC 510 alC f k).1)).1) (sy lenP 14 alP f (k + (sy lenC 510 alC f k).1)).2 then (4, k + (sy lenC 510 alC f k).1 + (sy lenP 14 alP f (k + (sy lenC 510 alC f k).1)).1 + ((sy lenP 14 alP f (k + (sy lenC 510 alC f k).1)).2 - 1), bs, co, cp)
  else ((if wa - bs.length < (sy lenC 510 alC f k).2 - 253 then 5 else 0), k + (sy lenC 510 alC f k).1 + (sy lenP 14 alP f (k + (sy lenC 510 alC f k).1)).1 + ((sy lenP 14 alP f (k + (sy lenC 510 alC f k).1)).2 - 1), cpl bs (dst f (k + (sy lenC 510 alC f k).1 + (sy lenP 14 alP f (k + (sy lenC 510 alC f k).1)).1) (sy lenP 14 alP f (k + (sy lenC 510 alC f k).1)).2) (min ((sy lenC 510 alC f k).2 - 253) (wa - bs.length)), co + 1, cp + 1)
def updN (len : Nat → Nat) (i v : Nat) : Nat → Nat := fun j => if j = i then v else len j
/-- lengths as T and P have them: the fault, the bits, the lengths -/
def lnsR (f : Nat → Int32) (E : Nat) (gp : Bool) (n : Nat) : Nat → Nat → Nat → (Nat → Nat) → Nat × Nat × (Nat → Nat)
  | 0, _, k, len => (0, k, len)
  | q + 1, i, k, len =>
    if n ≤ i then (0, k, len)
    else if E < k + tln f k then (1, E, len)
    else if 16 < tlv f k then (2, k + tln f k, len)
    else if gp = true ∧ i = 2 then (if E < k + tln f k + 2 then (1, E, updN len i (tlv f k)) else lnsR f E gp n q (i + num f (k + tln f k) 2 + 1) (k + tln f k + 2) (updN len i (tlv f k)))
    else lnsR f E gp n q (i + 1) (k + tln f k) (updN len i (tlv f k))
def bbh (y : Nat) : Nat := if y = 1 then 4 else if y = 2 then 9 else 0
def lsf (y : Nat) : Nat := if y = 1 then 3 else if y = 2 then 20 else 1
/-- lengths of C by symbols of T -/
noncomputable def lncR (f : Nat → Int32) (E n : Nat) (lenT : Nat → Nat) (alT : Int32) : Nat → Nat → Nat → (Nat → Nat) → Nat × Nat × (Nat → Nat)
  | 0, kn, k, len => ((if n < kn then 3 else 0), k, len)
  | q + 1, kn, k, len =>
    if n ≤ kn then ((if n < kn then 3 else 0), k, len)
    else if E < k + (sy lenT 19 alT f k).1 then (1, E, len)
    else if E < k + (sy lenT 19 alT f k).1 + bbh (sy lenT 19 alT f k).2 then (1, E, len)
    else lncR f E n lenT alT q (kn + (lsf (sy lenT 19 alT f k).2 + num f (k + (sy lenT 19 alT f k).1) (bbh (sy lenT 19 alT f k).2))) (k + (sy lenT 19 alT f k).1 + bbh (sy lenT 19 alT f k).2) (if 2 < (sy lenT 19 alT f k).2 then updN len kn ((sy lenT 19 alT f k).2 - 2) else len)
/-- a tree: the fault, the bits, the one symbol, the lengths; lns: what reads the lengths (their number, the bits) -/
noncomputable def treR (f : Nat → Int32) (E m nb : Nat) (lns : Nat → Nat → Nat × Nat × (Nat → Nat)) (k : Nat) : Nat × Nat × Int32 × (Nat → Nat) :=
  if E < k + nb then (1, E, -1, fun _ => 0)
  else if m < num f k nb then (3, k + nb, -1, fun _ => 0)
  else if num f k nb = 0 then (if E < k + nb + nb then (1, E, -1, fun _ => 0) else if m ≤ num f (k + nb) nb then (3, k + nb + nb, -1, fun _ => 0) else (0, k + nb + nb, nI (num f (k + nb) nb), fun _ => 0))
  else ((if (lns (num f k nb) (k + nb)).1 = 0 then (if krf (lns (num f k nb) (k + nb)).2.2 m = 65536 then 0 else 2) else (lns (num f k nb) (k + nb)).1), (lns (num f k nb) (k + nb)).2.1, -1, (lns (num f k nb) (k + nb)).2.2)
section LROW
variable {l : Launch} {D : va_G} {dA : Bool → ClassId}
theorem t_add (d n0 : Nat) {h : am_H} {r a n : Nat} {bs : List Int32} (w : rws h r a n bs) (hra : a ≠ r) (hn : n < 2 ^ 20) (hl : bs.length < n) (v : Int32) : am_Ct l D dA m_X3_add d 0 0 n0 [am_r r, .inl v] h (am_qv fun h' => am_fr h h' [r, a] ∧ rws h' r a n (bs ++ [v])) := by
  obtain ⟨g, a1, a2, a3⟩ := w
  refine (t_X3_add d n0 a1 a2 hra (by omega) hl v).mono (fun q h' hq => ⟨hq.1, ?_⟩)
  have e := hq.2
  refine ⟨by rw [e]; exact (am_fr.rf.set (by simp)).set (by simp), upd g bs.length v, ?_, ?_, ?_⟩
  · rw [e, am_set_eq, List.length_append]; rfl
  · rw [e, am_set_ne hra, am_set_eq]
  · intro i x hi
    by_cases c : i < bs.length
    · rw [List.getElem?_append_left c] at hi
      rw [upd_ne (by omega)]
      exact a3 i x hi
    · rw [List.getElem?_append_right (by omega)] at hi
      have hz : i - bs.length < 1 := (List.getElem?_eq_some_iff.mp hi).1
      have hi2 : i = bs.length := by omega
      subst hi2
      rw [Nat.sub_self] at hi
      cases hi
      exact upd_eq
theorem t_at (d n0 : Nat) {h : am_H} {r a n : Nat} {bs : List Int32} (w : rws h r a n bs) (hra : a ≠ r) (hn : n < 2 ^ 20) (hl : bs.length ≤ n) (hd : 1 ≤ d) (i : Int32) : am_Ct l D dA m_X3_at d 0 0 n0 [am_r r, .inl i] h (am_qi fun x h' => x = (match ix i bs.length with | some k => bs.getD k 0 | none => -1) ∧ h' = h) := by
  obtain ⟨g, a1, a2, a3⟩ := w
  refine (t_X3_at d n0 a1 a2 hra (by omega) hl hd i).mono (fun q h' hq => ?_)
  obtain ⟨x, e1, e2, e3⟩ := hq
  refine ⟨x, e1, ?_, e3⟩
  rw [e2]
  cases hi : ix i bs.length with
  | none => rfl
  | some k =>
    have hk := (ix_some hi).1
    show g k = bs.getD k 0
    rw [a3 k (bs[k]) (List.getElem?_eq_getElem hk), List.getD_eq_getElem?_getD, List.getElem?_eq_getElem hk]
    rfl
theorem t_count (d n0 : Nat) {h : am_H} {r a n : Nat} {bs : List Int32} (w : rws h r a n bs) : am_Ct l D dA m_X3_count d 0 0 n0 [am_r r] h (am_qi fun x h' => x = nI bs.length ∧ h' = h) := by
  obtain ⟨g, a1, a2, a3⟩ := w
  exact t_X3_count d n0 a1
theorem t_empty (d n0 : Nat) {h : am_H} {r a n : Nat} {bs : List Int32} (w : rws h r a n bs) (hra : a ≠ r) : am_Ct l D dA m_X3_empty d 0 0 n0 [am_r r] h (am_qv fun h' => am_fr h h' [r] ∧ rws h' r a n []) := by
  obtain ⟨g, a1, a2, a3⟩ := w
  refine (t_X3_empty d n0 a1).mono (fun q h' hq => ⟨hq.1, ?_⟩)
  have e := hq.2
  exact ⟨by rw [e]; exact am_fr.rf.set (by simp), g, by rw [e]; exact am_set_eq, by rw [e]; exact (am_set_ne hra).trans a2, fun i v hi => by simp at hi⟩
end LROW
end
section
/-! ===== Unpacker: codes ===== -/
section UNP
variable {l : Launch} {D : va_G} {dA : Bool → ClassId}
abbrev unO (wa : Nat) : am_E := .inr (8, [am_r 31, am_r 3, am_r 5, am_r 6, am_r 14, am_r 22, .inl (nI wa)])
set_option maxHeartbeats 4000000 in
set_option maxRecDepth 100000 in
theorem t_X9_bitsBehind (d n0 : Nat) {h : am_H} {y : Nat} (hy : y < 2 ^ 20) : am_Ct l D dA m_X9_bitsBehind d 0 0 n0 [.inl (nI y)] h (am_qi fun x h' => x = nI (bbh y) ∧ h' = h) := by
  refine am_Ci (by decide +kernel) rfl rfl ?_
  refine am_iload_n dX9_bitsBehind_0 rfl rfl ?_
  refine am_iconst (v := nI 1) dX9_bitsBehind_1 rfl (by decide +kernel) ?_
  refine am_ncmp_ne 9 dX9_bitsBehind_2 rfl rfl (by omega) (by omega) (fun hc => ?_) (fun hc => ?_)
  · refine am_iload_n dX9_bitsBehind_9 rfl rfl ?_
    refine am_iconst (v := nI 2) dX9_bitsBehind_10 rfl (by decide +kernel) ?_
    refine am_ncmp_ne 19 dX9_bitsBehind_11 rfl rfl (by omega) (by omega) (fun hc => ?_) (fun hc => ?_)
    · refine am_iconst (v := nI 0) dX9_bitsBehind_19 rfl (by decide +kernel) ?_
      exact am_ri dX9_bitsBehind_20 rfl rfl rfl ⟨by unfold bbh; rw [if_neg (by assumption), if_neg hc], rfl⟩
    · refine am_bipush (v := nI 9) dX9_bitsBehind_14 rfl (by decide +kernel) ?_
      refine am_goto 20 dX9_bitsBehind_16 rfl rfl ?_
      exact am_ri dX9_bitsBehind_20 rfl rfl rfl ⟨by unfold bbh; rw [if_neg (by assumption), if_pos hc], rfl⟩
  · refine am_iconst (v := nI 4) dX9_bitsBehind_5 rfl (by decide +kernel) ?_
    refine am_goto 20 dX9_bitsBehind_6 rfl rfl ?_
    exact am_ri dX9_bitsBehind_20 rfl rfl rfl ⟨by unfold bbh; rw [if_pos hc], rfl⟩
set_option maxHeartbeats 4000000 in
set_option maxRecDepth 100000 in
theorem t_X9_leastOf (d n0 : Nat) {h : am_H} {y : Nat} (hy : y < 2 ^ 20) : am_Ct l D dA m_X9_leastOf d 0 0 n0 [.inl (nI y)] h (am_qi fun x h' => x = nI (lsf y) ∧ h' = h) := by
  refine am_Ci (by decide +kernel) rfl rfl ?_
  refine am_iload_n dX9_leastOf_0 rfl rfl ?_
  refine am_iconst (v := nI 1) dX9_leastOf_1 rfl (by decide +kernel) ?_
  refine am_ncmp_ne 9 dX9_leastOf_2 rfl rfl (by omega) (by omega) (fun hc => ?_) (fun hc => ?_)
  · refine am_iload_n dX9_leastOf_9 rfl rfl ?_
    refine am_iconst (v := nI 2) dX9_leastOf_10 rfl (by decide +kernel) ?_
    refine am_ncmp_ne 19 dX9_leastOf_11 rfl rfl (by omega) (by omega) (fun hc => ?_) (fun hc => ?_)
    · refine am_iconst (v := nI 1) dX9_leastOf_19 rfl (by decide +kernel) ?_
      exact am_ri dX9_leastOf_20 rfl rfl rfl ⟨by unfold lsf; rw [if_neg (by assumption), if_neg hc], rfl⟩
    · refine am_bipush (v := nI 20) dX9_leastOf_14 rfl (by decide +kernel) ?_
      refine am_goto 20 dX9_leastOf_16 rfl rfl ?_
      exact am_ri dX9_leastOf_20 rfl rfl rfl ⟨by unfold lsf; rw [if_neg (by assumption), if_pos hc], rfl⟩
  · refine am_iconst (v := nI 3) dX9_leastOf_5 rfl (by decide +kernel) ?_
    refine am_goto 20 dX9_leastOf_6 rfl rfl ?_
    exact am_ri dX9_leastOf_20 rfl rfl rfl ⟨by unfold lsf; rw [if_pos hc], rfl⟩
set_option maxHeartbeats 4000000 in
set_option maxRecDepth 100000 in
theorem t_X8_wantsMore (d n0 : Nat) {h : am_H} {wa : Nat} (hu : h 30 = some (unO wa)) {bs : List Int32} (hp : rws h 3 4 12000 bs) (hwa : wa < 2 ^ 20) (hbl : bs.length < 2 ^ 20) (hd : 1 ≤ d) : am_Ct l D dA m_X8_wantsMore d 0 0 n0 [am_r 30] h (am_qi fun x h' => x = am_bz (decide (bs.length < wa)) ∧ h' = h) := by
  refine am_Cz (by decide +kernel) rfl (fun x h' hx => by rw [hx.1]; exact am_bz_01 _) rfl ?_
  have p3 := hp.choose_spec.1
  refine am_aload_n dX8_wantsMore_0 rfl rfl ?_
  refine am_get f_X8_20 dX8_wantsMore_1 rfl hu rfl ?_
  refine am_vi (t_count (d - 1) _ hp) k_X3_count l_X8_73 dX8_wantsMore_4 rfl rfl rfl rfl p3 (by omega) (Nat.le_refl _) (Nat.le_refl _) (fun x h1 hx => ?_)
  obtain ⟨rfl, hh⟩ := hx
  obtain rfl := hh.symm
  refine am_aload_n dX8_wantsMore_7 rfl rfl ?_
  refine am_get f_X8_44 dX8_wantsMore_8 rfl hu rfl ?_
  refine am_ncmp_ge 18 dX8_wantsMore_11 rfl rfl (by omega) (by omega) (fun hc => ?_) (fun hc => ?_)
  · refine am_iconst (v := nI 0) dX8_wantsMore_18 rfl (by decide +kernel) ?_
    exact am_ri dX8_wantsMore_19 rfl rfl rfl ⟨by rw [decide_eq_false (by omega)]; rfl, rfl⟩
  · refine am_iconst (v := nI 1) dX8_wantsMore_14 rfl (by decide +kernel) ?_
    refine am_goto 19 dX8_wantsMore_15 rfl rfl ?_
    exact am_ri dX8_wantsMore_19 rfl rfl rfl ⟨by rw [decide_eq_true hc]; rfl, rfl⟩
set_option maxHeartbeats 4000000 in
set_option maxRecDepth 100000 in
theorem t_X8_copy (d n0 : Nat) {h : am_H} {wa : Nat} (hu : h 30 = some (unO wa)) {bs : List Int32} (hp : rws h 3 4 12000 bs) {op : Bool} {bl co cp bi : Nat} (hac : h 5 = some (acO op bl co cp bi)) (hwa : wa ≤ 8000) (hbl : bs.length ≤ wa) {ln dd : Nat} (hln : ln ≤ 256) (hdd : 1 ≤ dd) (hdd2 : dd ≤ bs.length) (hd : 2 ≤ d) : am_Ct l D dA m_X8_copy d 0 0 n0 [am_r 30, .inl (nI ln), .inl (nI dd)] h (am_qi fun x h' => x = nI (if wa - bs.length < ln then 5 else 0) ∧ am_fr h h' [3, 4, 5] ∧ rws h' 3 4 12000 (cpl bs dd (min ln (wa - bs.length))) ∧ h' 5 = some (acO op bl (co + 1) (cp + 1) bi)) := by
  refine am_Ci (by decide +kernel) rfl rfl ?_
  refine am_aload_n dX8_copy_0 rfl rfl ?_
  refine am_get f_X8_24 dX8_copy_1 rfl hu rfl ?_
  refine am_vv (t_X0_countCopy (d - 1) _ hac) k_X0_countCopy l_X8_145 dX8_copy_4 rfl rfl rfl rfl hac (by omega) (Nat.le_refl _) (Nat.le_refl _) (fun h1 hx => ?_)
  have f1 : am_fr h h1 [5] := by rw [hx]; exact am_fr.rf.set (by simp)
  have g5 : h1 5 = some (acO op bl (co + 1) (cp + 1) bi) := by rw [hx]; exact am_set_eq
  have hu1 := (f1 30 (by simp)).trans hu
  have hp1 := hp.at (h' := h1) (f1 3 (by simp)) (f1 4 (by simp))
  have p3 := hp1.choose_spec.1
  refine am_aload_n dX8_copy_7 rfl rfl ?_
  refine am_get f_X8_44 dX8_copy_8 rfl hu1 rfl ?_
  refine am_aload_n dX8_copy_11 rfl rfl ?_
  refine am_get f_X8_20 dX8_copy_12 rfl hu1 rfl ?_
  refine am_vi (t_count (d - 1) _ hp1) k_X3_count l_X8_73 dX8_copy_15 rfl rfl rfl rfl p3 (by omega) (Nat.le_refl _) (Nat.le_refl _) (fun x h2 hx2 => ?_)
  obtain ⟨rfl, hh⟩ := hx2
  obtain rfl := hh.symm
  refine am_isub dX8_copy_18 rfl ?_
  rw [pk_sub hbl]
  refine am_istore_n dX8_copy_19 rfl rfl ?_
  refine am_iconst (v := nI 0) dX8_copy_20 rfl (by decide +kernel) ?_
  refine am_istore dX8_copy_21 rfl rfl ?_
  have loop : ∀ (q i : Nat) (H : am_H), i + q = min ln (wa - bs.length) → am_fr h H [3, 4, 5] → H 5 = some (acO op bl (co + 1) (cp + 1) bi) → rws H 3 4 12000 (cpl bs dd i) → am_At l D dA m_X8_copy d 0 0 0 0 n0 none (am_qi fun x h' => x = nI (if wa - bs.length < ln then 5 else 0) ∧ am_fr h h' [3, 4, 5] ∧ rws h' 3 4 12000 (cpl bs dd (min ln (wa - bs.length))) ∧ h' 5 = some (acO op bl (co + 1) (cp + 1) bi)) 0 0 23 [some (am_r 30), some (.inl (nI ln)), some (.inl (nI dd)), some (.inl (nI (wa - bs.length))), some (.inl (nI i))] [] H := by
    intro q
    induction q with
    | zero =>
      intro i H hi hfr g5 hw
      have hi : i = min ln (wa - bs.length) := by omega
      refine am_iload dX8_copy_23 rfl rfl ?_
      refine am_iload_n dX8_copy_25 rfl rfl ?_
      refine am_ncmp_ge 64 dX8_copy_26 rfl rfl (by omega) (by omega) (fun hc => ?_) (fun hc => ?_)
      · refine am_iload_n dX8_copy_64 rfl rfl ?_
        refine am_iload_n dX8_copy_65 rfl rfl ?_
        refine am_ncmp_le 73 dX8_copy_66 rfl rfl (by omega) (by omega) (fun hc => ?_) (fun hc => ?_)
        · refine am_iconst (v := nI 0) dX8_copy_73 rfl (by decide +kernel) ?_
          exact am_ri dX8_copy_74 rfl rfl rfl ⟨by rw [if_neg (by omega)], hfr, by rw [← hi]; exact hw, g5⟩
        · refine am_iconst (v := nI 5) dX8_copy_69 rfl (by decide +kernel) ?_
          refine am_goto 74 dX8_copy_70 rfl rfl ?_
          exact am_ri dX8_copy_74 rfl rfl rfl ⟨by rw [if_pos hc], hfr, by rw [← hi]; exact hw, g5⟩
      · refine am_iload dX8_copy_29 rfl rfl ?_
        refine am_iload_n dX8_copy_31 rfl rfl ?_
        refine am_ncmp_ge 64 dX8_copy_32 rfl rfl (by omega) (by omega) (fun hc => ?_) (fun hc => ?_)
        · refine am_iload_n dX8_copy_64 rfl rfl ?_
          refine am_iload_n dX8_copy_65 rfl rfl ?_
          refine am_ncmp_le 73 dX8_copy_66 rfl rfl (by omega) (by omega) (fun hc => ?_) (fun hc => ?_)
          · refine am_iconst (v := nI 0) dX8_copy_73 rfl (by decide +kernel) ?_
            exact am_ri dX8_copy_74 rfl rfl rfl ⟨by rw [if_neg (by omega)], hfr, by rw [← hi]; exact hw, g5⟩
          · refine am_iconst (v := nI 5) dX8_copy_69 rfl (by decide +kernel) ?_
            refine am_goto 74 dX8_copy_70 rfl rfl ?_
            exact am_ri dX8_copy_74 rfl rfl rfl ⟨by rw [if_pos hc], hfr, by rw [← hi]; exact hw, g5⟩
        · omega
    | succ q ih =>
      intro i H hi hfr g5 hw
      have hcl := cpl_len bs dd i
      have hu := (hfr 30 (by simp)).trans hu
      have p3 := hw.choose_spec.1
      refine am_iload dX8_copy_23 rfl rfl ?_
      refine am_iload_n dX8_copy_25 rfl rfl ?_
      refine am_ncmp_ge 64 dX8_copy_26 rfl rfl (by omega) (by omega) (fun hc => ?_) (fun hc => ?_)
      · omega
      · refine am_iload dX8_copy_29 rfl rfl ?_
        refine am_iload_n dX8_copy_31 rfl rfl ?_
        refine am_ncmp_ge 64 dX8_copy_32 rfl rfl (by omega) (by omega) (fun hc => ?_) (fun hc => ?_)
        · omega
        · refine am_aload_n dX8_copy_35 rfl rfl ?_
          refine am_get f_X8_20 dX8_copy_36 rfl hu rfl ?_
          refine am_aload_n dX8_copy_39 rfl rfl ?_
          refine am_get f_X8_20 dX8_copy_40 rfl hu rfl ?_
          refine am_aload_n dX8_copy_43 rfl rfl ?_
          refine am_get f_X8_20 dX8_copy_44 rfl hu rfl ?_
          refine am_vi (t_count (d - 1) _ hw) k_X3_count l_X8_73 dX8_copy_47 rfl rfl rfl rfl p3 (by omega) (Nat.le_refl _) (Nat.le_refl _) (fun x h1 hx => ?_)
          obtain ⟨rfl, hh⟩ := hx
          obtain rfl := hh.symm
          refine am_iload_n dX8_copy_50 rfl rfl ?_
          refine am_isub dX8_copy_51 rfl ?_
          rw [pk_sub (by omega)]
          refine am_vi (t_at (d - 1) _ hw (by decide) (by decide) (by omega) (by omega) (nI ((cpl bs dd i).length - dd))) k_X3_at l_X8_148 dX8_copy_52 rfl rfl rfl rfl p3 (by omega) (Nat.le_refl _) (Nat.le_refl _) (fun x h1 hx => ?_)
          obtain ⟨rfl, hh⟩ := hx
          obtain rfl := hh.symm
          rw [ix_in (by omega) (by omega)]
          refine am_vv (t_add (d - 1) _ hw (by decide) (by decide) (by omega) _) k_X3_add l_X8_133 dX8_copy_55 rfl rfl rfl rfl p3 (by omega) (Nat.le_refl _) (Nat.le_refl _) (fun h3 hx => ?_)
          obtain ⟨f3, w3⟩ := hx
          refine am_iinc (n := 1) dX8_copy_58 rfl rfl (nI_1 i) ?_
          refine am_goto 23 dX8_copy_61 rfl rfl ?_
          exact ih (i + 1) h3 (by omega) (hfr.tr f3 (by simp)) ((f3 5 (by simp)).trans g5) w3
  exact loop (min ln (wa - bs.length)) 0 h1 (by omega) (am_fr.rf.tr f1 (by simp)) g5 hp1
end UNP
end
section
/-! ===== Unpacker: a code, a symbol alone, lengths ===== -/
section UNP2
variable {l : Launch} {D : va_G} {dA : Bool → ClassId}
theorem rdy.at {h h' : am_H} {t m : Nat} {al : Int32} {len : Nat → Nat} (a : rdy h t m al len) (e : ∀ j, t ≤ j → j ≤ t + 7 → h' j = h j) : rdy h' t m al len :=
  ⟨fun g => by obtain ⟨a1, a2, a3⟩ := a.1 g; exact ⟨a1.keep (fun j x y => e j (by omega) (by omega)), a2, a3⟩, a.2⟩
theorem SR_lt {len : Nat → Nat} {m : Nat} {al : Int32} {f : Nat → Int32} {k n s : Nat} (h : SR len m al f k n s) : n ≤ 16 := by
  rcases h.2 with ⟨-, -, e⟩ | ⟨-, -, e⟩
  · omega
  · exact e.2.1
set_option maxHeartbeats 4000000 in
set_option maxRecDepth 100000 in
theorem t_X8_unpackCode (d n0 : Nat) {h : am_H} {wa : Nat} (hu : h 30 = some (unO wa)) {bs : List Int32} (hp : rws h 3 4 12000 bs) {op : Bool} {bl co cp bi : Nat} (hac : h 5 = some (acO op bl co cp bi)) {E k c : Nat} {f : Nat → Int32} (hs : h 31 = some (bsO 1 E k)) (hr : h 1 = some (rwO 2 c)) (hta : h 2 = some (.inl (false, 4000, f))) (hE : E ≤ 32000) (hk : k ≤ E) (hwa : wa ≤ 8000) (hbl : bs.length < wa) {lenC lenP : Nat → Nat} {alC alP : Int32} (hC : h 14 = some (trO 14 alC)) (hrC : rdy h 14 510 alC lenC) (hP : h 22 = some (trO 22 alP)) (hrP : rdy h 22 14 alP lenP) (hd : 3 ≤ d) : am_Ct l D dA m_X8_unpackCode d 0 0 n0 [am_r 30] h (am_qi fun x h' => x = nI (oneR lenC alC lenP alP f E wa k bs co cp).1 ∧ am_fr h h' [3, 4, 5, 31] ∧ h' 31 = some (bsO 1 E (oneR lenC alC lenP alP f E wa k bs co cp).2.1) ∧ rws h' 3 4 12000 (oneR lenC alC lenP alP f E wa k bs co cp).2.2.1 ∧ h' 5 = some (acO op bl (oneR lenC alC lenP alP f E wa k bs co cp).2.2.2.1 (oneR lenC alC lenP alP f E wa k bs co cp).2.2.2.2 bi) ∧ (oneR lenC alC lenP alP f E wa k bs co cp).2.1 ≤ E ∧ (oneR lenC alC lenP alP f E wa k bs co cp).2.2.1.length ≤ wa) := by
  refine am_Ci (by decide +kernel) rfl rfl ?_
  have hS1 := sy_spec hrC f k
  obtain ⟨⟨w1, y1⟩, ec⟩ : ∃ p, p = sy lenC 510 alC f k := ⟨_, rfl⟩
  rw [← ec] at hS1
  have hy1 := hS1.1
  have hw1 := SR_lt hS1
  dsimp only at hS1 hy1 hw1
  refine am_aload_n dX8_unpackCode_0 rfl rfl ?_
  refine am_get f_X8_14 dX8_unpackCode_1 rfl hu rfl ?_
  refine am_aload_n dX8_unpackCode_4 rfl rfl ?_
  refine am_get f_X8_38 dX8_unpackCode_5 rfl hu rfl ?_
  refine am_vi (t_X2_takeSymbol (d - 1) _ hs hr hta (by omega) (by decide) hk (by decide) (by decide) hC (by decide) hrC (fun j a b => by omega) hS1 (by omega)) k_X2_takeSymbol l_X8_123 dX8_unpackCode_8 rfl rfl rfl rfl hs (by omega) (Nat.le_refl _) (Nat.le_refl _) (fun x h1 hx => ?_)
  obtain ⟨hx1, hx2⟩ := hx
  by_cases hE1 : k + w1 ≤ E
  · obtain ⟨rfl, e1⟩ := hx1 hE1
    have f1 : am_fr h h1 [31] := by rw [e1]; exact am_fr.rf.set (by simp)
    have g31 : h1 31 = some (bsO 1 E (k + w1)) := by rw [e1]; exact am_set_eq
    have hu1 := (f1 30 (by simp)).trans hu
    have hp1 := hp.at (h' := h1) (f1 3 (by simp)) (f1 4 (by simp))
    have hac1 := (f1 5 (by simp)).trans hac
    have hr1 := (f1 1 (by simp)).trans hr
    have hta1 := (f1 2 (by simp)).trans hta
    have hP1 := (f1 22 (by simp)).trans hP
    have hrP1 := hrP.at (h' := h1) (fun j a b => f1 j (by simp; omega))
    have p3 := hp1.choose_spec.1
    refine am_istore_n dX8_unpackCode_11 rfl rfl ?_
    refine am_iload_n dX8_unpackCode_12 rfl rfl ?_
    refine am_iconst (v := -1) dX8_unpackCode_13 rfl (by decide +kernel) ?_
    refine am_icmp_ne 19 dX8_unpackCode_14 rfl rfl (fun hc => ?_) (fun hc => ?_)
    · refine am_iload_n dX8_unpackCode_19 rfl rfl ?_
      refine am_sipush (v := nI 256) dX8_unpackCode_20 rfl (by decide +kernel) ?_
      refine am_ncmp_ge 43 dX8_unpackCode_23 rfl rfl (by omega) (by omega) (fun hc => ?_) (fun hc => ?_)
      · have hS2 := sy_spec hrP1 f (k + w1)
        obtain ⟨⟨w2, y2⟩, eq⟩ : ∃ p, p = sy lenP 14 alP f (k + w1) := ⟨_, rfl⟩
        rw [← eq] at hS2
        have hy2 := hS2.1
        have hw2 := SR_lt hS2
        dsimp only at hS2 hy2 hw2
        refine am_aload_n dX8_unpackCode_43 rfl rfl ?_
        refine am_get f_X8_14 dX8_unpackCode_44 rfl hu1 rfl ?_
        refine am_aload_n dX8_unpackCode_47 rfl rfl ?_
        refine am_get f_X8_41 dX8_unpackCode_48 rfl hu1 rfl ?_
        refine am_vi (t_X2_takeDistance (d - 1) _ g31 hr1 hta1 (by omega) (by decide) hE1 (by decide) (by decide) hP1 (by decide) hrP1 (fun j a b => by omega) hS2 (by omega)) k_X2_takeDistance l_X8_139 dX8_unpackCode_51 rfl rfl rfl rfl g31 (by omega) (Nat.le_refl _) (Nat.le_refl _) (fun x h2 hx => ?_)
        obtain ⟨hx3, hx4⟩ := hx
        by_cases hE2 : k + w1 + w2 + (y2 - 1) ≤ E
        · obtain ⟨rfl, e2⟩ := hx3 hE2
          have hp2 : 2 ^ (y2 - 1) ≤ 2 ^ 13 := Nat.pow_le_pow_right (by omega) (by omega)
          have hnl := num_lt f (k + w1 + w2) (y2 - 1)
          have hds : dst f (k + w1 + w2) y2 ≤ 2 ^ 14 + 1 := by
            unfold dst
            split <;> omega
          have hds1 : 1 ≤ dst f (k + w1 + w2) y2 := by
            unfold dst
            split <;> omega
          have f2 : am_fr h1 h2 [31] := by rw [e2]; exact am_fr.rf.set (by simp)
          have k31 : h2 31 = some (bsO 1 E (k + w1 + w2 + (y2 - 1))) := by rw [e2]; exact am_set_eq
          have hu2 := (f2 30 (by simp)).trans hu1
          have hp2 := hp1.at (h' := h2) (f2 3 (by simp)) (f2 4 (by simp))
          have hac2 := (f2 5 (by simp)).trans hac1
          have p3 := hp2.choose_spec.1
          refine am_istore_n dX8_unpackCode_54 rfl rfl ?_
          refine am_iload_n dX8_unpackCode_55 rfl rfl ?_
          refine am_iconst (v := -1) dX8_unpackCode_56 rfl (by decide +kernel) ?_
          refine am_icmp_ne 62 dX8_unpackCode_57 rfl rfl (fun hc => ?_) (fun hc => ?_)
          · refine am_iload_n dX8_unpackCode_62 rfl rfl ?_
            refine am_aload_n dX8_unpackCode_63 rfl rfl ?_
            refine am_get f_X8_20 dX8_unpackCode_64 rfl hu2 rfl ?_
            refine am_vi (t_count (d - 1) _ hp2) k_X3_count l_X8_73 dX8_unpackCode_67 rfl rfl rfl rfl p3 (by omega) (Nat.le_refl _) (Nat.le_refl _) (fun x h1 hx => ?_)
            obtain ⟨rfl, hh⟩ := hx
            obtain rfl := hh.symm
            refine am_ncmp_le 77 dX8_unpackCode_70 rfl rfl (by omega) (by omega) (fun hc => ?_) (fun hc => ?_)
            · refine am_aload_n dX8_unpackCode_77 rfl rfl ?_
              refine am_iload_n dX8_unpackCode_78 rfl rfl ?_
              refine am_sipush (v := nI 253) dX8_unpackCode_79 rfl (by decide +kernel) ?_
              refine am_isub dX8_unpackCode_82 rfl ?_
              rw [pk_sub (by omega)]
              refine am_iload_n dX8_unpackCode_83 rfl rfl ?_
              refine am_vi (t_X8_copy (d - 1) _ hu2 hp2 hac2 hwa (by omega) (ln := y1 - 253) (by omega) hds1 hc (by omega)) k_X8_copy l_X8_142 dX8_unpackCode_84 rfl rfl rfl rfl hu2 (by omega) (Nat.le_refl _) (Nat.le_refl _) (fun x h1 hx => ?_)
              obtain ⟨rfl, f3, w3, g5⟩ := hx
              have eo : (oneR lenC alC lenP alP f E wa k bs co cp) = ((if wa - bs.length < y1 - 253 then 5 else 0), k + w1 + w2 + (y2 - 1), cpl bs (dst f (k + w1 + w2) y2) (min (y1 - 253) (wa - bs.length)), co + 1, cp + 1) := by
                unfold oneR
                rw [← ec]
                dsimp only
                rw [← eq]
                dsimp only
                rw [if_neg (by omega), if_neg (by omega), if_neg (by omega), if_neg (by omega)]
              exact am_ri dX8_unpackCode_87 rfl rfl rfl (by rw [eo]; exact ⟨rfl, (am_fr.tr (am_fr.tr (am_fr.rf.tr f1 (by simp)) f2 (by simp)) f3 (by simp)), (f3 31 (by simp)).trans k31, w3, g5, hE2, by rw [cpl_len]; omega⟩)
            · have eo : (oneR lenC alC lenP alP f E wa k bs co cp) = (4, k + w1 + w2 + (y2 - 1), bs, co, cp) := by
                unfold oneR
                rw [← ec]
                dsimp only
                rw [← eq]
                dsimp only
                rw [if_neg (by omega), if_neg (by omega), if_neg (by omega), if_pos hc]
              refine am_iconst (v := nI 4) dX8_unpackCode_73 rfl (by decide +kernel) ?_
              refine am_goto 87 dX8_unpackCode_74 rfl rfl ?_
              exact am_ri dX8_unpackCode_87 rfl rfl rfl (by rw [eo]; exact ⟨rfl, (am_fr.tr (am_fr.rf.tr f1 (by simp)) f2 (by simp)), k31, hp2, hac2, hE2, Nat.le_of_lt hbl⟩)
          · exact absurd hc (am_nm1 (by omega))
        · obtain ⟨rfl, e2⟩ := hx4 (by omega)
          have f2 : am_fr h1 h2 [31] := by rw [e2]; exact am_fr.rf.set (by simp)
          have k31 : h2 31 = some (bsO 1 E E) := by rw [e2]; exact am_set_eq
          have hp2 := hp1.at (h' := h2) (f2 3 (by simp)) (f2 4 (by simp))
          have hac2 := (f2 5 (by simp)).trans hac1
          have eo : (oneR lenC alC lenP alP f E wa k bs co cp) = (1, E, bs, co, cp) := by
            unfold oneR
            rw [← ec]
            dsimp only
            rw [← eq]
            dsimp only
            rw [if_neg (by omega), if_neg (by omega), if_pos (by omega)]
          refine am_istore_n dX8_unpackCode_54 rfl rfl ?_
          refine am_iload_n dX8_unpackCode_55 rfl rfl ?_
          refine am_iconst (v := -1) dX8_unpackCode_56 rfl (by decide +kernel) ?_
          refine am_icmp_ne 62 dX8_unpackCode_57 rfl rfl (fun hc => ?_) (fun hc => ?_)
          · exact absurd rfl hc
          · refine am_iconst (v := nI 1) dX8_unpackCode_60 rfl (by decide +kernel) ?_
            exact am_ri dX8_unpackCode_61 rfl rfl rfl (by rw [eo]; exact ⟨rfl, (am_fr.tr (am_fr.rf.tr f1 (by simp)) f2 (by simp)), k31, hp2, hac2, Nat.le_refl _, Nat.le_of_lt hbl⟩)
      · refine am_aload_n dX8_unpackCode_26 rfl rfl ?_
        refine am_get f_X8_20 dX8_unpackCode_27 rfl hu1 rfl ?_
        refine am_iload_n dX8_unpackCode_30 rfl rfl ?_
        refine am_vv (t_add (d - 1) _ hp1 (by decide) (by decide) (by omega) (nI y1)) k_X3_add l_X8_133 dX8_unpackCode_31 rfl rfl rfl rfl p3 (by omega) (Nat.le_refl _) (Nat.le_refl _) (fun h2 hx => ?_)
        obtain ⟨f2, w2⟩ := hx
        have hu2 := (f2 30 (by simp)).trans hu1
        have hac2 := (f2 5 (by simp)).trans hac1
        refine am_aload_n dX8_unpackCode_34 rfl rfl ?_
        refine am_get f_X8_24 dX8_unpackCode_35 rfl hu2 rfl ?_
        refine am_vv (t_X0_countByte (d - 1) _ hac2) k_X0_countByte l_X8_136 dX8_unpackCode_38 rfl rfl rfl rfl hac2 (by omega) (Nat.le_refl _) (Nat.le_refl _) (fun h3 hx => ?_)
        have f3 : am_fr h2 h3 [5] := by rw [hx]; exact am_fr.rf.set (by simp)
        have g5 : h3 5 = some (acO op bl (co + 1) cp bi) := by rw [hx]; exact am_set_eq
        have eo : (oneR lenC alC lenP alP f E wa k bs co cp) = (0, k + w1, bs ++ [nI y1], co + 1, cp) := by
          unfold oneR
          rw [← ec]
          dsimp only
          rw [if_neg (by omega), if_pos (by omega)]
        refine am_iconst (v := nI 0) dX8_unpackCode_41 rfl (by decide +kernel) ?_
        exact am_ri dX8_unpackCode_42 rfl rfl rfl (by rw [eo]; exact ⟨rfl, (am_fr.tr (am_fr.tr (am_fr.rf.tr f1 (by simp)) f2 (by simp)) f3 (by simp)), (f3 31 (by simp)).trans ((f2 31 (by simp)).trans g31), w2.at (f3 3 (by simp)) (f3 4 (by simp)), g5, hE1, by rw [List.length_append]; exact hbl⟩)
    · exact absurd hc (am_nm1 (by omega))
  · obtain ⟨rfl, e1⟩ := hx2 (by omega)
    have f1 : am_fr h h1 [31] := by rw [e1]; exact am_fr.rf.set (by simp)
    have g31 : h1 31 = some (bsO 1 E E) := by rw [e1]; exact am_set_eq
    have eo : (oneR lenC alC lenP alP f E wa k bs co cp) = (1, E, bs, co, cp) := by
      unfold oneR
      rw [← ec]
      dsimp only
      rw [if_pos (by omega)]
    refine am_istore_n dX8_unpackCode_11 rfl rfl ?_
    refine am_iload_n dX8_unpackCode_12 rfl rfl ?_
    refine am_iconst (v := -1) dX8_unpackCode_13 rfl (by decide +kernel) ?_
    refine am_icmp_ne 19 dX8_unpackCode_14 rfl rfl (fun hc => ?_) (fun hc => ?_)
    · exact absurd rfl hc
    · refine am_iconst (v := nI 1) dX8_unpackCode_17 rfl (by decide +kernel) ?_
      exact am_ri dX8_unpackCode_18 rfl rfl rfl (by rw [eo]; exact ⟨rfl, am_fr.rf.tr f1 (by simp), g31, hp.at (f1 3 (by simp)) (f1 4 (by simp)), (f1 5 (by simp)).trans hac, Nat.le_refl _, Nat.le_of_lt hbl⟩)
set_option maxHeartbeats 4000000 in
set_option maxRecDepth 100000 in
theorem t_X8_takeAlone (d n0 : Nat) {h : am_H} {wa : Nat} (hu : h 30 = some (unO wa)) {E k c : Nat} {f : Nat → Int32} (hs : h 31 = some (bsO 1 E k)) (hr : h 1 = some (rwO 2 c)) (hta : h 2 = some (.inl (false, 4000, f))) (hE : E ≤ 32000) (hk : k ≤ E) {t m : Nat} {al : Int32} (ht : h t = some (trO t al)) {lf : Nat → Int32} (h1 : h (t + 1) = some (.inl (false, m, lf))) (hm : m ≤ 510) (ht31 : ∀ j, t ≤ j → j ≤ t + 7 → j ≠ 31) {b : Nat} (hb : b ≤ 9) (hd : 1 ≤ d) : am_Ct l D dA m_X8_takeAlone d 0 0 n0 [am_r 30, am_r t, .inl (nI b)] h (am_qi fun x h' => (E < k + b → x = nI 1 ∧ h' = am_set h 31 (bsO 1 E E)) ∧ (k + b ≤ E → m ≤ num f k b → x = nI 3 ∧ h' = am_set h 31 (bsO 1 E (k + b))) ∧ (k + b ≤ E → num f k b < m → x = nI 0 ∧ h' = am_set (am_set h 31 (bsO 1 E (k + b))) t (trO t (nI (num f k b))))) := by
  refine am_Ci (by decide +kernel) rfl rfl ?_
  have hnl := num_lt f k b
  have hp : 2 ^ b ≤ 2 ^ 9 := Nat.pow_le_pow_right (by omega) hb
  refine am_aload_n dX8_takeAlone_0 rfl rfl ?_
  refine am_get f_X8_14 dX8_takeAlone_1 rfl hu rfl ?_
  refine am_iload_n dX8_takeAlone_4 rfl rfl ?_
  refine am_vi (t_X2_take (d - 1) _ hs hr hta (by omega) (by decide) hk (by decide) (by decide) (b := b) (by omega)) k_X2_take l_X8_79 dX8_takeAlone_5 rfl rfl rfl rfl hs (by omega) (Nat.le_refl _) (Nat.le_refl _) (fun x h2 hx => ?_)
  obtain ⟨hx1, hx2⟩ := hx
  by_cases hE1 : k + b ≤ E
  · obtain ⟨rfl, rfl⟩ := hx1 hE1
    refine am_istore_n dX8_takeAlone_8 rfl rfl ?_
    refine am_iload_n dX8_takeAlone_9 rfl rfl ?_
    refine am_iconst (v := -1) dX8_takeAlone_10 rfl (by decide +kernel) ?_
    refine am_icmp_ne 16 dX8_takeAlone_11 rfl rfl (fun hc => ?_) (fun hc => ?_)
    · refine am_aload_n dX8_takeAlone_16 rfl rfl ?_
      refine am_iload_n dX8_takeAlone_17 rfl rfl ?_
      refine am_vi (t_X7_has (d - 1) _ ((am_set_ne (ht31 t (by omega) (by omega))).trans ht) ((am_set_ne (ht31 (t + 1) (by omega) (by omega))).trans h1) (by omega) (nI (num f k b))) k_X7_has l_X8_109 dX8_takeAlone_18 rfl rfl rfl rfl ((am_set_ne (ht31 t (by omega) (by omega))).trans ht) (by omega) (Nat.le_refl _) (Nat.le_refl _) (fun x h3 hx => ?_)
      obtain ⟨rfl, hh⟩ := hx
      obtain rfl := hh.symm
      refine am_bif_ne 26 dX8_takeAlone_21 rfl rfl (fun hc => ?_) (fun hc => ?_)
      · have hlt : num f k b < m := by
          obtain ⟨j, hj⟩ := Option.isSome_iff_exists.mp hc
          have hj2 := ix_some hj
          have := (nI_eq (by omega) (by omega)).mp hj2.2
          omega
        refine am_aload_n dX8_takeAlone_26 rfl rfl ?_
        refine am_iload_n dX8_takeAlone_27 rfl rfl ?_
        refine am_vv (t_X7_setAlone (d - 1) _ ((am_set_ne (ht31 t (by omega) (by omega))).trans ht) (nI (num f k b))) k_X7_setAlone l_X8_113 dX8_takeAlone_28 rfl rfl rfl rfl ((am_set_ne (ht31 t (by omega) (by omega))).trans ht) (by omega) (Nat.le_refl _) (Nat.le_refl _) (fun h4 hx => ?_)
        subst hx
        refine am_iconst (v := nI 0) dX8_takeAlone_31 rfl (by decide +kernel) ?_
        exact am_ri dX8_takeAlone_32 rfl rfl rfl ⟨fun g => by omega, fun g g2 => by omega, fun _ _ => ⟨rfl, rfl⟩⟩
      · have hge : m ≤ num f k b := by
          rcases Nat.lt_or_ge (num f k b) m with g | g
          · rw [ix_in g (by omega)] at hc; cases hc
          · exact g
        refine am_iconst (v := nI 3) dX8_takeAlone_24 rfl (by decide +kernel) ?_
        exact am_ri dX8_takeAlone_25 rfl rfl rfl ⟨fun g => by omega, fun _ _ => ⟨rfl, rfl⟩, fun _ g => by omega⟩
    · exact absurd hc (am_nm1 (by omega))
  · obtain ⟨rfl, rfl⟩ := hx2 (by omega)
    refine am_istore_n dX8_takeAlone_8 rfl rfl ?_
    refine am_iload_n dX8_takeAlone_9 rfl rfl ?_
    refine am_iconst (v := -1) dX8_takeAlone_10 rfl (by decide +kernel) ?_
    refine am_icmp_ne 16 dX8_takeAlone_11 rfl rfl (fun hc => ?_) (fun hc => ?_)
    · exact absurd rfl hc
    · refine am_iconst (v := nI 1) dX8_takeAlone_14 rfl (by decide +kernel) ?_
      exact am_ri dX8_takeAlone_15 rfl rfl rfl ⟨fun _ => ⟨rfl, rfl⟩, fun g _ => by omega, fun g _ => by omega⟩
end UNP2
end
section
/-! ===== Unpacker: lengths ===== -/
section UNP3
variable {l : Launch} {D : va_G} {dA : Bool → ClassId}
theorem tlv_le (f : Nat → Int32) (k : Nat) : tlv f k ≤ 17 := by
  unfold tlv
  have := ons_le f 10 (k + 3)
  split <;> omega
theorem updN_eq {len : Nat → Nat} {i v : Nat} : updN len i v i = v := by simp [updN]
theorem updN_ne {len : Nat → Nat} {i v j : Nat} (h : j ≠ i) : updN len i v j = len j := by simp [updN, h]
/-- an array holds lengths -/
def lnA (h : am_H) (a m : Nat) (len : Nat → Nat) : Prop := ∃ lf : Nat → Int32, h a = some (.inl (false, m, lf)) ∧ ∀ s, s < m → lf s = nI (len s) ∧ len s ≤ 16
theorem lnA.at {h h' : am_H} {a m : Nat} {len : Nat → Nat} (x : lnA h a m len) (e : h' a = h a) : lnA h' a m len := by
  obtain ⟨lf, h1, h2⟩ := x
  exact ⟨lf, e.trans h1, h2⟩
theorem lnA.upd {h' : am_H} {a m : Nat} {len : Nat → Nat} {lf : Nat → Int32} {i v : Nat} (h2 : ∀ s, s < m → lf s = nI (len s) ∧ len s ≤ 16) (hv : v ≤ 16) (e : h' a = some (.inl (false, m, upd lf i (nI v)))) : lnA h' a m (updN len i v) := by
  refine ⟨_, e, fun s hs => ?_⟩
  by_cases g : s = i
  · subst g
    rw [upd_eq, updN_eq]
    exact ⟨rfl, hv⟩
  · rw [upd_ne g, updN_ne g]
    exact h2 s hs
set_option maxHeartbeats 4000000 in
set_option maxRecDepth 100000 in
theorem t_X8_takeLengths (d n0 : Nat) {h : am_H} {wa : Nat} (hu : h 30 = some (unO wa)) {E k c : Nat} {f : Nat → Int32} (hs : h 31 = some (bsO 1 E k)) (hr : h 1 = some (rwO 2 c)) (hta : h 2 = some (.inl (false, 4000, f))) (hE : E ≤ 32000) (hk : k ≤ E) {t m : Nat} {al : Int32} (ht : h t = some (trO t al)) {len : Nat → Nat} (h1 : lnA h (t + 1) m len) (hm : m ≤ 510) (ht31 : ∀ j, t ≤ j → j ≤ t + 7 → j ≠ 31 ∧ j ≠ 30 ∧ j ≠ 1 ∧ j ≠ 2) {gp : Bool} {n : Nat} (hn : n ≤ m) (hd : 2 ≤ d) : am_Ct l D dA m_X8_takeLengths d 0 0 n0 [am_r 30, am_r t, .inl (nI n), .inl (am_bz gp)] h (am_qi fun x h' => x = nI (lnsR f E gp n n 0 k len).1 ∧ am_fr h h' [31, t + 1] ∧ h' 31 = some (bsO 1 E (lnsR f E gp n n 0 k len).2.1) ∧ (lnsR f E gp n n 0 k len).2.1 ≤ E ∧ lnA h' (t + 1) m (lnsR f E gp n n 0 k len).2.2) := by
  refine am_Ci (by decide +kernel) rfl rfl ?_
  refine am_iconst (v := nI 0) dX8_takeLengths_0 rfl (by decide +kernel) ?_
  refine am_istore dX8_takeLengths_1 rfl rfl ?_
  have loop : ∀ (q i k' : Nat) (len' : Nat → Nat) (H : am_H) (x5 x6 : Option am_V), lnsR f E gp n q i k' len' = (lnsR f E gp n n 0 k len) → n ≤ i + q → i ≤ n + 4 → k' ≤ E → am_fr h H [31, t + 1] → H 31 = some (bsO 1 E k') → lnA H (t + 1) m len' → am_At l D dA m_X8_takeLengths d 0 0 0 0 n0 none (am_qi fun x h' => x = nI (lnsR f E gp n n 0 k len).1 ∧ am_fr h h' [31, t + 1] ∧ h' 31 = some (bsO 1 E (lnsR f E gp n n 0 k len).2.1) ∧ (lnsR f E gp n n 0 k len).2.1 ≤ E ∧ lnA h' (t + 1) m (lnsR f E gp n n 0 k len).2.2) 0 0 3 [some (am_r 30), some (am_r t), some (.inl (nI n)), some (.inl (am_bz gp)), some (.inl (nI i)), x5, x6] [] H := by
    intro q
    induction q with
    | zero =>
      intro i k' len' H x5 x6 hR hq hi hk' hfr g31 hln
      have hR : (0, k', len') = (lnsR f E gp n n 0 k len) := hR
      refine am_iload dX8_takeLengths_3 rfl rfl ?_
      refine am_iload_n dX8_takeLengths_5 rfl rfl ?_
      refine am_ncmp_ge 84 dX8_takeLengths_6 rfl rfl (by omega) (by omega) (fun hc => ?_) (fun hc => ?_)
      · refine am_iconst (v := nI 0) dX8_takeLengths_84 rfl (by decide +kernel) ?_
        exact am_ri dX8_takeLengths_85 rfl rfl rfl (by rw [← hR]; exact ⟨rfl, hfr, g31, hk', hln⟩)
      · omega
    | succ q ih =>
      intro i k' len' H x5 x6 hR hq hi hk' hfr g31 hln
      rw [lnsR] at hR
      have tv := tlv_le f k'
      have hu := (hfr 30 (by have := (ht31 (t + 1) (by omega) (by omega)).2.1; simp; omega)).trans hu
      have hr := (hfr 1 (by have := (ht31 (t + 1) (by omega) (by omega)).2.2.1; simp; omega)).trans hr
      have hta := (hfr 2 (by have := (ht31 (t + 1) (by omega) (by omega)).2.2.2; simp; omega)).trans hta
      have ht := (hfr t (by have := (ht31 t (by omega) (by omega)).1; simp; omega)).trans ht
      refine am_iload dX8_takeLengths_3 rfl rfl ?_
      refine am_iload_n dX8_takeLengths_5 rfl rfl ?_
      refine am_ncmp_ge 84 dX8_takeLengths_6 rfl rfl (by omega) (by omega) (fun hc => ?_) (fun hc => ?_)
      · rw [if_pos hc] at hR
        refine am_iconst (v := nI 0) dX8_takeLengths_84 rfl (by decide +kernel) ?_
        exact am_ri dX8_takeLengths_85 rfl rfl rfl (by rw [← hR]; exact ⟨rfl, hfr, g31, hk', hln⟩)
      · rw [if_neg (by omega)] at hR
        refine am_aload_n dX8_takeLengths_9 rfl rfl ?_
        refine am_get f_X8_14 dX8_takeLengths_10 rfl hu rfl ?_
        refine am_vi (t_X2_takeLength (d - 1) _ g31 hr hta (by omega) (by decide) hk' (by decide) (by decide) (by omega)) k_X2_takeLength l_X8_116 dX8_takeLengths_13 rfl rfl rfl rfl g31 (by omega) (Nat.le_refl _) (Nat.le_refl _) (fun x h2 hx => ?_)
        obtain ⟨hx1, hx2⟩ := hx
        by_cases hE1 : k' + tln f k' ≤ E
        · obtain ⟨rfl, e2⟩ := hx1 hE1
          rw [if_neg (by omega)] at hR
          have f2 : am_fr H h2 [31] := by rw [e2]; exact am_fr.rf.set (by simp)
          have k31 : h2 31 = some (bsO 1 E (k' + tln f k')) := by rw [e2]; exact am_set_eq
          have hln2 := hln.at (h' := h2) (f2 (t + 1) (by have := (ht31 (t + 1) (by omega) (by omega)).1; simp; omega))
          have ht2 := (f2 t (by have := (ht31 t (by omega) (by omega)).1; simp; omega)).trans ht
          have hu2 := (f2 30 (by simp)).trans hu
          have hr2 := (f2 1 (by simp)).trans hr
          have hta2 := (f2 2 (by simp)).trans hta
          refine am_istore dX8_takeLengths_16 rfl rfl ?_
          refine am_iload dX8_takeLengths_18 rfl rfl ?_
          refine am_iconst (v := -1) dX8_takeLengths_20 rfl (by decide +kernel) ?_
          refine am_icmp_ne 26 dX8_takeLengths_21 rfl rfl (fun hc => ?_) (fun hc => ?_)
          · refine am_iload dX8_takeLengths_26 rfl rfl ?_
            refine am_bipush (v := nI 16) dX8_takeLengths_28 rfl (by decide +kernel) ?_
            refine am_ncmp_le 35 dX8_takeLengths_30 rfl rfl (by omega) (by omega) (fun hc => ?_) (fun hc => ?_)
            · rw [if_neg (by omega)] at hR
              obtain ⟨lf, hl1, hl2⟩ := hln2
              refine am_aload_n dX8_takeLengths_35 rfl rfl ?_
              refine am_iload dX8_takeLengths_36 rfl rfl ?_
              refine am_iload dX8_takeLengths_38 rfl rfl ?_
              refine am_vv (t_X7_setLength (d - 1) _ ht2 hl1 (by omega) (by omega) (s := i) (by omega) hc) k_X7_setLength l_X8_119 dX8_takeLengths_40 rfl rfl rfl rfl ht2 (by omega) (Nat.le_refl _) (Nat.le_refl _) (fun h3 hx => ?_)
              have f3 : am_fr h2 h3 [t + 1] := by rw [hx]; exact am_fr.rf.set (by simp)
              have hln3 : lnA h3 (t + 1) m (updN len' i (tlv f k')) := lnA.upd hl2 hc (by rw [hx]; exact am_set_eq)
              have hfr3 : am_fr h h3 [31, t + 1] := (hfr.tr f2 (by simp)).tr f3 (by simp)
              have k31 := (f3 31 (by have := (ht31 (t + 1) (by omega) (by omega)).1; simp; omega)).trans k31
              have hu3 := (f3 30 (by have := (ht31 (t + 1) (by omega) (by omega)).2.1; simp; omega)).trans hu2
              have hr3 := (f3 1 (by have := (ht31 (t + 1) (by omega) (by omega)).2.2.1; simp; omega)).trans hr2
              have hta3 := (f3 2 (by have := (ht31 (t + 1) (by omega) (by omega)).2.2.2; simp; omega)).trans hta2
              refine am_iload_n dX8_takeLengths_43 rfl rfl ?_
              refine am_bif_eq 78 dX8_takeLengths_44 rfl rfl (fun hg => ?_) (fun hg => ?_)
              · rw [if_neg (by rw [hg]; simp)] at hR
                refine am_iinc (n := 1) dX8_takeLengths_78 rfl rfl (nI_1 i) ?_
                refine am_goto 3 dX8_takeLengths_81 rfl rfl ?_
                exact ih (i + 1) (k' + tln f k') _ h3 _ _ hR (by omega) (by omega) hE1 hfr3 k31 hln3
              · refine am_iload dX8_takeLengths_47 rfl rfl ?_
                refine am_iconst (v := nI 2) dX8_takeLengths_49 rfl (by decide +kernel) ?_
                refine am_ncmp_ne 78 dX8_takeLengths_50 rfl rfl (by omega) (by omega) (fun h2c => ?_) (fun h2c => ?_)
                · rw [if_neg (by omega)] at hR
                  refine am_iinc (n := 1) dX8_takeLengths_78 rfl rfl (nI_1 i) ?_
                  refine am_goto 3 dX8_takeLengths_81 rfl rfl ?_
                  exact ih (i + 1) (k' + tln f k') _ h3 _ _ hR (by omega) (by omega) hE1 hfr3 k31 hln3
                · rw [if_pos ⟨hg, h2c⟩] at hR
                  have hg2 := num_lt f (k' + tln f k') 2
                  refine am_aload_n dX8_takeLengths_53 rfl rfl ?_
                  refine am_get f_X8_14 dX8_takeLengths_54 rfl hu3 rfl ?_
                  refine am_iconst (v := nI 2) dX8_takeLengths_57 rfl (by decide +kernel) ?_
                  refine am_vi (t_X2_take (d - 1) _ k31 hr3 hta3 (by omega) (by decide) hE1 (by decide) (by decide) (b := 2) (by omega)) k_X2_take l_X8_79 dX8_takeLengths_58 rfl rfl rfl rfl k31 (by omega) (Nat.le_refl _) (Nat.le_refl _) (fun x h4 hx => ?_)
                  obtain ⟨hx3, hx4⟩ := hx
                  by_cases hE2 : k' + tln f k' + 2 ≤ E
                  · obtain ⟨rfl, e4⟩ := hx3 hE2
                    rw [if_neg (by omega)] at hR
                    have f4 : am_fr h3 h4 [31] := by rw [e4]; exact am_fr.rf.set (by simp)
                    have m31 : h4 31 = some (bsO 1 E (k' + tln f k' + 2)) := by rw [e4]; exact am_set_eq
                    have hln4 := hln3.at (h' := h4) (f4 (t + 1) (by have := (ht31 (t + 1) (by omega) (by omega)).1; simp; omega))
                    refine am_istore dX8_takeLengths_61 rfl rfl ?_
                    refine am_iload dX8_takeLengths_63 rfl rfl ?_
                    refine am_iconst (v := -1) dX8_takeLengths_65 rfl (by decide +kernel) ?_
                    refine am_icmp_ne 71 dX8_takeLengths_66 rfl rfl (fun hc => ?_) (fun hc => ?_)
                    · refine am_iload dX8_takeLengths_71 rfl rfl ?_
                      refine am_iload dX8_takeLengths_73 rfl rfl ?_
                      refine am_iadd dX8_takeLengths_75 rfl ?_
                      rw [nI_add]
                      refine am_istore dX8_takeLengths_76 rfl rfl ?_
                      refine am_iinc (n := 1) dX8_takeLengths_78 rfl rfl (nI_1 (i + num f (k' + tln f k') 2)) ?_
                      refine am_goto 3 dX8_takeLengths_81 rfl rfl ?_
                      exact ih _ _ _ h4 _ _ hR (by omega) (by omega) hE2 (hfr3.tr f4 (by simp)) m31 hln4
                    · exact absurd hc (am_nm1 (by omega))
                  · obtain ⟨rfl, e4⟩ := hx4 (by omega)
                    rw [if_pos (by omega)] at hR
                    have f4 : am_fr h3 h4 [31] := by rw [e4]; exact am_fr.rf.set (by simp)
                    have m31 : h4 31 = some (bsO 1 E E) := by rw [e4]; exact am_set_eq
                    have hln4 := hln3.at (h' := h4) (f4 (t + 1) (by have := (ht31 (t + 1) (by omega) (by omega)).1; simp; omega))
                    refine am_istore dX8_takeLengths_61 rfl rfl ?_
                    refine am_iload dX8_takeLengths_63 rfl rfl ?_
                    refine am_iconst (v := -1) dX8_takeLengths_65 rfl (by decide +kernel) ?_
                    refine am_icmp_ne 71 dX8_takeLengths_66 rfl rfl (fun hc => ?_) (fun hc => ?_)
                    · exact absurd rfl hc
                    · refine am_iconst (v := nI 1) dX8_takeLengths_69 rfl (by decide +kernel) ?_
                      exact am_ri dX8_takeLengths_70 rfl rfl rfl (by rw [← hR]; exact ⟨rfl, hfr3.tr f4 (by simp), m31, Nat.le_refl _, hln4⟩)
            · rw [if_pos hc] at hR
              refine am_iconst (v := nI 2) dX8_takeLengths_33 rfl (by decide +kernel) ?_
              exact am_ri dX8_takeLengths_34 rfl rfl rfl (by rw [← hR]; exact ⟨rfl, hfr.tr f2 (by simp), k31, hE1, hln2⟩)
          · exact absurd hc (am_nm1 (by omega))
        · obtain ⟨rfl, e2⟩ := hx2 (by omega)
          rw [if_pos (by omega)] at hR
          have f2 : am_fr H h2 [31] := by rw [e2]; exact am_fr.rf.set (by simp)
          have k31 : h2 31 = some (bsO 1 E E) := by rw [e2]; exact am_set_eq
          have hln2 := hln.at (h' := h2) (f2 (t + 1) (by have := (ht31 (t + 1) (by omega) (by omega)).1; simp; omega))
          refine am_istore dX8_takeLengths_16 rfl rfl ?_
          refine am_iload dX8_takeLengths_18 rfl rfl ?_
          refine am_iconst (v := -1) dX8_takeLengths_20 rfl (by decide +kernel) ?_
          refine am_icmp_ne 26 dX8_takeLengths_21 rfl rfl (fun hc => ?_) (fun hc => ?_)
          · exact absurd rfl hc
          · refine am_iconst (v := nI 1) dX8_takeLengths_24 rfl (by decide +kernel) ?_
            exact am_ri dX8_takeLengths_25 rfl rfl rfl (by rw [← hR]; exact ⟨rfl, hfr.tr f2 (by simp), k31, Nat.le_refl _, hln2⟩)
  exact loop n 0 k len h _ _ rfl (by omega) (by omega) hk am_fr.rf hs h1
set_option maxHeartbeats 4000000 in
set_option maxRecDepth 100000 in
theorem t_X8_takeLengthsByT (d n0 : Nat) {h : am_H} {wa : Nat} (hu : h 30 = some (unO wa)) {E k c : Nat} {f : Nat → Int32} (hs : h 31 = some (bsO 1 E k)) (hr : h 1 = some (rwO 2 c)) (hta : h 2 = some (.inl (false, 4000, f))) (hE : E ≤ 32000) (hk : k ≤ E) {alT alC : Int32} {lenT len : Nat → Nat} (hT : h 6 = some (trO 6 alT)) (hrT : rdy h 6 19 alT lenT) (hC : h 14 = some (trO 14 alC)) (h1 : lnA h 15 510 len) {n : Nat} (hn : n ≤ 510) (hd : 2 ≤ d) : am_Ct l D dA m_X8_takeLengthsByT d 0 0 n0 [am_r 30, .inl (nI n)] h (am_qi fun x h' => x = nI (lncR f E n lenT alT n 0 k len).1 ∧ am_fr h h' [31, 15] ∧ h' 31 = some (bsO 1 E (lncR f E n lenT alT n 0 k len).2.1) ∧ (lncR f E n lenT alT n 0 k len).2.1 ≤ E ∧ lnA h' 15 510 (lncR f E n lenT alT n 0 k len).2.2) := by
  refine am_Ci (by decide +kernel) rfl rfl ?_
  refine am_iconst (v := nI 0) dX8_takeLengthsByT_0 rfl (by decide +kernel) ?_
  refine am_istore_n dX8_takeLengthsByT_1 rfl rfl ?_
  refine am_iconst (v := nI 0) dX8_takeLengthsByT_2 rfl (by decide +kernel) ?_
  refine am_istore_n dX8_takeLengthsByT_3 rfl rfl ?_
  have loop : ∀ (q i kn k' : Nat) (len' : Nat → Nat) (H : am_H) (x4 x5 : Option am_V), lncR f E n lenT alT q kn k' len' = (lncR f E n lenT alT n 0 k len) → i + q = n → i ≤ kn → kn ≤ 2000 → k' ≤ E → am_fr h H [31, 15] → H 31 = some (bsO 1 E k') → lnA H 15 510 len' → am_At l D dA m_X8_takeLengthsByT d 0 0 0 0 n0 none (am_qi fun x h' => x = nI (lncR f E n lenT alT n 0 k len).1 ∧ am_fr h h' [31, 15] ∧ h' 31 = some (bsO 1 E (lncR f E n lenT alT n 0 k len).2.1) ∧ (lncR f E n lenT alT n 0 k len).2.1 ≤ E ∧ lnA h' 15 510 (lncR f E n lenT alT n 0 k len).2.2) 0 0 4 [some (am_r 30), some (.inl (nI n)), some (.inl (nI kn)), some (.inl (nI i)), x4, x5] [] H := by
    intro q
    induction q with
    | zero =>
      intro i kn k' len' H x4 x5 hR hq hi hkn hk' hfr g31 hln
      have hR : ((if n < kn then 3 else 0), k', len') = (lncR f E n lenT alT n 0 k len) := hR
      refine am_iload_n dX8_takeLengthsByT_4 rfl rfl ?_
      refine am_iload_n dX8_takeLengthsByT_5 rfl rfl ?_
      refine am_ncmp_ge 92 dX8_takeLengthsByT_6 rfl rfl (by omega) (by omega) (fun hc => ?_) (fun hc => ?_)
      · refine am_iload_n dX8_takeLengthsByT_92 rfl rfl ?_
        refine am_iload_n dX8_takeLengthsByT_93 rfl rfl ?_
        refine am_ncmp_le 101 dX8_takeLengthsByT_94 rfl rfl (by omega) (by omega) (fun hc => ?_) (fun hc => ?_)
        · refine am_iconst (v := nI 0) dX8_takeLengthsByT_101 rfl (by decide +kernel) ?_
          exact am_ri dX8_takeLengthsByT_102 rfl rfl rfl (by rw [← hR]; exact ⟨by dsimp only; rw [if_neg (by omega)], hfr, g31, hk', hln⟩)
        · refine am_iconst (v := nI 3) dX8_takeLengthsByT_97 rfl (by decide +kernel) ?_
          refine am_goto 102 dX8_takeLengthsByT_98 rfl rfl ?_
          exact am_ri dX8_takeLengthsByT_102 rfl rfl rfl (by rw [← hR]; exact ⟨by dsimp only; rw [if_pos (by omega)], hfr, g31, hk', hln⟩)
      · omega
    | succ q ih =>
      intro i kn k' len' H x4 x5 hR hq hi hkn hk' hfr g31 hln
      rw [lncR] at hR
      have hu := (hfr 30 (by simp)).trans hu
      have hr := (hfr 1 (by simp)).trans hr
      have hta := (hfr 2 (by simp)).trans hta
      have hT := (hfr 6 (by simp)).trans hT
      have hC := (hfr 14 (by simp)).trans hC
      have hrT := hrT.at (h' := H) (fun j a b => hfr j (by simp; omega))
      have hS1 := sy_spec hrT f k'
      obtain ⟨⟨w1, y1⟩, ec⟩ : ∃ p, p = sy lenT 19 alT f k' := ⟨_, rfl⟩
      rw [← ec] at hS1 hR
      have hy1 := hS1.1
      have hw1 := SR_lt hS1
      dsimp only at hS1 hy1 hw1 hR
      have hb : bbh y1 ≤ 9 := by unfold bbh; split; omega; split <;> omega
      have hl : 1 ≤ lsf y1 ∧ lsf y1 ≤ 20 := by unfold lsf; split; omega; split <;> omega
      have hnl := num_lt f (k' + w1) (bbh y1)
      have hp : 2 ^ bbh y1 ≤ 2 ^ 9 := Nat.pow_le_pow_right (by omega) hb
      refine am_iload_n dX8_takeLengthsByT_4 rfl rfl ?_
      refine am_iload_n dX8_takeLengthsByT_5 rfl rfl ?_
      refine am_ncmp_ge 92 dX8_takeLengthsByT_6 rfl rfl (by omega) (by omega) (fun hc => ?_) (fun hc => ?_)
      · omega
      · refine am_iload_n dX8_takeLengthsByT_9 rfl rfl ?_
        refine am_iload_n dX8_takeLengthsByT_10 rfl rfl ?_
        refine am_ncmp_ge 92 dX8_takeLengthsByT_11 rfl rfl (by omega) (by omega) (fun hc => ?_) (fun hc => ?_)
        · rw [if_pos hc] at hR
          refine am_iload_n dX8_takeLengthsByT_92 rfl rfl ?_
          refine am_iload_n dX8_takeLengthsByT_93 rfl rfl ?_
          refine am_ncmp_le 101 dX8_takeLengthsByT_94 rfl rfl (by omega) (by omega) (fun hc => ?_) (fun hc => ?_)
          · refine am_iconst (v := nI 0) dX8_takeLengthsByT_101 rfl (by decide +kernel) ?_
            exact am_ri dX8_takeLengthsByT_102 rfl rfl rfl (by rw [← hR]; exact ⟨by dsimp only; rw [if_neg (by omega)], hfr, g31, hk', hln⟩)
          · refine am_iconst (v := nI 3) dX8_takeLengthsByT_97 rfl (by decide +kernel) ?_
            refine am_goto 102 dX8_takeLengthsByT_98 rfl rfl ?_
            exact am_ri dX8_takeLengthsByT_102 rfl rfl rfl (by rw [← hR]; exact ⟨by dsimp only; rw [if_pos (by omega)], hfr, g31, hk', hln⟩)
        · rw [if_neg (by omega)] at hR
          refine am_aload_n dX8_takeLengthsByT_14 rfl rfl ?_
          refine am_get f_X8_14 dX8_takeLengthsByT_15 rfl hu rfl ?_
          refine am_aload_n dX8_takeLengthsByT_18 rfl rfl ?_
          refine am_get f_X8_34 dX8_takeLengthsByT_19 rfl hu rfl ?_
          refine am_vi (t_X2_takeSymbol (d - 1) _ g31 hr hta (by omega) (by decide) hk' (by decide) (by decide) hT (by decide) hrT (fun j a b => by omega) hS1 (by omega)) k_X2_takeSymbol l_X8_123 dX8_takeLengthsByT_22 rfl rfl rfl rfl g31 (by omega) (Nat.le_refl _) (Nat.le_refl _) (fun x h2 hx => ?_)
          obtain ⟨hx1, hx2⟩ := hx
          by_cases hE1 : k' + w1 ≤ E
          · obtain ⟨rfl, e2⟩ := hx1 hE1
            rw [if_neg (by omega)] at hR
            have f2 : am_fr H h2 [31] := by rw [e2]; exact am_fr.rf.set (by simp)
            have k31 : h2 31 = some (bsO 1 E (k' + w1)) := by rw [e2]; exact am_set_eq
            have hln2 := hln.at (h' := h2) (f2 15 (by simp))
            have hu2 := (f2 30 (by simp)).trans hu
            have hr2 := (f2 1 (by simp)).trans hr
            have hta2 := (f2 2 (by simp)).trans hta
            have hC2 := (f2 14 (by simp)).trans hC
            have hfr2 : am_fr h h2 [31, 15] := hfr.tr f2 (by simp)
            have rest : ∀ (H3 : am_H) (L5 : Option am_V), am_fr h H3 [31, 15] → H3 31 = some (bsO 1 E (k' + w1)) → lnA H3 15 510 (if 2 < y1 then updN len' kn (y1 - 2) else len') → am_At l D dA m_X8_takeLengthsByT d 0 0 0 0 n0 none (am_qi fun x h' => x = nI (lncR f E n lenT alT n 0 k len).1 ∧ am_fr h h' [31, 15] ∧ h' 31 = some (bsO 1 E (lncR f E n lenT alT n 0 k len).2.1) ∧ (lncR f E n lenT alT n 0 k len).2.1 ≤ E ∧ lnA h' 15 510 (lncR f E n lenT alT n 0 k len).2.2) 0 0 53 [some (am_r 30), some (.inl (nI n)), some (.inl (nI kn)), some (.inl (nI i)), some (.inl (nI y1)), L5] [] H3 := by
              intro H3 L5 hfr3 m31 hln3
              have hu3 := (hfr3 30 (by simp)).trans ((hfr 30 (by simp)).symm.trans hu)
              have hr3 := (hfr3 1 (by simp)).trans ((hfr 1 (by simp)).symm.trans hr)
              have hta3 := (hfr3 2 (by simp)).trans ((hfr 2 (by simp)).symm.trans hta)
              refine am_aload_n dX8_takeLengthsByT_53 rfl rfl ?_
              refine am_get f_X8_14 dX8_takeLengthsByT_54 rfl hu3 rfl ?_
              refine am_iload dX8_takeLengthsByT_57 rfl rfl ?_
              refine am_sin (t_X9_bitsBehind (d - 1) _ (y := y1) (by omega)) k_X9_bitsBehind l_X8_127 dX8_takeLengthsByT_59 rfl rfl rfl rfl (by omega) (Nat.le_refl _) (Nat.le_refl _) (fun x h1 hx => ?_)
              obtain ⟨rfl, hh⟩ := hx
              obtain rfl := hh.symm
              refine am_vi (t_X2_take (d - 1) _ m31 hr3 hta3 (by omega) (by decide) hE1 (by decide) (by decide) (b := bbh y1) (by omega)) k_X2_take l_X8_79 dX8_takeLengthsByT_62 rfl rfl rfl rfl m31 (by omega) (Nat.le_refl _) (Nat.le_refl _) (fun x h4 hx => ?_)
              obtain ⟨hx3, hx4⟩ := hx
              by_cases hE2 : k' + w1 + bbh y1 ≤ E
              · obtain ⟨rfl, e4⟩ := hx3 hE2
                rw [if_neg (by omega)] at hR
                have f4 : am_fr H3 h4 [31] := by rw [e4]; exact am_fr.rf.set (by simp)
                have p31 : h4 31 = some (bsO 1 E (k' + w1 + bbh y1)) := by rw [e4]; exact am_set_eq
                have hln4 := hln3.at (h' := h4) (f4 15 (by simp))
                refine am_istore dX8_takeLengthsByT_65 rfl rfl ?_
                refine am_iload dX8_takeLengthsByT_67 rfl rfl ?_
                refine am_iconst (v := -1) dX8_takeLengthsByT_69 rfl (by decide +kernel) ?_
                refine am_icmp_ne 75 dX8_takeLengthsByT_70 rfl rfl (fun hc => ?_) (fun hc => ?_)
                · refine am_iload_n dX8_takeLengthsByT_75 rfl rfl ?_
                  refine am_iload dX8_takeLengthsByT_76 rfl rfl ?_
                  refine am_sin (t_X9_leastOf (d - 1) _ (y := y1) (by omega)) k_X9_leastOf l_X8_130 dX8_takeLengthsByT_78 rfl rfl rfl rfl (by omega) (Nat.le_refl _) (Nat.le_refl _) (fun x h1 hx => ?_)
                  obtain ⟨rfl, hh⟩ := hx
                  obtain rfl := hh.symm
                  refine am_iload dX8_takeLengthsByT_81 rfl rfl ?_
                  refine am_iadd dX8_takeLengthsByT_83 rfl ?_
                  refine am_iadd dX8_takeLengthsByT_84 rfl ?_
                  rw [nI_add, nI_add]
                  refine am_istore_n dX8_takeLengthsByT_85 rfl rfl ?_
                  refine am_iinc (n := 1) dX8_takeLengthsByT_86 rfl rfl (nI_1 i) ?_
                  refine am_goto 4 dX8_takeLengthsByT_89 rfl rfl ?_
                  exact ih (i + 1) _ _ _ h4 _ _ hR (by omega) (by omega) (by omega) hE2 (hfr3.tr f4 (by simp)) p31 hln4
                · exact absurd hc (am_nm1 (by omega))
              · obtain ⟨rfl, e4⟩ := hx4 (by omega)
                have hy2 : ¬ 2 < y1 := by
                  intro g
                  have : bbh y1 = 0 := by unfold bbh; rw [if_neg (by omega), if_neg (by omega)]
                  omega
                rw [if_pos (by omega)] at hR
                rw [if_neg hy2] at hln3
                have f4 : am_fr H3 h4 [31] := by rw [e4]; exact am_fr.rf.set (by simp)
                have p31 : h4 31 = some (bsO 1 E E) := by rw [e4]; exact am_set_eq
                refine am_istore dX8_takeLengthsByT_65 rfl rfl ?_
                refine am_iload dX8_takeLengthsByT_67 rfl rfl ?_
                refine am_iconst (v := -1) dX8_takeLengthsByT_69 rfl (by decide +kernel) ?_
                refine am_icmp_ne 75 dX8_takeLengthsByT_70 rfl rfl (fun hc => ?_) (fun hc => ?_)
                · exact absurd rfl hc
                · refine am_iconst (v := nI 1) dX8_takeLengthsByT_73 rfl (by decide +kernel) ?_
                  exact am_ri dX8_takeLengthsByT_74 rfl rfl rfl (by rw [← hR]; exact ⟨rfl, hfr3.tr f4 (by simp), p31, Nat.le_refl _, hln3.at (f4 15 (by simp))⟩)
            refine am_istore dX8_takeLengthsByT_25 rfl rfl ?_
            refine am_iload dX8_takeLengthsByT_27 rfl rfl ?_
            refine am_iconst (v := -1) dX8_takeLengthsByT_29 rfl (by decide +kernel) ?_
            refine am_icmp_ne 35 dX8_takeLengthsByT_30 rfl rfl (fun hc => ?_) (fun hc => ?_)
            · refine am_iload dX8_takeLengthsByT_35 rfl rfl ?_
              refine am_iconst (v := nI 2) dX8_takeLengthsByT_37 rfl (by decide +kernel) ?_
              refine am_ncmp_le 53 dX8_takeLengthsByT_38 rfl rfl (by omega) (by omega) (fun hc => ?_) (fun hc => ?_)
              · exact rest h2 _ hfr2 k31 (by rw [if_neg (by omega)]; exact hln2)
              · obtain ⟨lf, hl1, hl2⟩ := hln2
                refine am_aload_n dX8_takeLengthsByT_41 rfl rfl ?_
                refine am_get f_X8_38 dX8_takeLengthsByT_42 rfl hu2 rfl ?_
                refine am_iload_n dX8_takeLengthsByT_45 rfl rfl ?_
                refine am_iload dX8_takeLengthsByT_46 rfl rfl ?_
                refine am_iconst (v := nI 2) dX8_takeLengthsByT_48 rfl (by decide +kernel) ?_
                refine am_isub dX8_takeLengthsByT_49 rfl ?_
                rw [pk_sub (by omega)]
                refine am_vv (t_X7_setLength (d - 1) _ hC2 hl1 (by omega) (by omega) (s := kn) (by omega) (n := y1 - 2) (by omega)) k_X7_setLength l_X8_119 dX8_takeLengthsByT_50 rfl rfl rfl rfl hC2 (by omega) (Nat.le_refl _) (Nat.le_refl _) (fun h3 hx => ?_)
                have f3 : am_fr h2 h3 [15] := by rw [hx]; exact am_fr.rf.set (by simp)
                exact rest h3 _ (hfr2.tr f3 (by simp)) ((f3 31 (by simp)).trans k31) (by rw [if_pos hc]; exact lnA.upd hl2 (by omega) (by rw [hx]; exact am_set_eq))
            · exact absurd hc (am_nm1 (by omega))
          · obtain ⟨rfl, e2⟩ := hx2 (by omega)
            rw [if_pos (by omega)] at hR
            have f2 : am_fr H h2 [31] := by rw [e2]; exact am_fr.rf.set (by simp)
            have k31 : h2 31 = some (bsO 1 E E) := by rw [e2]; exact am_set_eq
            refine am_istore dX8_takeLengthsByT_25 rfl rfl ?_
            refine am_iload dX8_takeLengthsByT_27 rfl rfl ?_
            refine am_iconst (v := -1) dX8_takeLengthsByT_29 rfl (by decide +kernel) ?_
            refine am_icmp_ne 35 dX8_takeLengthsByT_30 rfl rfl (fun hc => ?_) (fun hc => ?_)
            · exact absurd rfl hc
            · refine am_iconst (v := nI 1) dX8_takeLengthsByT_33 rfl (by decide +kernel) ?_
              exact am_ri dX8_takeLengthsByT_34 rfl rfl rfl (by rw [← hR]; exact ⟨rfl, hfr.tr f2 (by simp), k31, Nat.le_refl _, hln.at (f2 15 (by simp))⟩)
  exact loop n 0 0 k len h _ _ rfl (by omega) (by omega) (by omega) hk am_fr.rf hs h1
end UNP3
end
section
/-! ===== Unpacker: trees ===== -/
section UNP4
variable {l : Launch} {D : va_G} {dA : Bool → ClassId}
theorem lnsR_lt (f : Nat → Int32) (E : Nat) (gp : Bool) (n : Nat) : ∀ (q i k : Nat) (len : Nat → Nat), (lnsR f E gp n q i k len).1 < 7
  | 0, _, _, _ => by show 0 < 7; omega
  | q + 1, i, k, len => by
    rw [lnsR]
    split
    · show 0 < 7; omega
    · split
      · show 1 < 7; omega
      · split
        · show 2 < 7; omega
        · split
          · split
            · show 1 < 7; omega
            · exact lnsR_lt f E gp n q _ _ _
          · exact lnsR_lt f E gp n q _ _ _
theorem lncR_lt (f : Nat → Int32) (E n : Nat) (lenT : Nat → Nat) (alT : Int32) : ∀ (q i k : Nat) (len : Nat → Nat), (lncR f E n lenT alT q i k len).1 < 7
  | 0, _, _, _ => by show (if _ then 3 else 0) < 7; split <;> omega
  | q + 1, i, k, len => by
    rw [lncR]
    split
    · show (if _ then 3 else 0) < 7; split <;> omega
    · split
      · show 1 < 7; omega
      · split
        · show 1 < 7; omega
        · exact lncR_lt f E n lenT alT q _ _ _
theorem rdy_alone {h : am_H} {t m s : Nat} {len : Nat → Nat} (hs : s < m) (hm : m ≤ 510) : rdy h t m (nI s) len := ⟨fun g => absurd g (am_nm1 (by omega)), fun _ => ⟨s, hs, rfl⟩⟩
theorem rdy_stl {h : am_H} {t m : Nat} {len : Nat → Nat} (a : stl h t m len) (b : krf len m = 65536) (c : ∀ s, s < m → len s ≤ 16) : rdy h t m (-1) len := ⟨fun _ => ⟨a, b, c⟩, fun g => absurd rfl g⟩
/-- a wiped tree holds lengths 0 -/
theorem wpd.ln {h : am_H} {t m : Nat} (a : wpd h t m) : lnA h (t + 1) m (fun _ => 0) := by
  obtain ⟨-, ⟨f, e, g⟩, -⟩ := a
  exact ⟨f, e, fun s hs => ⟨g s hs, Nat.zero_le _⟩⟩
set_option maxHeartbeats 4000000 in
set_option maxRecDepth 100000 in
theorem t_X8_takeTree0 (d n0 : Nat) {h : am_H} {wa : Nat} (hu : h 30 = some (unO wa)) {op : Bool} {bl co cp bi : Nat} (hac : h 5 = some (acO op bl co cp bi)) {E k c : Nat} {f : Nat → Int32} (hs : h 31 = some (bsO 1 E k)) (hr : h 1 = some (rwO 2 c)) (hta : h 2 = some (.inl (false, 4000, f))) (hE : E ≤ 32000) (hk : k ≤ E) (hw : wpd h 6 19) (hsh : tsh h 6 19) (hd : 4 ≤ d) : am_Ct l D dA m_X8_takeTree d 0 0 n0 [am_r 30, .inl (nI 0), .inl (nI 5)] h (am_qi fun x h' => x = nI (treR f E 19 5 (fun n k => lnsR f E true n n 0 k (fun _ => 0)) k).1 ∧ (treR f E 19 5 (fun n k => lnsR f E true n n 0 k (fun _ => 0)) k).1 < 7 ∧ am_fr h h' [31, 6, 7, 8, 10, 11, 12, 13] ∧ h' 31 = some (bsO 1 E (treR f E 19 5 (fun n k => lnsR f E true n n 0 k (fun _ => 0)) k).2.1) ∧ (treR f E 19 5 (fun n k => lnsR f E true n n 0 k (fun _ => 0)) k).2.1 ≤ E ∧ h' 6 = some (trO 6 (treR f E 19 5 (fun n k => lnsR f E true n n 0 k (fun _ => 0)) k).2.2.1) ∧ lnA h' 7 19 (treR f E 19 5 (fun n k => lnsR f E true n n 0 k (fun _ => 0)) k).2.2.2 ∧ tsh h' 6 19 ∧ ((treR f E 19 5 (fun n k => lnsR f E true n n 0 k (fun _ => 0)) k).1 = 0 → rdy h' 6 19 (treR f E 19 5 (fun n k => lnsR f E true n n 0 k (fun _ => 0)) k).2.2.1 (treR f E 19 5 (fun n k => lnsR f E true n n 0 k (fun _ => 0)) k).2.2.2)) := by
  refine am_Ci (by decide +kernel) rfl rfl ?_
  have hnl := num_lt f k 5
  have hnl2 := num_lt f (k + 5) 5
  have ht := hw.1
  have hln := hw.ln
  refine am_aload_n dX8_takeTree_0 rfl rfl ?_
  refine am_get f_X8_24 dX8_takeTree_1 rfl hu rfl ?_
  refine am_iload_n dX8_takeTree_4 rfl rfl ?_
  refine am_vr (t_X0_tree0 (d - 1) _ hac) k_X0_tree l_X8_28 dX8_takeTree_5 rfl rfl rfl rfl hac (by omega) (Nat.le_refl _) (Nat.le_refl _) (fun x h1 hx => ?_)
  obtain ⟨rfl, hh⟩ := hx
  obtain rfl := hh.symm
  refine am_astore_n dX8_takeTree_8 rfl rfl ?_
  refine am_aload_n dX8_takeTree_9 rfl rfl ?_
  refine am_get f_X8_14 dX8_takeTree_10 rfl hu rfl ?_
  refine am_iload_n dX8_takeTree_13 rfl rfl ?_
  refine am_vi (t_X2_take (d - 1) _ hs hr hta (by omega) (by decide) hk (by decide) (by decide) (b := 5) (by omega)) k_X2_take l_X8_79 dX8_takeTree_14 rfl rfl rfl rfl hs (by omega) (Nat.le_refl _) (Nat.le_refl _) (fun x h2 hx => ?_)
  obtain ⟨hx1, hx2⟩ := hx
  by_cases hE1 : k + 5 ≤ E
  · obtain ⟨rfl, e2⟩ := hx1 hE1
    have f2 : am_fr h h2 [31] := by rw [e2]; exact am_fr.rf.set (by simp)
    have k31 : h2 31 = some (bsO 1 E (k + 5)) := by rw [e2]; exact am_set_eq
    have hu2 := (f2 30 (by simp)).trans hu
    have hr2 := (f2 1 (by simp)).trans hr
    have hta2 := (f2 2 (by simp)).trans hta
    have ht2 := (f2 6 (by simp)).trans ht
    have hln2 := hln.at (h' := h2) (f2 7 (by simp))
    have hsh2 := hsh.at (h' := h2) (fun j a b => f2 j (by simp; omega))
    obtain ⟨lf, hl1, hl2⟩ := id hln2
    refine am_istore dX8_takeTree_17 rfl rfl ?_
    refine am_iload dX8_takeTree_19 rfl rfl ?_
    refine am_iconst (v := -1) dX8_takeTree_21 rfl (by decide +kernel) ?_
    refine am_icmp_ne 27 dX8_takeTree_22 rfl rfl (fun hc => ?_) (fun hc => ?_)
    · refine am_iload dX8_takeTree_27 rfl rfl ?_
      refine am_aload_n dX8_takeTree_29 rfl rfl ?_
      refine am_vi (t_X7_symbols (d - 1) _ ht2 hl1 (by omega)) k_X7_symbols l_X8_90 dX8_takeTree_30 rfl rfl rfl rfl ht2 (by omega) (Nat.le_refl _) (Nat.le_refl _) (fun x h1 hx => ?_)
      obtain ⟨rfl, hh⟩ := hx
      obtain rfl := hh.symm
      refine am_ncmp_le 38 dX8_takeTree_33 rfl rfl (by omega) (by omega) (fun hc => ?_) (fun hc => ?_)
      · refine am_iload dX8_takeTree_38 rfl rfl ?_
        refine am_nif_ne 50 dX8_takeTree_40 rfl rfl (by omega) (fun hc => ?_) (fun hc => ?_)
        · refine am_iload_n dX8_takeTree_50 rfl rfl ?_
          refine am_iconst (v := nI 1) dX8_takeTree_51 rfl (by decide +kernel) ?_
          refine am_ncmp_ne 64 dX8_takeTree_52 rfl rfl (by omega) (by omega) (fun hc => ?_) (fun hc => ?_)
          · refine am_aload_n dX8_takeTree_64 rfl rfl ?_
            refine am_aload_n dX8_takeTree_65 rfl rfl ?_
            refine am_iload dX8_takeTree_66 rfl rfl ?_
            refine am_iload_n dX8_takeTree_68 rfl rfl ?_
            refine am_nif_ne 76 dX8_takeTree_69 rfl rfl (by omega) (fun hc => ?_) (fun hc => ?_)
            · omega
            · refine am_iconst (v := nI 1) dX8_takeTree_72 rfl (by decide +kernel) ?_
              refine am_goto 77 dX8_takeTree_73 rfl rfl ?_
              rw [show nI 1 = am_bz true from rfl]
              refine am_vi (t_X8_takeLengths (d - 1) _ hu2 k31 hr2 hta2 hE hE1 ht2 hln2 (by omega) (fun j a b => by omega) (gp := true) (by omega) (by omega)) k_X8_takeLengths l_X8_102 dX8_takeTree_77 rfl rfl rfl rfl hu2 (by omega) (Nat.le_refl _) (Nat.le_refl _) (fun x h3 hx => ?_)
              obtain ⟨rfl, f3, m31, mE, hln3⟩ := hx
              have hlt := lnsR_lt f E true (num f k 5) (num f k 5) 0 (k + 5) (fun _ => 0)
              obtain ⟨⟨fl, kp, ln⟩, eL⟩ : ∃ p, p = lnsR f E true (num f k 5) (num f k 5) 0 (k + 5) (fun _ => 0) := ⟨_, rfl⟩
              rw [← eL] at m31 mE hln3 hlt ⊢
              dsimp only at m31 mE hln3 hlt ⊢
              have eR : (treR f E 19 5 (fun n k => lnsR f E true n n 0 k (fun _ => 0)) k) = ((if fl = 0 then (if krf ln 19 = 65536 then 0 else 2) else fl), kp, -1, ln) := by
                unfold treR
                rw [if_neg (by omega), if_neg (by omega), if_neg (by omega)]
                simp only [← eL]
              have ht3 := (f3 6 (by simp)).trans ht2
              have hsh3 : tsh h3 6 19 := by
                obtain ⟨-, -, b2, b3, b4, b5, b6, b7⟩ := hsh2
                obtain ⟨lf3, q1, q2⟩ := hln3
                exact ⟨⟨_, ht3⟩, ⟨_, q1⟩, b2.at (f3 _ (by simp)), b3.at (f3 _ (by simp)), b4.at (f3 _ (by simp)), b5.at (f3 _ (by simp)), b6.at (f3 _ (by simp)), b7.at (f3 _ (by simp))⟩
              refine am_istore dX8_takeTree_80 rfl rfl ?_
              refine am_iload dX8_takeTree_82 rfl rfl ?_
              refine am_nif_eq 90 dX8_takeTree_84 rfl rfl (by omega) (fun hc => ?_) (fun hc => ?_)
              · subst hc
                obtain ⟨-, -, ⟨c2, b2⟩, -, ⟨c4, b4⟩, ⟨c5, b5⟩, ⟨c6, b6⟩, ⟨c7, b7⟩⟩ := id hsh3
                obtain ⟨lf3, q1, q2⟩ := id hln3
                refine am_aload_n dX8_takeTree_90 rfl rfl ?_
                refine am_vi (t_X7_settle (d - 1) _ ht3 q1 (by omega) (by omega) (fun s hs => (q2 s hs).1) (fun s hs => (q2 s hs).2) b2 b4 b5 b6 b7 (by omega)) k_X7_settle l_X8_106 dX8_takeTree_91 rfl rfl rfl rfl ht3 (by omega) (Nat.le_refl _) (Nat.le_refl _) (fun x h4 hx => ?_)
                obtain ⟨rfl, f4, hst, c2, c4, c5, c6, c7, b2, b4, b5, b6, b7⟩ := hx
                have hsh4 : tsh h4 6 19 := by
                  obtain ⟨-, -, -, b3, -⟩ := hsh3
                  exact ⟨⟨_, (f4 6 (by simp)).trans ht3⟩, ⟨_, (f4 7 (by simp)).trans q1⟩, ⟨_, b2⟩, b3.at (f4 _ (by simp)), ⟨_, b4⟩, ⟨_, b5⟩, ⟨_, b6⟩, ⟨_, b7⟩⟩
                have hfr4 : am_fr h h4 [31, 6, 7, 8, 10, 11, 12, 13] := ((am_fr.rf.tr f2 (by simp)).tr f3 (by simp)).tr f4 (by simp)
                refine am_bif_eq 101 dX8_takeTree_94 rfl rfl (fun hk9 => ?_) (fun hk9 => ?_)
                · have hk9 : ¬ krf ln 19 = 65536 := by simpa using hk9
                  refine am_iconst (v := nI 2) dX8_takeTree_101 rfl (by decide +kernel) ?_
                  exact am_ri dX8_takeTree_102 rfl rfl rfl (by rw [eR, if_pos rfl, if_neg hk9]; exact ⟨rfl, (by show 2 < 7; omega), hfr4, (f4 31 (by simp)).trans m31, mE, (f4 6 (by simp)).trans ht3, hln3.at (f4 7 (by simp)), hsh4, fun g => (by cases g)⟩)
                · have hk9 : krf ln 19 = 65536 := by simpa using hk9
                  refine am_iconst (v := nI 0) dX8_takeTree_97 rfl (by decide +kernel) ?_
                  refine am_goto 102 dX8_takeTree_98 rfl rfl ?_
                  exact am_ri dX8_takeTree_102 rfl rfl rfl (by rw [eR, if_pos rfl, if_pos hk9]; exact ⟨rfl, (by show 0 < 7; omega), hfr4, (f4 31 (by simp)).trans m31, mE, (f4 6 (by simp)).trans ht3, hln3.at (f4 7 (by simp)), hsh4, fun _ => rdy_stl (hst hk9) hk9 (fun s hs => (q2 s hs).2)⟩)
              · refine am_iload dX8_takeTree_87 rfl rfl ?_
                exact am_ri dX8_takeTree_89 rfl rfl rfl (by rw [eR, if_neg (by omega)]; exact ⟨rfl, hlt, (am_fr.rf.tr f2 (by simp)).tr f3 (by simp), m31, mE, ht3, hln3, hsh3, fun g => absurd g (by show ¬ fl = 0; omega)⟩)
          · omega
        · refine am_aload_n dX8_takeTree_43 rfl rfl ?_
          refine am_aload_n dX8_takeTree_44 rfl rfl ?_
          refine am_iload_n dX8_takeTree_45 rfl rfl ?_
          refine am_vi (t_X8_takeAlone (d - 1) _ hu2 k31 hr2 hta2 hE hE1 ht2 hl1 (by omega) (fun j a b => by omega) (b := 5) (by omega) (by omega)) k_X8_takeAlone l_X8_95 dX8_takeTree_46 rfl rfl rfl rfl hu2 (by omega) (Nat.le_refl _) (Nat.le_refl _) (fun x h3 hx => ?_)
          obtain ⟨hx3, hx4, hx5⟩ := hx
          by_cases hE2 : k + 5 + 5 ≤ E
          · rcases Nat.lt_or_ge (num f (k + 5) 5) 19 with g | g
            · obtain ⟨rfl, e3⟩ := hx5 hE2 g
              have eR : (treR f E 19 5 (fun n k => lnsR f E true n n 0 k (fun _ => 0)) k) = (0, k + 5 + 5, nI (num f (k + 5) 5), fun _ => 0) := by
                unfold treR
                rw [if_neg (by omega), if_neg (by omega), if_pos hc, if_neg (by omega), if_neg (by omega)]
              have f3 : am_fr h2 h3 [31, 6] := by rw [e3]; exact (am_fr.rf.set (by simp)).set (by simp)
              have m31 : h3 31 = some (bsO 1 E (k + 5 + 5)) := by rw [e3]; exact (am_set_ne (by decide)).trans am_set_eq
              have mt : h3 6 = some (trO 6 (nI (num f (k + 5) 5))) := by rw [e3]; exact am_set_eq
              have hsh3 : tsh h3 6 19 := by
                obtain ⟨-, b1, b2, b3, b4, b5, b6, b7⟩ := hsh2
                exact ⟨⟨_, mt⟩, b1.at (f3 _ (by simp)), b2.at (f3 _ (by simp)), b3.at (f3 _ (by simp)), b4.at (f3 _ (by simp)), b5.at (f3 _ (by simp)), b6.at (f3 _ (by simp)), b7.at (f3 _ (by simp))⟩
              exact am_ri dX8_takeTree_49 rfl rfl rfl (by rw [eR]; exact ⟨rfl, (by show 0 < 7; omega), (am_fr.rf.tr f2 (by simp)).tr f3 (by simp), m31, hE2, mt, hln2.at (f3 7 (by simp)), hsh3, fun _ => rdy_alone g (by omega)⟩)
            · obtain ⟨rfl, e3⟩ := hx4 hE2 g
              have eR : (treR f E 19 5 (fun n k => lnsR f E true n n 0 k (fun _ => 0)) k) = (3, k + 5 + 5, -1, fun _ => 0) := by
                unfold treR
                rw [if_neg (by omega), if_neg (by omega), if_pos hc, if_neg (by omega), if_pos g]
              have f3 : am_fr h2 h3 [31] := by rw [e3]; exact am_fr.rf.set (by simp)
              have m31 : h3 31 = some (bsO 1 E (k + 5 + 5)) := by rw [e3]; exact am_set_eq
              exact am_ri dX8_takeTree_49 rfl rfl rfl (by rw [eR]; exact ⟨rfl, (by show 3 < 7; omega), (am_fr.rf.tr f2 (by simp)).tr f3 (by simp), m31, hE2, (f3 6 (by simp)).trans ht2, hln2.at (f3 7 (by simp)), hsh2.at (fun j a b => f3 j (by simp; omega)), fun g => (by cases g)⟩)
          · obtain ⟨rfl, e3⟩ := hx3 (by omega)
            have eR : (treR f E 19 5 (fun n k => lnsR f E true n n 0 k (fun _ => 0)) k) = (1, E, -1, fun _ => 0) := by
              unfold treR
              rw [if_neg (by omega), if_neg (by omega), if_pos hc, if_pos (by omega)]
            have f3 : am_fr h2 h3 [31] := by rw [e3]; exact am_fr.rf.set (by simp)
            have m31 : h3 31 = some (bsO 1 E E) := by rw [e3]; exact am_set_eq
            exact am_ri dX8_takeTree_49 rfl rfl rfl (by rw [eR]; exact ⟨rfl, (by show 1 < 7; omega), (am_fr.rf.tr f2 (by simp)).tr f3 (by simp), m31, Nat.le_refl _, (f3 6 (by simp)).trans ht2, hln2.at (f3 7 (by simp)), hsh2.at (fun j a b => f3 j (by simp; omega)), fun g => (by cases g)⟩)
      · have eR : (treR f E 19 5 (fun n k => lnsR f E true n n 0 k (fun _ => 0)) k) = (3, k + 5, -1, fun _ => 0) := by
          unfold treR
          rw [if_neg (by omega), if_pos hc]
        refine am_iconst (v := nI 3) dX8_takeTree_36 rfl (by decide +kernel) ?_
        exact am_ri dX8_takeTree_37 rfl rfl rfl (by rw [eR]; exact ⟨rfl, (by show 3 < 7; omega), am_fr.rf.tr f2 (by simp), k31, hE1, ht2, hln2, hsh2, fun g => (by cases g)⟩)
    · exact absurd hc (am_nm1 (by omega))
  · obtain ⟨rfl, e2⟩ := hx2 (by omega)
    have f2 : am_fr h h2 [31] := by rw [e2]; exact am_fr.rf.set (by simp)
    have k31 : h2 31 = some (bsO 1 E E) := by rw [e2]; exact am_set_eq
    have eR : (treR f E 19 5 (fun n k => lnsR f E true n n 0 k (fun _ => 0)) k) = (1, E, -1, fun _ => 0) := by
      unfold treR
      rw [if_pos (by omega)]
    refine am_istore dX8_takeTree_17 rfl rfl ?_
    refine am_iload dX8_takeTree_19 rfl rfl ?_
    refine am_iconst (v := -1) dX8_takeTree_21 rfl (by decide +kernel) ?_
    refine am_icmp_ne 27 dX8_takeTree_22 rfl rfl (fun hc => ?_) (fun hc => ?_)
    · exact absurd rfl hc
    · refine am_iconst (v := nI 1) dX8_takeTree_25 rfl (by decide +kernel) ?_
      exact am_ri dX8_takeTree_26 rfl rfl rfl (by rw [eR]; exact ⟨rfl, (by show 1 < 7; omega), am_fr.rf.tr f2 (by simp), k31, Nat.le_refl _, (f2 6 (by simp)).trans ht, hln.at (f2 7 (by simp)), hsh.at (fun j a b => f2 j (by simp; omega)), fun g => (by cases g)⟩)
set_option maxHeartbeats 4000000 in
set_option maxRecDepth 100000 in
theorem t_X8_takeTree1 (d n0 : Nat) {h : am_H} {wa : Nat} (hu : h 30 = some (unO wa)) {op : Bool} {bl co cp bi : Nat} (hac : h 5 = some (acO op bl co cp bi)) {E k c : Nat} {f : Nat → Int32} (hs : h 31 = some (bsO 1 E k)) (hr : h 1 = some (rwO 2 c)) (hta : h 2 = some (.inl (false, 4000, f))) (hE : E ≤ 32000) (hk : k ≤ E) (hw : wpd h 14 510) (hsh : tsh h 14 510) {alT : Int32} {lenT : Nat → Nat} (hT : h 6 = some (trO 6 alT)) (hrT : rdy h 6 19 alT lenT) (hd : 4 ≤ d) : am_Ct l D dA m_X8_takeTree d 0 0 n0 [am_r 30, .inl (nI 1), .inl (nI 9)] h (am_qi fun x h' => x = nI (treR f E 510 9 (fun n k => lncR f E n lenT alT n 0 k (fun _ => 0)) k).1 ∧ (treR f E 510 9 (fun n k => lncR f E n lenT alT n 0 k (fun _ => 0)) k).1 < 7 ∧ am_fr h h' [31, 14, 15, 16, 18, 19, 20, 21] ∧ h' 31 = some (bsO 1 E (treR f E 510 9 (fun n k => lncR f E n lenT alT n 0 k (fun _ => 0)) k).2.1) ∧ (treR f E 510 9 (fun n k => lncR f E n lenT alT n 0 k (fun _ => 0)) k).2.1 ≤ E ∧ h' 14 = some (trO 14 (treR f E 510 9 (fun n k => lncR f E n lenT alT n 0 k (fun _ => 0)) k).2.2.1) ∧ lnA h' 15 510 (treR f E 510 9 (fun n k => lncR f E n lenT alT n 0 k (fun _ => 0)) k).2.2.2 ∧ tsh h' 14 510 ∧ ((treR f E 510 9 (fun n k => lncR f E n lenT alT n 0 k (fun _ => 0)) k).1 = 0 → rdy h' 14 510 (treR f E 510 9 (fun n k => lncR f E n lenT alT n 0 k (fun _ => 0)) k).2.2.1 (treR f E 510 9 (fun n k => lncR f E n lenT alT n 0 k (fun _ => 0)) k).2.2.2)) := by
  refine am_Ci (by decide +kernel) rfl rfl ?_
  have hnl := num_lt f k 9
  have hnl2 := num_lt f (k + 9) 9
  have ht := hw.1
  have hln := hw.ln
  refine am_aload_n dX8_takeTree_0 rfl rfl ?_
  refine am_get f_X8_24 dX8_takeTree_1 rfl hu rfl ?_
  refine am_iload_n dX8_takeTree_4 rfl rfl ?_
  refine am_vr (t_X0_tree1 (d - 1) _ hac) k_X0_tree l_X8_28 dX8_takeTree_5 rfl rfl rfl rfl hac (by omega) (Nat.le_refl _) (Nat.le_refl _) (fun x h1 hx => ?_)
  obtain ⟨rfl, hh⟩ := hx
  obtain rfl := hh.symm
  refine am_astore_n dX8_takeTree_8 rfl rfl ?_
  refine am_aload_n dX8_takeTree_9 rfl rfl ?_
  refine am_get f_X8_14 dX8_takeTree_10 rfl hu rfl ?_
  refine am_iload_n dX8_takeTree_13 rfl rfl ?_
  refine am_vi (t_X2_take (d - 1) _ hs hr hta (by omega) (by decide) hk (by decide) (by decide) (b := 9) (by omega)) k_X2_take l_X8_79 dX8_takeTree_14 rfl rfl rfl rfl hs (by omega) (Nat.le_refl _) (Nat.le_refl _) (fun x h2 hx => ?_)
  obtain ⟨hx1, hx2⟩ := hx
  by_cases hE1 : k + 9 ≤ E
  · obtain ⟨rfl, e2⟩ := hx1 hE1
    have f2 : am_fr h h2 [31] := by rw [e2]; exact am_fr.rf.set (by simp)
    have k31 : h2 31 = some (bsO 1 E (k + 9)) := by rw [e2]; exact am_set_eq
    have hu2 := (f2 30 (by simp)).trans hu
    have hr2 := (f2 1 (by simp)).trans hr
    have hta2 := (f2 2 (by simp)).trans hta
    have ht2 := (f2 14 (by simp)).trans ht
    have hln2 := hln.at (h' := h2) (f2 15 (by simp))
    have hsh2 := hsh.at (h' := h2) (fun j a b => f2 j (by simp; omega))
    obtain ⟨lf, hl1, hl2⟩ := id hln2
    refine am_istore dX8_takeTree_17 rfl rfl ?_
    refine am_iload dX8_takeTree_19 rfl rfl ?_
    refine am_iconst (v := -1) dX8_takeTree_21 rfl (by decide +kernel) ?_
    refine am_icmp_ne 27 dX8_takeTree_22 rfl rfl (fun hc => ?_) (fun hc => ?_)
    · refine am_iload dX8_takeTree_27 rfl rfl ?_
      refine am_aload_n dX8_takeTree_29 rfl rfl ?_
      refine am_vi (t_X7_symbols (d - 1) _ ht2 hl1 (by omega)) k_X7_symbols l_X8_90 dX8_takeTree_30 rfl rfl rfl rfl ht2 (by omega) (Nat.le_refl _) (Nat.le_refl _) (fun x h1 hx => ?_)
      obtain ⟨rfl, hh⟩ := hx
      obtain rfl := hh.symm
      refine am_ncmp_le 38 dX8_takeTree_33 rfl rfl (by omega) (by omega) (fun hc => ?_) (fun hc => ?_)
      · refine am_iload dX8_takeTree_38 rfl rfl ?_
        refine am_nif_ne 50 dX8_takeTree_40 rfl rfl (by omega) (fun hc => ?_) (fun hc => ?_)
        · refine am_iload_n dX8_takeTree_50 rfl rfl ?_
          refine am_iconst (v := nI 1) dX8_takeTree_51 rfl (by decide +kernel) ?_
          refine am_ncmp_ne 64 dX8_takeTree_52 rfl rfl (by omega) (by omega) (fun hc => ?_) (fun hc => ?_)
          · omega
          · have hT2 := (f2 6 (by simp)).trans hT
            have hrT2 := hrT.at (h' := h2) (fun j a b => f2 j (by simp; omega))
            refine am_aload_n dX8_takeTree_55 rfl rfl ?_
            refine am_iload dX8_takeTree_56 rfl rfl ?_
            refine am_vi (t_X8_takeLengthsByT (d - 1) _ hu2 k31 hr2 hta2 hE hE1 hT2 hrT2 ht2 hln2 (by omega) (by omega)) k_X8_takeLengthsByT l_X8_99 dX8_takeTree_58 rfl rfl rfl rfl hu2 (by omega) (Nat.le_refl _) (Nat.le_refl _) (fun x h3 hx => ?_)
            obtain ⟨rfl, f3, m31, mE, hln3⟩ := hx
            have hlt := lncR_lt f E (num f k 9) lenT alT (num f k 9) 0 (k + 9) (fun _ => 0)
            obtain ⟨⟨fl, kp, ln⟩, eL⟩ : ∃ p, p = lncR f E (num f k 9) lenT alT (num f k 9) 0 (k + 9) (fun _ => 0) := ⟨_, rfl⟩
            rw [← eL] at m31 mE hln3 hlt ⊢
            dsimp only at m31 mE hln3 hlt ⊢
            have eR : (treR f E 510 9 (fun n k => lncR f E n lenT alT n 0 k (fun _ => 0)) k) = ((if fl = 0 then (if krf ln 510 = 65536 then 0 else 2) else fl), kp, -1, ln) := by
              unfold treR
              rw [if_neg (by omega), if_neg (by omega), if_neg (by omega)]
              simp only [← eL]
            have ht3 := (f3 14 (by simp)).trans ht2
            have hsh3 : tsh h3 14 510 := by
              obtain ⟨-, -, b2, b3, b4, b5, b6, b7⟩ := hsh2
              obtain ⟨lf3, q1, q2⟩ := hln3
              exact ⟨⟨_, ht3⟩, ⟨_, q1⟩, b2.at (f3 _ (by simp)), b3.at (f3 _ (by simp)), b4.at (f3 _ (by simp)), b5.at (f3 _ (by simp)), b6.at (f3 _ (by simp)), b7.at (f3 _ (by simp))⟩
            refine am_goto 80 dX8_takeTree_61 rfl rfl ?_
            refine am_istore dX8_takeTree_80 rfl rfl ?_
            refine am_iload dX8_takeTree_82 rfl rfl ?_
            refine am_nif_eq 90 dX8_takeTree_84 rfl rfl (by omega) (fun hc => ?_) (fun hc => ?_)
            · subst hc
              obtain ⟨-, -, ⟨c2, b2⟩, -, ⟨c4, b4⟩, ⟨c5, b5⟩, ⟨c6, b6⟩, ⟨c7, b7⟩⟩ := id hsh3
              obtain ⟨lf3, q1, q2⟩ := id hln3
              refine am_aload_n dX8_takeTree_90 rfl rfl ?_
              refine am_vi (t_X7_settle (d - 1) _ ht3 q1 (by omega) (by omega) (fun s hs => (q2 s hs).1) (fun s hs => (q2 s hs).2) b2 b4 b5 b6 b7 (by omega)) k_X7_settle l_X8_106 dX8_takeTree_91 rfl rfl rfl rfl ht3 (by omega) (Nat.le_refl _) (Nat.le_refl _) (fun x h4 hx => ?_)
              obtain ⟨rfl, f4, hst, c2, c4, c5, c6, c7, b2, b4, b5, b6, b7⟩ := hx
              have hsh4 : tsh h4 14 510 := by
                obtain ⟨-, -, -, b3, -⟩ := hsh3
                exact ⟨⟨_, (f4 14 (by simp)).trans ht3⟩, ⟨_, (f4 15 (by simp)).trans q1⟩, ⟨_, b2⟩, b3.at (f4 _ (by simp)), ⟨_, b4⟩, ⟨_, b5⟩, ⟨_, b6⟩, ⟨_, b7⟩⟩
              have hfr4 : am_fr h h4 [31, 14, 15, 16, 18, 19, 20, 21] := ((am_fr.rf.tr f2 (by simp)).tr f3 (by simp)).tr f4 (by simp)
              refine am_bif_eq 101 dX8_takeTree_94 rfl rfl (fun hk9 => ?_) (fun hk9 => ?_)
              · have hk9 : ¬ krf ln 510 = 65536 := by simpa using hk9
                refine am_iconst (v := nI 2) dX8_takeTree_101 rfl (by decide +kernel) ?_
                exact am_ri dX8_takeTree_102 rfl rfl rfl (by rw [eR, if_pos rfl, if_neg hk9]; exact ⟨rfl, (by show 2 < 7; omega), hfr4, (f4 31 (by simp)).trans m31, mE, (f4 14 (by simp)).trans ht3, hln3.at (f4 15 (by simp)), hsh4, fun g => (by cases g)⟩)
              · have hk9 : krf ln 510 = 65536 := by simpa using hk9
                refine am_iconst (v := nI 0) dX8_takeTree_97 rfl (by decide +kernel) ?_
                refine am_goto 102 dX8_takeTree_98 rfl rfl ?_
                exact am_ri dX8_takeTree_102 rfl rfl rfl (by rw [eR, if_pos rfl, if_pos hk9]; exact ⟨rfl, (by show 0 < 7; omega), hfr4, (f4 31 (by simp)).trans m31, mE, (f4 14 (by simp)).trans ht3, hln3.at (f4 15 (by simp)), hsh4, fun _ => rdy_stl (hst hk9) hk9 (fun s hs => (q2 s hs).2)⟩)
            · refine am_iload dX8_takeTree_87 rfl rfl ?_
              exact am_ri dX8_takeTree_89 rfl rfl rfl (by rw [eR, if_neg (by omega)]; exact ⟨rfl, hlt, (am_fr.rf.tr f2 (by simp)).tr f3 (by simp), m31, mE, ht3, hln3, hsh3, fun g => absurd g (by show ¬ fl = 0; omega)⟩)
        · refine am_aload_n dX8_takeTree_43 rfl rfl ?_
          refine am_aload_n dX8_takeTree_44 rfl rfl ?_
          refine am_iload_n dX8_takeTree_45 rfl rfl ?_
          refine am_vi (t_X8_takeAlone (d - 1) _ hu2 k31 hr2 hta2 hE hE1 ht2 hl1 (by omega) (fun j a b => by omega) (b := 9) (by omega) (by omega)) k_X8_takeAlone l_X8_95 dX8_takeTree_46 rfl rfl rfl rfl hu2 (by omega) (Nat.le_refl _) (Nat.le_refl _) (fun x h3 hx => ?_)
          obtain ⟨hx3, hx4, hx5⟩ := hx
          by_cases hE2 : k + 9 + 9 ≤ E
          · rcases Nat.lt_or_ge (num f (k + 9) 9) 510 with g | g
            · obtain ⟨rfl, e3⟩ := hx5 hE2 g
              have eR : (treR f E 510 9 (fun n k => lncR f E n lenT alT n 0 k (fun _ => 0)) k) = (0, k + 9 + 9, nI (num f (k + 9) 9), fun _ => 0) := by
                unfold treR
                rw [if_neg (by omega), if_neg (by omega), if_pos hc, if_neg (by omega), if_neg (by omega)]
              have f3 : am_fr h2 h3 [31, 14] := by rw [e3]; exact (am_fr.rf.set (by simp)).set (by simp)
              have m31 : h3 31 = some (bsO 1 E (k + 9 + 9)) := by rw [e3]; exact (am_set_ne (by decide)).trans am_set_eq
              have mt : h3 14 = some (trO 14 (nI (num f (k + 9) 9))) := by rw [e3]; exact am_set_eq
              have hsh3 : tsh h3 14 510 := by
                obtain ⟨-, b1, b2, b3, b4, b5, b6, b7⟩ := hsh2
                exact ⟨⟨_, mt⟩, b1.at (f3 _ (by simp)), b2.at (f3 _ (by simp)), b3.at (f3 _ (by simp)), b4.at (f3 _ (by simp)), b5.at (f3 _ (by simp)), b6.at (f3 _ (by simp)), b7.at (f3 _ (by simp))⟩
              exact am_ri dX8_takeTree_49 rfl rfl rfl (by rw [eR]; exact ⟨rfl, (by show 0 < 7; omega), (am_fr.rf.tr f2 (by simp)).tr f3 (by simp), m31, hE2, mt, hln2.at (f3 15 (by simp)), hsh3, fun _ => rdy_alone g (by omega)⟩)
            · obtain ⟨rfl, e3⟩ := hx4 hE2 g
              have eR : (treR f E 510 9 (fun n k => lncR f E n lenT alT n 0 k (fun _ => 0)) k) = (3, k + 9 + 9, -1, fun _ => 0) := by
                unfold treR
                rw [if_neg (by omega), if_neg (by omega), if_pos hc, if_neg (by omega), if_pos g]
              have f3 : am_fr h2 h3 [31] := by rw [e3]; exact am_fr.rf.set (by simp)
              have m31 : h3 31 = some (bsO 1 E (k + 9 + 9)) := by rw [e3]; exact am_set_eq
              exact am_ri dX8_takeTree_49 rfl rfl rfl (by rw [eR]; exact ⟨rfl, (by show 3 < 7; omega), (am_fr.rf.tr f2 (by simp)).tr f3 (by simp), m31, hE2, (f3 14 (by simp)).trans ht2, hln2.at (f3 15 (by simp)), hsh2.at (fun j a b => f3 j (by simp; omega)), fun g => (by cases g)⟩)
          · obtain ⟨rfl, e3⟩ := hx3 (by omega)
            have eR : (treR f E 510 9 (fun n k => lncR f E n lenT alT n 0 k (fun _ => 0)) k) = (1, E, -1, fun _ => 0) := by
              unfold treR
              rw [if_neg (by omega), if_neg (by omega), if_pos hc, if_pos (by omega)]
            have f3 : am_fr h2 h3 [31] := by rw [e3]; exact am_fr.rf.set (by simp)
            have m31 : h3 31 = some (bsO 1 E E) := by rw [e3]; exact am_set_eq
            exact am_ri dX8_takeTree_49 rfl rfl rfl (by rw [eR]; exact ⟨rfl, (by show 1 < 7; omega), (am_fr.rf.tr f2 (by simp)).tr f3 (by simp), m31, Nat.le_refl _, (f3 14 (by simp)).trans ht2, hln2.at (f3 15 (by simp)), hsh2.at (fun j a b => f3 j (by simp; omega)), fun g => (by cases g)⟩)
      · have eR : (treR f E 510 9 (fun n k => lncR f E n lenT alT n 0 k (fun _ => 0)) k) = (3, k + 9, -1, fun _ => 0) := by
          unfold treR
          rw [if_neg (by omega), if_pos hc]
        refine am_iconst (v := nI 3) dX8_takeTree_36 rfl (by decide +kernel) ?_
        exact am_ri dX8_takeTree_37 rfl rfl rfl (by rw [eR]; exact ⟨rfl, (by show 3 < 7; omega), am_fr.rf.tr f2 (by simp), k31, hE1, ht2, hln2, hsh2, fun g => (by cases g)⟩)
    · exact absurd hc (am_nm1 (by omega))
  · obtain ⟨rfl, e2⟩ := hx2 (by omega)
    have f2 : am_fr h h2 [31] := by rw [e2]; exact am_fr.rf.set (by simp)
    have k31 : h2 31 = some (bsO 1 E E) := by rw [e2]; exact am_set_eq
    have eR : (treR f E 510 9 (fun n k => lncR f E n lenT alT n 0 k (fun _ => 0)) k) = (1, E, -1, fun _ => 0) := by
      unfold treR
      rw [if_pos (by omega)]
    refine am_istore dX8_takeTree_17 rfl rfl ?_
    refine am_iload dX8_takeTree_19 rfl rfl ?_
    refine am_iconst (v := -1) dX8_takeTree_21 rfl (by decide +kernel) ?_
    refine am_icmp_ne 27 dX8_takeTree_22 rfl rfl (fun hc => ?_) (fun hc => ?_)
    · exact absurd rfl hc
    · refine am_iconst (v := nI 1) dX8_takeTree_25 rfl (by decide +kernel) ?_
      exact am_ri dX8_takeTree_26 rfl rfl rfl (by rw [eR]; exact ⟨rfl, (by show 1 < 7; omega), am_fr.rf.tr f2 (by simp), k31, Nat.le_refl _, (f2 14 (by simp)).trans ht, hln.at (f2 15 (by simp)), hsh.at (fun j a b => f2 j (by simp; omega)), fun g => (by cases g)⟩)
set_option maxHeartbeats 4000000 in
set_option maxRecDepth 100000 in
theorem t_X8_takeTree2 (d n0 : Nat) {h : am_H} {wa : Nat} (hu : h 30 = some (unO wa)) {op : Bool} {bl co cp bi : Nat} (hac : h 5 = some (acO op bl co cp bi)) {E k c : Nat} {f : Nat → Int32} (hs : h 31 = some (bsO 1 E k)) (hr : h 1 = some (rwO 2 c)) (hta : h 2 = some (.inl (false, 4000, f))) (hE : E ≤ 32000) (hk : k ≤ E) (hw : wpd h 22 14) (hsh : tsh h 22 14) (hd : 4 ≤ d) : am_Ct l D dA m_X8_takeTree d 0 0 n0 [am_r 30, .inl (nI 2), .inl (nI 4)] h (am_qi fun x h' => x = nI (treR f E 14 4 (fun n k => lnsR f E false n n 0 k (fun _ => 0)) k).1 ∧ (treR f E 14 4 (fun n k => lnsR f E false n n 0 k (fun _ => 0)) k).1 < 7 ∧ am_fr h h' [31, 22, 23, 24, 26, 27, 28, 29] ∧ h' 31 = some (bsO 1 E (treR f E 14 4 (fun n k => lnsR f E false n n 0 k (fun _ => 0)) k).2.1) ∧ (treR f E 14 4 (fun n k => lnsR f E false n n 0 k (fun _ => 0)) k).2.1 ≤ E ∧ h' 22 = some (trO 22 (treR f E 14 4 (fun n k => lnsR f E false n n 0 k (fun _ => 0)) k).2.2.1) ∧ lnA h' 23 14 (treR f E 14 4 (fun n k => lnsR f E false n n 0 k (fun _ => 0)) k).2.2.2 ∧ tsh h' 22 14 ∧ ((treR f E 14 4 (fun n k => lnsR f E false n n 0 k (fun _ => 0)) k).1 = 0 → rdy h' 22 14 (treR f E 14 4 (fun n k => lnsR f E false n n 0 k (fun _ => 0)) k).2.2.1 (treR f E 14 4 (fun n k => lnsR f E false n n 0 k (fun _ => 0)) k).2.2.2)) := by
  refine am_Ci (by decide +kernel) rfl rfl ?_
  have hnl := num_lt f k 4
  have hnl2 := num_lt f (k + 4) 4
  have ht := hw.1
  have hln := hw.ln
  refine am_aload_n dX8_takeTree_0 rfl rfl ?_
  refine am_get f_X8_24 dX8_takeTree_1 rfl hu rfl ?_
  refine am_iload_n dX8_takeTree_4 rfl rfl ?_
  refine am_vr (t_X0_tree2 (d - 1) _ hac) k_X0_tree l_X8_28 dX8_takeTree_5 rfl rfl rfl rfl hac (by omega) (Nat.le_refl _) (Nat.le_refl _) (fun x h1 hx => ?_)
  obtain ⟨rfl, hh⟩ := hx
  obtain rfl := hh.symm
  refine am_astore_n dX8_takeTree_8 rfl rfl ?_
  refine am_aload_n dX8_takeTree_9 rfl rfl ?_
  refine am_get f_X8_14 dX8_takeTree_10 rfl hu rfl ?_
  refine am_iload_n dX8_takeTree_13 rfl rfl ?_
  refine am_vi (t_X2_take (d - 1) _ hs hr hta (by omega) (by decide) hk (by decide) (by decide) (b := 4) (by omega)) k_X2_take l_X8_79 dX8_takeTree_14 rfl rfl rfl rfl hs (by omega) (Nat.le_refl _) (Nat.le_refl _) (fun x h2 hx => ?_)
  obtain ⟨hx1, hx2⟩ := hx
  by_cases hE1 : k + 4 ≤ E
  · obtain ⟨rfl, e2⟩ := hx1 hE1
    have f2 : am_fr h h2 [31] := by rw [e2]; exact am_fr.rf.set (by simp)
    have k31 : h2 31 = some (bsO 1 E (k + 4)) := by rw [e2]; exact am_set_eq
    have hu2 := (f2 30 (by simp)).trans hu
    have hr2 := (f2 1 (by simp)).trans hr
    have hta2 := (f2 2 (by simp)).trans hta
    have ht2 := (f2 22 (by simp)).trans ht
    have hln2 := hln.at (h' := h2) (f2 23 (by simp))
    have hsh2 := hsh.at (h' := h2) (fun j a b => f2 j (by simp; omega))
    obtain ⟨lf, hl1, hl2⟩ := id hln2
    refine am_istore dX8_takeTree_17 rfl rfl ?_
    refine am_iload dX8_takeTree_19 rfl rfl ?_
    refine am_iconst (v := -1) dX8_takeTree_21 rfl (by decide +kernel) ?_
    refine am_icmp_ne 27 dX8_takeTree_22 rfl rfl (fun hc => ?_) (fun hc => ?_)
    · refine am_iload dX8_takeTree_27 rfl rfl ?_
      refine am_aload_n dX8_takeTree_29 rfl rfl ?_
      refine am_vi (t_X7_symbols (d - 1) _ ht2 hl1 (by omega)) k_X7_symbols l_X8_90 dX8_takeTree_30 rfl rfl rfl rfl ht2 (by omega) (Nat.le_refl _) (Nat.le_refl _) (fun x h1 hx => ?_)
      obtain ⟨rfl, hh⟩ := hx
      obtain rfl := hh.symm
      refine am_ncmp_le 38 dX8_takeTree_33 rfl rfl (by omega) (by omega) (fun hc => ?_) (fun hc => ?_)
      · refine am_iload dX8_takeTree_38 rfl rfl ?_
        refine am_nif_ne 50 dX8_takeTree_40 rfl rfl (by omega) (fun hc => ?_) (fun hc => ?_)
        · refine am_iload_n dX8_takeTree_50 rfl rfl ?_
          refine am_iconst (v := nI 1) dX8_takeTree_51 rfl (by decide +kernel) ?_
          refine am_ncmp_ne 64 dX8_takeTree_52 rfl rfl (by omega) (by omega) (fun hc => ?_) (fun hc => ?_)
          · refine am_aload_n dX8_takeTree_64 rfl rfl ?_
            refine am_aload_n dX8_takeTree_65 rfl rfl ?_
            refine am_iload dX8_takeTree_66 rfl rfl ?_
            refine am_iload_n dX8_takeTree_68 rfl rfl ?_
            refine am_nif_ne 76 dX8_takeTree_69 rfl rfl (by omega) (fun hc => ?_) (fun hc => ?_)
            · refine am_iconst (v := nI 0) dX8_takeTree_76 rfl (by decide +kernel) ?_
              rw [show nI 0 = am_bz false from rfl]
              refine am_vi (t_X8_takeLengths (d - 1) _ hu2 k31 hr2 hta2 hE hE1 ht2 hln2 (by omega) (fun j a b => by omega) (gp := false) (by omega) (by omega)) k_X8_takeLengths l_X8_102 dX8_takeTree_77 rfl rfl rfl rfl hu2 (by omega) (Nat.le_refl _) (Nat.le_refl _) (fun x h3 hx => ?_)
              obtain ⟨rfl, f3, m31, mE, hln3⟩ := hx
              have hlt := lnsR_lt f E false (num f k 4) (num f k 4) 0 (k + 4) (fun _ => 0)
              obtain ⟨⟨fl, kp, ln⟩, eL⟩ : ∃ p, p = lnsR f E false (num f k 4) (num f k 4) 0 (k + 4) (fun _ => 0) := ⟨_, rfl⟩
              rw [← eL] at m31 mE hln3 hlt ⊢
              dsimp only at m31 mE hln3 hlt ⊢
              have eR : (treR f E 14 4 (fun n k => lnsR f E false n n 0 k (fun _ => 0)) k) = ((if fl = 0 then (if krf ln 14 = 65536 then 0 else 2) else fl), kp, -1, ln) := by
                unfold treR
                rw [if_neg (by omega), if_neg (by omega), if_neg (by omega)]
                simp only [← eL]
              have ht3 := (f3 22 (by simp)).trans ht2
              have hsh3 : tsh h3 22 14 := by
                obtain ⟨-, -, b2, b3, b4, b5, b6, b7⟩ := hsh2
                obtain ⟨lf3, q1, q2⟩ := hln3
                exact ⟨⟨_, ht3⟩, ⟨_, q1⟩, b2.at (f3 _ (by simp)), b3.at (f3 _ (by simp)), b4.at (f3 _ (by simp)), b5.at (f3 _ (by simp)), b6.at (f3 _ (by simp)), b7.at (f3 _ (by simp))⟩
              refine am_istore dX8_takeTree_80 rfl rfl ?_
              refine am_iload dX8_takeTree_82 rfl rfl ?_
              refine am_nif_eq 90 dX8_takeTree_84 rfl rfl (by omega) (fun hc => ?_) (fun hc => ?_)
              · subst hc
                obtain ⟨-, -, ⟨c2, b2⟩, -, ⟨c4, b4⟩, ⟨c5, b5⟩, ⟨c6, b6⟩, ⟨c7, b7⟩⟩ := id hsh3
                obtain ⟨lf3, q1, q2⟩ := id hln3
                refine am_aload_n dX8_takeTree_90 rfl rfl ?_
                refine am_vi (t_X7_settle (d - 1) _ ht3 q1 (by omega) (by omega) (fun s hs => (q2 s hs).1) (fun s hs => (q2 s hs).2) b2 b4 b5 b6 b7 (by omega)) k_X7_settle l_X8_106 dX8_takeTree_91 rfl rfl rfl rfl ht3 (by omega) (Nat.le_refl _) (Nat.le_refl _) (fun x h4 hx => ?_)
                obtain ⟨rfl, f4, hst, c2, c4, c5, c6, c7, b2, b4, b5, b6, b7⟩ := hx
                have hsh4 : tsh h4 22 14 := by
                  obtain ⟨-, -, -, b3, -⟩ := hsh3
                  exact ⟨⟨_, (f4 22 (by simp)).trans ht3⟩, ⟨_, (f4 23 (by simp)).trans q1⟩, ⟨_, b2⟩, b3.at (f4 _ (by simp)), ⟨_, b4⟩, ⟨_, b5⟩, ⟨_, b6⟩, ⟨_, b7⟩⟩
                have hfr4 : am_fr h h4 [31, 22, 23, 24, 26, 27, 28, 29] := ((am_fr.rf.tr f2 (by simp)).tr f3 (by simp)).tr f4 (by simp)
                refine am_bif_eq 101 dX8_takeTree_94 rfl rfl (fun hk9 => ?_) (fun hk9 => ?_)
                · have hk9 : ¬ krf ln 14 = 65536 := by simpa using hk9
                  refine am_iconst (v := nI 2) dX8_takeTree_101 rfl (by decide +kernel) ?_
                  exact am_ri dX8_takeTree_102 rfl rfl rfl (by rw [eR, if_pos rfl, if_neg hk9]; exact ⟨rfl, (by show 2 < 7; omega), hfr4, (f4 31 (by simp)).trans m31, mE, (f4 22 (by simp)).trans ht3, hln3.at (f4 23 (by simp)), hsh4, fun g => (by cases g)⟩)
                · have hk9 : krf ln 14 = 65536 := by simpa using hk9
                  refine am_iconst (v := nI 0) dX8_takeTree_97 rfl (by decide +kernel) ?_
                  refine am_goto 102 dX8_takeTree_98 rfl rfl ?_
                  exact am_ri dX8_takeTree_102 rfl rfl rfl (by rw [eR, if_pos rfl, if_pos hk9]; exact ⟨rfl, (by show 0 < 7; omega), hfr4, (f4 31 (by simp)).trans m31, mE, (f4 22 (by simp)).trans ht3, hln3.at (f4 23 (by simp)), hsh4, fun _ => rdy_stl (hst hk9) hk9 (fun s hs => (q2 s hs).2)⟩)
              · refine am_iload dX8_takeTree_87 rfl rfl ?_
                exact am_ri dX8_takeTree_89 rfl rfl rfl (by rw [eR, if_neg (by omega)]; exact ⟨rfl, hlt, (am_fr.rf.tr f2 (by simp)).tr f3 (by simp), m31, mE, ht3, hln3, hsh3, fun g => absurd g (by show ¬ fl = 0; omega)⟩)
            · omega
          · omega
        · refine am_aload_n dX8_takeTree_43 rfl rfl ?_
          refine am_aload_n dX8_takeTree_44 rfl rfl ?_
          refine am_iload_n dX8_takeTree_45 rfl rfl ?_
          refine am_vi (t_X8_takeAlone (d - 1) _ hu2 k31 hr2 hta2 hE hE1 ht2 hl1 (by omega) (fun j a b => by omega) (b := 4) (by omega) (by omega)) k_X8_takeAlone l_X8_95 dX8_takeTree_46 rfl rfl rfl rfl hu2 (by omega) (Nat.le_refl _) (Nat.le_refl _) (fun x h3 hx => ?_)
          obtain ⟨hx3, hx4, hx5⟩ := hx
          by_cases hE2 : k + 4 + 4 ≤ E
          · rcases Nat.lt_or_ge (num f (k + 4) 4) 14 with g | g
            · obtain ⟨rfl, e3⟩ := hx5 hE2 g
              have eR : (treR f E 14 4 (fun n k => lnsR f E false n n 0 k (fun _ => 0)) k) = (0, k + 4 + 4, nI (num f (k + 4) 4), fun _ => 0) := by
                unfold treR
                rw [if_neg (by omega), if_neg (by omega), if_pos hc, if_neg (by omega), if_neg (by omega)]
              have f3 : am_fr h2 h3 [31, 22] := by rw [e3]; exact (am_fr.rf.set (by simp)).set (by simp)
              have m31 : h3 31 = some (bsO 1 E (k + 4 + 4)) := by rw [e3]; exact (am_set_ne (by decide)).trans am_set_eq
              have mt : h3 22 = some (trO 22 (nI (num f (k + 4) 4))) := by rw [e3]; exact am_set_eq
              have hsh3 : tsh h3 22 14 := by
                obtain ⟨-, b1, b2, b3, b4, b5, b6, b7⟩ := hsh2
                exact ⟨⟨_, mt⟩, b1.at (f3 _ (by simp)), b2.at (f3 _ (by simp)), b3.at (f3 _ (by simp)), b4.at (f3 _ (by simp)), b5.at (f3 _ (by simp)), b6.at (f3 _ (by simp)), b7.at (f3 _ (by simp))⟩
              exact am_ri dX8_takeTree_49 rfl rfl rfl (by rw [eR]; exact ⟨rfl, (by show 0 < 7; omega), (am_fr.rf.tr f2 (by simp)).tr f3 (by simp), m31, hE2, mt, hln2.at (f3 23 (by simp)), hsh3, fun _ => rdy_alone g (by omega)⟩)
            · obtain ⟨rfl, e3⟩ := hx4 hE2 g
              have eR : (treR f E 14 4 (fun n k => lnsR f E false n n 0 k (fun _ => 0)) k) = (3, k + 4 + 4, -1, fun _ => 0) := by
                unfold treR
                rw [if_neg (by omega), if_neg (by omega), if_pos hc, if_neg (by omega), if_pos g]
              have f3 : am_fr h2 h3 [31] := by rw [e3]; exact am_fr.rf.set (by simp)
              have m31 : h3 31 = some (bsO 1 E (k + 4 + 4)) := by rw [e3]; exact am_set_eq
              exact am_ri dX8_takeTree_49 rfl rfl rfl (by rw [eR]; exact ⟨rfl, (by show 3 < 7; omega), (am_fr.rf.tr f2 (by simp)).tr f3 (by simp), m31, hE2, (f3 22 (by simp)).trans ht2, hln2.at (f3 23 (by simp)), hsh2.at (fun j a b => f3 j (by simp; omega)), fun g => (by cases g)⟩)
          · obtain ⟨rfl, e3⟩ := hx3 (by omega)
            have eR : (treR f E 14 4 (fun n k => lnsR f E false n n 0 k (fun _ => 0)) k) = (1, E, -1, fun _ => 0) := by
              unfold treR
              rw [if_neg (by omega), if_neg (by omega), if_pos hc, if_pos (by omega)]
            have f3 : am_fr h2 h3 [31] := by rw [e3]; exact am_fr.rf.set (by simp)
            have m31 : h3 31 = some (bsO 1 E E) := by rw [e3]; exact am_set_eq
            exact am_ri dX8_takeTree_49 rfl rfl rfl (by rw [eR]; exact ⟨rfl, (by show 1 < 7; omega), (am_fr.rf.tr f2 (by simp)).tr f3 (by simp), m31, Nat.le_refl _, (f3 22 (by simp)).trans ht2, hln2.at (f3 23 (by simp)), hsh2.at (fun j a b => f3 j (by simp; omega)), fun g => (by cases g)⟩)
      · have eR : (treR f E 14 4 (fun n k => lnsR f E false n n 0 k (fun _ => 0)) k) = (3, k + 4, -1, fun _ => 0) := by
          unfold treR
          rw [if_neg (by omega), if_pos hc]
        refine am_iconst (v := nI 3) dX8_takeTree_36 rfl (by decide +kernel) ?_
        exact am_ri dX8_takeTree_37 rfl rfl rfl (by rw [eR]; exact ⟨rfl, (by show 3 < 7; omega), am_fr.rf.tr f2 (by simp), k31, hE1, ht2, hln2, hsh2, fun g => (by cases g)⟩)
    · exact absurd hc (am_nm1 (by omega))
  · obtain ⟨rfl, e2⟩ := hx2 (by omega)
    have f2 : am_fr h h2 [31] := by rw [e2]; exact am_fr.rf.set (by simp)
    have k31 : h2 31 = some (bsO 1 E E) := by rw [e2]; exact am_set_eq
    have eR : (treR f E 14 4 (fun n k => lnsR f E false n n 0 k (fun _ => 0)) k) = (1, E, -1, fun _ => 0) := by
      unfold treR
      rw [if_pos (by omega)]
    refine am_istore dX8_takeTree_17 rfl rfl ?_
    refine am_iload dX8_takeTree_19 rfl rfl ?_
    refine am_iconst (v := -1) dX8_takeTree_21 rfl (by decide +kernel) ?_
    refine am_icmp_ne 27 dX8_takeTree_22 rfl rfl (fun hc => ?_) (fun hc => ?_)
    · exact absurd rfl hc
    · refine am_iconst (v := nI 1) dX8_takeTree_25 rfl (by decide +kernel) ?_
      exact am_ri dX8_takeTree_26 rfl rfl rfl (by rw [eR]; exact ⟨rfl, (by show 1 < 7; omega), am_fr.rf.tr f2 (by simp), k31, Nat.le_refl _, (f2 22 (by simp)).trans ht, hln.at (f2 23 (by simp)), hsh.at (fun j a b => f2 j (by simp; omega)), fun g => (by cases g)⟩)
end UNP4
end
section
/-! ===== what reading is: codes, a block, all blocks ===== -/
abbrev l3 : Type := (Nat → Nat) × (Nat → Nat) × (Nat → Nat)
def zN : Nat → Nat := fun _ => 0
noncomputable def cdsR (lenC : Nat → Nat) (alC : Int32) (lenP : Nat → Nat) (alP : Int32) (f : Nat → Int32) (E wa : Nat) : Nat → Nat → List Int32 → Nat → Nat → Nat × Nat × List Int32 × Nat × Nat
  | 0, k, bs, co, cp => (0, k, bs, co, cp)
  | q + 1, k, bs, co, cp => if wa ≤ bs.length then (0, k, bs, co, cp) else if (oneR lenC alC lenP alP f E wa k bs co cp).1 = 0 then cdsR lenC alC lenP alP f E wa q (oneR lenC alC lenP alP f E wa k bs co cp).2.1 (oneR lenC alC lenP alP f E wa k bs co cp).2.2.1 (oneR lenC alC lenP alP f E wa k bs co cp).2.2.2.1 (oneR lenC alC lenP alP f E wa k bs co cp).2.2.2.2 else oneR lenC alC lenP alP f E wa k bs co cp
noncomputable def tTR (f : Nat → Int32) (E k : Nat) : Nat × Nat × Int32 × (Nat → Nat) := treR f E 19 5 (fun n k => lnsR f E true n n 0 k (fun _ => 0)) k
noncomputable def tCR (f : Nat → Int32) (E : Nat) (lenT : Nat → Nat) (alT : Int32) (k : Nat) : Nat × Nat × Int32 × (Nat → Nat) := treR f E 510 9 (fun n k => lncR f E n lenT alT n 0 k (fun _ => 0)) k
noncomputable def tPR (f : Nat → Int32) (E k : Nat) : Nat × Nat × Int32 × (Nat → Nat) := treR f E 14 4 (fun n k => lnsR f E false n n 0 k (fun _ => 0)) k
noncomputable def blkR (f : Nat → Int32) (E wa k : Nat) (bs : List Int32) (co cp : Nat) : (Nat × Nat × List Int32 × Nat × Nat) × l3 :=
  if E < k + 16 then ((1, E, bs, co, cp), (zN, zN, zN))
  else if num f k 16 = 0 then ((6, k + 16, bs, co, cp), (zN, zN, zN))
  else if (tTR f E (k + 16)).1 ≠ 0 then (((tTR f E (k + 16)).1, (tTR f E (k + 16)).2.1, bs, co, cp), ((tTR f E (k + 16)).2.2.2, zN, zN))
  else if (tCR f E (tTR f E (k + 16)).2.2.2 (tTR f E (k + 16)).2.2.1 (tTR f E (k + 16)).2.1).1 ≠ 0 then (((tCR f E (tTR f E (k + 16)).2.2.2 (tTR f E (k + 16)).2.2.1 (tTR f E (k + 16)).2.1).1, (tCR f E (tTR f E (k + 16)).2.2.2 (tTR f E (k + 16)).2.2.1 (tTR f E (k + 16)).2.1).2.1, bs, co, cp), ((tTR f E (k + 16)).2.2.2, (tCR f E (tTR f E (k + 16)).2.2.2 (tTR f E (k + 16)).2.2.1 (tTR f E (k + 16)).2.1).2.2.2, zN))
  else if (tPR f E (tCR f E (tTR f E (k + 16)).2.2.2 (tTR f E (k + 16)).2.2.1 (tTR f E (k + 16)).2.1).2.1).1 ≠ 0 then (((tPR f E (tCR f E (tTR f E (k + 16)).2.2.2 (tTR f E (k + 16)).2.2.1 (tTR f E (k + 16)).2.1).2.1).1, (tPR f E (tCR f E (tTR f E (k + 16)).2.2.2 (tTR f E (k + 16)).2.2.1 (tTR f E (k + 16)).2.1).2.1).2.1, bs, co, cp), ((tTR f E (k + 16)).2.2.2, (tCR f E (tTR f E (k + 16)).2.2.2 (tTR f E (k + 16)).2.2.1 (tTR f E (k + 16)).2.1).2.2.2, (tPR f E (tCR f E (tTR f E (k + 16)).2.2.2 (tTR f E (k + 16)).2.2.1 (tTR f E (k + 16)).2.1).2.1).2.2.2))
  else (cdsR (tCR f E (tTR f E (k + 16)).2.2.2 (tTR f E (k + 16)).2.2.1 (tTR f E (k + 16)).2.1).2.2.2 (tCR f E (tTR f E (k + 16)).2.2.2 (tTR f E (k + 16)).2.2.1 (tTR f E (k + 16)).2.1).2.2.1 (tPR f E (tCR f E (tTR f E (k + 16)).2.2.2 (tTR f E (k + 16)).2.2.1 (tTR f E (k + 16)).2.1).2.1).2.2.2 (tPR f E (tCR f E (tTR f E (k + 16)).2.2.2 (tTR f E (k + 16)).2.2.1 (tTR f E (k + 16)).2.1).2.1).2.2.1 f E wa (num f k 16) (tPR f E (tCR f E (tTR f E (k + 16)).2.2.2 (tTR f E (k + 16)).2.2.1 (tTR f E (k + 16)).2.1).2.1).2.1 bs co cp, ((tTR f E (k + 16)).2.2.2, (tCR f E (tTR f E (k + 16)).2.2.2 (tTR f E (k + 16)).2.2.1 (tTR f E (k + 16)).2.1).2.2.2, (tPR f E (tCR f E (tTR f E (k + 16)).2.2.2 (tTR f E (k + 16)).2.2.1 (tTR f E (k + 16)).2.1).2.1).2.2.2))
noncomputable def unpR (f : Nat → Int32) (E wa : Nat) : Nat → Nat → List Int32 → Nat → Nat → Nat → l3 → (Nat × Nat × List Int32 × Nat × Nat) × Nat × l3
  | 0, k, bs, co, cp, bl, ls => ((0, k, bs, co, cp), bl, ls)
  | q + 1, k, bs, co, cp, bl, ls => if wa ≤ bs.length then ((0, k, bs, co, cp), bl, ls) else if (blkR f E wa k bs co cp).1.1 = 0 then unpR f E wa q (blkR f E wa k bs co cp).1.2.1 (blkR f E wa k bs co cp).1.2.2.1 (blkR f E wa k bs co cp).1.2.2.2.1 (blkR f E wa k bs co cp).1.2.2.2.2 (bl + 1) (blkR f E wa k bs co cp).2 else ((blkR f E wa k bs co cp).1, bl + 1, (blkR f E wa k bs co cp).2)
theorem oneR_lt (lenC : Nat → Nat) (alC : Int32) (lenP : Nat → Nat) (alP : Int32) (f : Nat → Int32) (E wa k : Nat) (bs : List Int32) (co cp : Nat) : (oneR lenC alC lenP alP f E wa k bs co cp).1 < 7 := by
  unfold oneR
  split
  · show 1 < 7; omega
  · split
    · show 0 < 7; omega
    · split
      · show 1 < 7; omega
      · split
        · show 4 < 7; omega
        · dsimp only
          split <;> omega
/-- a block's cells beside the rows of bytes -/
abbrev frU : List Nat := [3, 4, 5, 31, 6, 7, 8, 9, 10, 11, 12, 13, 14, 15, 16, 17, 18, 19, 20, 21, 22, 23, 24, 25, 26, 27, 28, 29]
theorem frU_not {j : Nat} (h : j ∉ frU) : (j < 3 ∨ 29 < j) ∧ j ≠ 31 := by
  simp only [frU, List.mem_cons, List.not_mem_nil, or_false, not_or] at h
  omega
theorem frU_in {j : Nat} (h : (3 ≤ j ∧ j ≤ 29) ∨ j = 31) : j ∈ frU := by
  simp only [frU, List.mem_cons, List.not_mem_nil, or_false]
  omega
end
section
/-! ===== Unpacker: a block, all blocks ===== -/
section UNP5
variable {l : Launch} {D : va_G} {dA : Bool → ClassId}
/-- the reading world behind a block or all of them -/
def bhd (h h' : am_H) (E wa : Nat) (op : Bool) (bl bi : Nat) (r : Nat × Nat × List Int32 × Nat × Nat) (ls : l3) : Prop := am_fr h h' frU ∧ h' 31 = some (bsO 1 E r.2.1) ∧ r.2.1 ≤ E ∧ rws h' 3 4 12000 r.2.2.1 ∧ r.2.2.1.length ≤ wa ∧ h' 5 = some (acO op bl r.2.2.2.1 r.2.2.2.2 bi) ∧ (tsh h' 6 19 ∧ tsh h' 14 510 ∧ tsh h' 22 14) ∧ lnA h' 7 19 ls.1 ∧ lnA h' 15 510 ls.2.1 ∧ lnA h' 23 14 ls.2.2
set_option maxHeartbeats 4000000 in
set_option maxRecDepth 100000 in
theorem t_X8_unpackBlock (d n0 : Nat) {h : am_H} {wa : Nat} (hu : h 30 = some (unO wa)) {bs : List Int32} (hp : rws h 3 4 12000 bs) {op : Bool} {bl co cp bi : Nat} (hac : h 5 = some (acO op bl co cp bi)) {E k c : Nat} {f : Nat → Int32} (hs : h 31 = some (bsO 1 E k)) (hr : h 1 = some (rwO 2 c)) (hta : h 2 = some (.inl (false, 4000, f))) (hE : E ≤ 32000) (hk : k ≤ E) (hT : tsh h 6 19) (hC : tsh h 14 510) (hP : tsh h 22 14) (hwa : wa ≤ 8000) (hbl : bs.length < wa) (hd : 5 ≤ d) : am_Ct l D dA m_X8_unpackBlock d 0 0 n0 [am_r 30] h (am_qi fun x h' => x = nI (blkR f E wa k bs co cp).1.1 ∧ (blkR f E wa k bs co cp).1.1 < 7 ∧ bhd h h' E wa op (bl + 1) bi (blkR f E wa k bs co cp).1 (blkR f E wa k bs co cp).2) := by
  refine am_Ci (by decide +kernel) rfl rfl ?_
  have hnl := num_lt f k 16
  refine am_aload_n dX8_unpackBlock_0 rfl rfl ?_
  refine am_get f_X8_24 dX8_unpackBlock_1 rfl hu rfl ?_
  refine am_vv (t_X0_beginBlock (d - 1) _ hac hT hC hP (by omega)) k_X0_beginBlock l_X8_76 dX8_unpackBlock_4 rfl rfl rfl rfl hac (by omega) (Nat.le_refl _) (Nat.le_refl _) (fun h1 hx => ?_)
  obtain ⟨f1, a1, ⟨wT1, sT1⟩, ⟨wC1, sC1⟩, wP1, sP1⟩ := hx
  have hu1 := (f1 30 (by simp)).trans hu
  have hp1 := hp.at (h' := h1) (f1 3 (by simp)) (f1 4 (by simp))
  have hs1 := (f1 31 (by simp)).trans hs
  have hr1 := (f1 1 (by simp)).trans hr
  have hta1 := (f1 2 (by simp)).trans hta
  have F1 : am_fr h h1 frU := fun j hj => f1 j (by have := frU_not hj; simp; omega)
  refine am_aload_n dX8_unpackBlock_7 rfl rfl ?_
  refine am_get f_X8_14 dX8_unpackBlock_8 rfl hu1 rfl ?_
  refine am_bipush (v := nI 16) dX8_unpackBlock_11 rfl (by decide +kernel) ?_
  refine am_vi (t_X2_take (d - 1) _ hs1 hr1 hta1 (by omega) (by decide) hk (by decide) (by decide) (b := 16) (by omega)) k_X2_take l_X8_79 dX8_unpackBlock_13 rfl rfl rfl rfl hs1 (by omega) (Nat.le_refl _) (Nat.le_refl _) (fun x h2 hx => ?_)
  obtain ⟨hx1, hx2⟩ := hx
  by_cases hE1 : k + 16 ≤ E
  · obtain ⟨rfl, e2⟩ := hx1 hE1
    have f2 : am_fr h1 h2 [31] := by rw [e2]; exact am_fr.rf.set (by simp)
    have s2 : h2 31 = some (bsO 1 E (k + 16)) := by rw [e2]; exact am_set_eq
    have hu2 := (f2 30 (by simp)).trans hu1
    have hp2 := hp1.at (h' := h2) (f2 3 (by simp)) (f2 4 (by simp))
    have hr2 := (f2 1 (by simp)).trans hr1
    have hta2 := (f2 2 (by simp)).trans hta1
    have a2 := (f2 5 (by simp)).trans a1
    have wT2 := wT1.at (h' := h2) (fun j a b => f2 j (by simp; omega))
    have wC2 := wC1.at (h' := h2) (fun j a b => f2 j (by simp; omega))
    have wP2 := wP1.at (h' := h2) (fun j a b => f2 j (by simp; omega))
    have sT2 := sT1.at (h' := h2) (fun j a b => f2 j (by simp; omega))
    have sC2 := sC1.at (h' := h2) (fun j a b => f2 j (by simp; omega))
    have sP2 := sP1.at (h' := h2) (fun j a b => f2 j (by simp; omega))
    have F2 : am_fr h h2 frU := F1.tr f2 (fun j hj => frU_in (by simp at hj; omega))
    refine am_istore_n dX8_unpackBlock_16 rfl rfl ?_
    refine am_iload_n dX8_unpackBlock_17 rfl rfl ?_
    refine am_iconst (v := -1) dX8_unpackBlock_18 rfl (by decide +kernel) ?_
    refine am_icmp_ne 24 dX8_unpackBlock_19 rfl rfl (fun hc => ?_) (fun hc => ?_)
    · refine am_iload_n dX8_unpackBlock_24 rfl rfl ?_
      refine am_nif_ne 31 dX8_unpackBlock_25 rfl rfl (by omega) (fun hc => ?_) (fun hc => ?_)
      · have fault : ∀ (i fl : Nat) (H : am_H), 0 < fl → fl < 7 → i ≤ num f k 16 → (nI fl = nI (blkR f E wa k bs co cp).1.1 ∧ (blkR f E wa k bs co cp).1.1 < 7 ∧ bhd h H E wa op (bl + 1) bi (blkR f E wa k bs co cp).1 (blkR f E wa k bs co cp).2) → am_At l D dA m_X8_unpackBlock d 0 0 0 0 n0 none (am_qi fun x h' => x = nI (blkR f E wa k bs co cp).1.1 ∧ (blkR f E wa k bs co cp).1.1 < 7 ∧ bhd h h' E wa op (bl + 1) bi (blkR f E wa k bs co cp).1 (blkR f E wa k bs co cp).2) 0 0 63 [some (am_r 30), some (.inl (nI (num f k 16))), some (.inl (nI fl)), some (.inl (nI i))] [] H := by
          intro i fl H h0 h7 hi hq
          refine am_iload_n dX8_unpackBlock_63 rfl rfl ?_
          refine am_iload_n dX8_unpackBlock_64 rfl rfl ?_
          refine am_ncmp_ge 90 dX8_unpackBlock_65 rfl rfl (by omega) (by omega) (fun hc => ?_) (fun hc => ?_)
          · refine am_iload_n dX8_unpackBlock_90 rfl rfl ?_
            exact am_ri dX8_unpackBlock_91 rfl rfl rfl hq
          · refine am_iload_n dX8_unpackBlock_68 rfl rfl ?_
            refine am_nif_ne 90 dX8_unpackBlock_69 rfl rfl (by omega) (fun hc => ?_) (fun hc => ?_)
            · refine am_iload_n dX8_unpackBlock_90 rfl rfl ?_
              exact am_ri dX8_unpackBlock_91 rfl rfl rfl hq
            · omega
        refine am_aload_n dX8_unpackBlock_31 rfl rfl ?_
        refine am_iconst (v := nI 0) dX8_unpackBlock_32 rfl (by decide +kernel) ?_
        refine am_iconst (v := nI 5) dX8_unpackBlock_33 rfl (by decide +kernel) ?_
        refine am_vi (t_X8_takeTree0 (d - 1) _ hu2 a2 s2 hr2 hta2 hE hE1 wT2 sT2 (by omega)) k_X8_takeTree l_X8_83 dX8_unpackBlock_34 rfl rfl rfl rfl hu2 (by omega) (Nat.le_refl _) (Nat.le_refl _) (fun x h3 hx => ?_)
        obtain ⟨rfl, lt3, f3, s3, E3, t3, ln3, sh3, rd3⟩ := hx
        rw [show treR f E 19 5 (fun n k => lnsR f E true n n 0 k (fun _ => 0)) (k + 16) = tTR f E (k + 16) from rfl] at *
        obtain ⟨⟨flT, kT, alT, lenT⟩, eT⟩ : ∃ p, p = tTR f E (k + 16) := ⟨_, rfl⟩
        rw [← eT] at lt3 s3 E3 t3 ln3 rd3 ⊢
        dsimp only at lt3 s3 E3 t3 ln3 rd3 ⊢
        have F3 : am_fr h h3 frU := F2.tr f3 (fun j hj => frU_in (by simp at hj; omega))
        have hu3 := (f3 30 (by simp)).trans hu2
        have hp3 := hp2.at (h' := h3) (f3 3 (by simp)) (f3 4 (by simp))
        have hr3 := (f3 1 (by simp)).trans hr2
        have hta3 := (f3 2 (by simp)).trans hta2
        have a3 := (f3 5 (by simp)).trans a2
        have wC3 := wC2.at (h' := h3) (fun j a b => f3 j (by simp; omega))
        have wP3 := wP2.at (h' := h3) (fun j a b => f3 j (by simp; omega))
        have sC3 := sC2.at (h' := h3) (fun j a b => f3 j (by simp; omega))
        have sP3 := sP2.at (h' := h3) (fun j a b => f3 j (by simp; omega))
        refine am_istore_n dX8_unpackBlock_37 rfl rfl ?_
        refine am_iload_n dX8_unpackBlock_38 rfl rfl ?_
        refine am_nif_ne 50 dX8_unpackBlock_39 rfl rfl (by omega) (fun hcT => ?_) (fun hcT => ?_)
        · refine am_iload_n dX8_unpackBlock_50 rfl rfl ?_
          refine am_nif_ne 61 dX8_unpackBlock_51 rfl rfl (by omega) (fun hc => ?_) (fun hc => ?_)
          · refine am_iconst (v := nI 0) dX8_unpackBlock_61 rfl (by decide +kernel) ?_
            refine am_istore_n dX8_unpackBlock_62 rfl rfl ?_
            have eB : (blkR f E wa k bs co cp) = ((flT, kT, bs, co, cp), (lenT, zN, zN)) := by
              unfold blkR
              rw [if_neg (by omega), if_neg (by omega), ← eT, if_pos (by show flT ≠ 0; omega)]
            exact fault 0 flT h3 hcT lt3 (by omega) (by rw [eB]; exact ⟨rfl, lt3, F3, s3, E3, hp3, Nat.le_of_lt hbl, a3, ⟨sh3, sC3, sP3⟩, ln3, wC3.ln, wP3.ln⟩)
          · omega
        · subst hcT
          refine am_aload_n dX8_unpackBlock_42 rfl rfl ?_
          refine am_iconst (v := nI 1) dX8_unpackBlock_43 rfl (by decide +kernel) ?_
          refine am_bipush (v := nI 9) dX8_unpackBlock_44 rfl (by decide +kernel) ?_
          refine am_vi (t_X8_takeTree1 (d - 1) _ hu3 a3 s3 hr3 hta3 hE E3 wC3 sC3 t3 (rd3 rfl) (by omega)) k_X8_takeTree l_X8_83 dX8_unpackBlock_46 rfl rfl rfl rfl hu3 (by omega) (Nat.le_refl _) (Nat.le_refl _) (fun x h4 hx => ?_)
          obtain ⟨rfl, lt4, f4, s4, E4, t4, ln4, sh4, rd4⟩ := hx
          rw [show treR f E 510 9 (fun n k => lncR f E n lenT alT n 0 k (fun _ => 0)) kT = tCR f E lenT alT kT from rfl] at *
          obtain ⟨⟨flC, kC, alC, lenC⟩, eC⟩ : ∃ p, p = tCR f E lenT alT kT := ⟨_, rfl⟩
          rw [← eC] at lt4 s4 E4 t4 ln4 rd4 ⊢
          dsimp only at lt4 s4 E4 t4 ln4 rd4 ⊢
          have F4 : am_fr h h4 frU := F3.tr f4 (fun j hj => frU_in (by simp at hj; omega))
          have hu4 := (f4 30 (by simp)).trans hu3
          have hp4 := hp3.at (h' := h4) (f4 3 (by simp)) (f4 4 (by simp))
          have hr4 := (f4 1 (by simp)).trans hr3
          have hta4 := (f4 2 (by simp)).trans hta3
          have a4 := (f4 5 (by simp)).trans a3
          have wP4 := wP3.at (h' := h4) (fun j a b => f4 j (by simp; omega))
          have sP4 := sP3.at (h' := h4) (fun j a b => f4 j (by simp; omega))
          have sT4 := sh3.at (h' := h4) (fun j a b => f4 j (by simp; omega))
          have lnT4 := ln3.at (h' := h4) (f4 7 (by simp))
          refine am_istore_n dX8_unpackBlock_49 rfl rfl ?_
          refine am_iload_n dX8_unpackBlock_50 rfl rfl ?_
          refine am_nif_ne 61 dX8_unpackBlock_51 rfl rfl (by omega) (fun hcC => ?_) (fun hcC => ?_)
          · refine am_iconst (v := nI 0) dX8_unpackBlock_61 rfl (by decide +kernel) ?_
            refine am_istore_n dX8_unpackBlock_62 rfl rfl ?_
            have eB : (blkR f E wa k bs co cp) = ((flC, kC, bs, co, cp), (lenT, lenC, zN)) := by
              unfold blkR
              rw [if_neg (by omega), if_neg (by omega), ← eT]
              dsimp only
              rw [if_neg (by omega), ← eC, if_pos (by show flC ≠ 0; omega)]
            exact fault 0 flC h4 hcC lt4 (by omega) (by rw [eB]; exact ⟨rfl, lt4, F4, s4, E4, hp4, Nat.le_of_lt hbl, a4, ⟨sT4, sh4, sP4⟩, lnT4, ln4, wP4.ln⟩)
          · subst hcC
            refine am_aload_n dX8_unpackBlock_54 rfl rfl ?_
            refine am_iconst (v := nI 2) dX8_unpackBlock_55 rfl (by decide +kernel) ?_
            refine am_iconst (v := nI 4) dX8_unpackBlock_56 rfl (by decide +kernel) ?_
            refine am_vi (t_X8_takeTree2 (d - 1) _ hu4 a4 s4 hr4 hta4 hE E4 wP4 sP4 (by omega)) k_X8_takeTree l_X8_83 dX8_unpackBlock_57 rfl rfl rfl rfl hu4 (by omega) (Nat.le_refl _) (Nat.le_refl _) (fun x h5 hx => ?_)
            obtain ⟨rfl, lt5, f5, s5, E5, t5, ln5, sh5, rd5⟩ := hx
            rw [show treR f E 14 4 (fun n k => lnsR f E false n n 0 k (fun _ => 0)) kC = tPR f E kC from rfl] at *
            obtain ⟨⟨flP, kP, alP, lenP⟩, eP⟩ : ∃ p, p = tPR f E kC := ⟨_, rfl⟩
            rw [← eP] at lt5 s5 E5 t5 ln5 rd5 ⊢
            dsimp only at lt5 s5 E5 t5 ln5 rd5 ⊢
            have F5 : am_fr h h5 frU := F4.tr f5 (fun j hj => frU_in (by simp at hj; omega))
            have hu5 := (f5 30 (by simp)).trans hu4
            have hp5 := hp4.at (h' := h5) (f5 3 (by simp)) (f5 4 (by simp))
            have hr5 := (f5 1 (by simp)).trans hr4
            have hta5 := (f5 2 (by simp)).trans hta4
            have a5 := (f5 5 (by simp)).trans a4
            have sT5 := sT4.at (h' := h5) (fun j a b => f5 j (by simp; omega))
            have sC5 := sh4.at (h' := h5) (fun j a b => f5 j (by simp; omega))
            have lnT5 := lnT4.at (h' := h5) (f5 7 (by simp))
            have lnC5 := ln4.at (h' := h5) (f5 15 (by simp))
            have tC5 := (f5 14 (by simp)).trans t4
            have rC5 := (rd4 rfl).at (h' := h5) (fun j a b => f5 j (by simp; omega))
            by_cases hcP : flP = 0
            · subst hcP
              have eB : (blkR f E wa k bs co cp) = (cdsR lenC alC lenP alP f E wa (num f k 16) kP bs co cp, (lenT, lenC, lenP)) := by
                unfold blkR
                rw [if_neg (by omega), if_neg (by omega), ← eT]
                dsimp only
                rw [if_neg (by omega), ← eC]
                dsimp only
                rw [if_neg (by omega), ← eP, if_neg (by show ¬ (0 : Nat) ≠ 0; omega)]
              have rP5 := rd5 rfl
              refine am_istore_n dX8_unpackBlock_60 rfl rfl ?_
              refine am_iconst (v := nI 0) dX8_unpackBlock_61 rfl (by decide +kernel) ?_
              refine am_istore_n dX8_unpackBlock_62 rfl rfl ?_
              have loop : ∀ (q i k' : Nat) (bs' : List Int32) (co' cp' : Nat) (H : am_H), cdsR lenC alC lenP alP f E wa q k' bs' co' cp' = (blkR f E wa k bs co cp).1 → i + q = num f k 16 → am_fr h5 H [3, 4, 5, 31] → H 31 = some (bsO 1 E k') → k' ≤ E → rws H 3 4 12000 bs' → bs'.length ≤ wa → H 5 = some (acO op (bl + 1) co' cp' bi) → am_At l D dA m_X8_unpackBlock d 0 0 0 0 n0 none (am_qi fun x h' => x = nI (blkR f E wa k bs co cp).1.1 ∧ (blkR f E wa k bs co cp).1.1 < 7 ∧ bhd h h' E wa op (bl + 1) bi (blkR f E wa k bs co cp).1 (blkR f E wa k bs co cp).2) 0 0 63 [some (am_r 30), some (.inl (nI (num f k 16))), some (.inl (nI 0)), some (.inl (nI i))] [] H := by
                intro q
                induction q with
                | zero =>
                  intro i k' bs' co' cp' H hR hq hfr g31 hk' hw hwl g5
                  have hR : (0, k', bs', co', cp') = (blkR f E wa k bs co cp).1 := hR
                  have FH : am_fr h H frU := F5.tr hfr (fun j hj => frU_in (by simp at hj; omega))
                  have post : nI 0 = nI (blkR f E wa k bs co cp).1.1 ∧ (blkR f E wa k bs co cp).1.1 < 7 ∧ bhd h H E wa op (bl + 1) bi (blkR f E wa k bs co cp).1 (blkR f E wa k bs co cp).2 := by
                    rw [← hR, eB]
                    exact ⟨rfl, by show 0 < 7; omega, FH, g31, hk', hw, hwl, g5, ⟨sT5.at (fun j a b => hfr j (by simp; omega)), sC5.at (fun j a b => hfr j (by simp; omega)), sh5.at (fun j a b => hfr j (by simp; omega))⟩, lnT5.at (hfr 7 (by simp)), lnC5.at (hfr 15 (by simp)), ln5.at (hfr 23 (by simp))⟩
                  refine am_iload_n dX8_unpackBlock_63 rfl rfl ?_
                  refine am_iload_n dX8_unpackBlock_64 rfl rfl ?_
                  refine am_ncmp_ge 90 dX8_unpackBlock_65 rfl rfl (by omega) (by omega) (fun hc => ?_) (fun hc => ?_)
                  · refine am_iload_n dX8_unpackBlock_90 rfl rfl ?_
                    exact am_ri dX8_unpackBlock_91 rfl rfl rfl post
                  · omega
                | succ q ih =>
                  intro i k' bs' co' cp' H hR hq hfr g31 hk' hw hwl g5
                  rw [cdsR] at hR
                  have FH : am_fr h H frU := F5.tr hfr (fun j hj => frU_in (by simp at hj; omega))
                  have huH := (hfr 30 (by simp)).trans hu5
                  have hrH := (hfr 1 (by simp)).trans hr5
                  have htaH := (hfr 2 (by simp)).trans hta5
                  have tCH := (hfr 14 (by simp)).trans tC5
                  have tPH := (hfr 22 (by simp)).trans t5
                  have rCH := rC5.at (h' := H) (fun j a b => hfr j (by simp; omega))
                  have rPH := rP5.at (h' := H) (fun j a b => hfr j (by simp; omega))
                  refine am_iload_n dX8_unpackBlock_63 rfl rfl ?_
                  refine am_iload_n dX8_unpackBlock_64 rfl rfl ?_
                  refine am_ncmp_ge 90 dX8_unpackBlock_65 rfl rfl (by omega) (by omega) (fun hc => ?_) (fun hc => ?_)
                  · omega
                  · refine am_iload_n dX8_unpackBlock_68 rfl rfl ?_
                    refine am_nif_ne 90 dX8_unpackBlock_69 rfl rfl (by omega) (fun hcz => ?_) (fun hcz => ?_)
                    · omega
                    · refine am_aload_n dX8_unpackBlock_72 rfl rfl ?_
                      refine am_vi (t_X8_wantsMore (d - 1) _ huH hw (by omega) (by omega) (by omega)) k_X8_wantsMore l_X8_59 dX8_unpackBlock_73 rfl rfl rfl rfl huH (by omega) (Nat.le_refl _) (Nat.le_refl _) (fun x h6 hx => ?_)
                      obtain ⟨rfl, hh⟩ := hx
                      obtain rfl := hh.symm
                      refine am_bif_eq 90 dX8_unpackBlock_76 rfl rfl (fun hcw => ?_) (fun hcw => ?_)
                      · have hcw : wa ≤ bs'.length := by simpa using hcw
                        rw [if_pos hcw] at hR
                        have post : nI 0 = nI (blkR f E wa k bs co cp).1.1 ∧ (blkR f E wa k bs co cp).1.1 < 7 ∧ bhd h H E wa op (bl + 1) bi (blkR f E wa k bs co cp).1 (blkR f E wa k bs co cp).2 := by
                          rw [← hR, eB]
                          exact ⟨rfl, by show 0 < 7; omega, FH, g31, hk', hw, hwl, g5, ⟨sT5.at (fun j a b => hfr j (by simp; omega)), sC5.at (fun j a b => hfr j (by simp; omega)), sh5.at (fun j a b => hfr j (by simp; omega))⟩, lnT5.at (hfr 7 (by simp)), lnC5.at (hfr 15 (by simp)), ln5.at (hfr 23 (by simp))⟩
                        refine am_iload_n dX8_unpackBlock_90 rfl rfl ?_
                        exact am_ri dX8_unpackBlock_91 rfl rfl rfl post
                      · have hcw : bs'.length < wa := by simpa using hcw
                        rw [if_neg (by omega)] at hR
                        refine am_aload_n dX8_unpackBlock_79 rfl rfl ?_
                        refine am_vi (t_X8_unpackCode (d - 1) _ huH hw g5 g31 hrH htaH hE hk' hwa hcw tCH rCH tPH rPH (by omega)) k_X8_unpackCode l_X8_87 dX8_unpackBlock_80 rfl rfl rfl rfl huH (by omega) (Nat.le_refl _) (Nat.le_refl _) (fun x h6 hx => ?_)
                        have h7 := oneR_lt lenC alC lenP alP f E wa k' bs' co' cp'
                        obtain ⟨⟨fl, kk, bb, cc, pp⟩, eo⟩ : ∃ p, p = oneR lenC alC lenP alP f E wa k' bs' co' cp' := ⟨_, rfl⟩
                        rw [← eo] at hx hR h7
                        dsimp only at hx hR h7
                        obtain ⟨rfl, f6, s6, w6, a6, E6, L6⟩ := hx
                        have hfr6 : am_fr h5 h6 [3, 4, 5, 31] := hfr.tr f6 (by simp)
                        refine am_istore_n dX8_unpackBlock_83 rfl rfl ?_
                        refine am_iinc (n := 1) dX8_unpackBlock_84 rfl rfl (nI_1 i) ?_
                        refine am_goto 63 dX8_unpackBlock_87 rfl rfl ?_
                        by_cases hf : fl = 0
                        · subst hf
                          rw [if_pos rfl] at hR
                          exact ih (i + 1) kk bb cc pp h6 hR (by omega) hfr6 s6 E6 w6 L6 a6
                        · rw [if_neg hf] at hR
                          refine fault (i + 1) fl h6 (by omega) h7 (by omega) ?_
                          rw [← hR, eB]
                          exact ⟨rfl, h7, F5.tr hfr6 (fun j hj => frU_in (by simp at hj; omega)), s6, E6, w6, L6, a6, ⟨sT5.at (fun j a b => hfr6 j (by simp; omega)), sC5.at (fun j a b => hfr6 j (by simp; omega)), sh5.at (fun j a b => hfr6 j (by simp; omega))⟩, lnT5.at (hfr6 7 (by simp)), lnC5.at (hfr6 15 (by simp)), ln5.at (hfr6 23 (by simp))⟩
              exact loop (num f k 16) 0 kP bs co cp h5 (by rw [eB]) (by omega) am_fr.rf s5 E5 hp5 (Nat.le_of_lt hbl) a5
            · have eB : (blkR f E wa k bs co cp) = ((flP, kP, bs, co, cp), (lenT, lenC, lenP)) := by
                unfold blkR
                rw [if_neg (by omega), if_neg (by omega), ← eT]
                dsimp only
                rw [if_neg (by omega), ← eC]
                dsimp only
                rw [if_neg (by omega), ← eP, if_pos (by show flP ≠ 0; omega)]
              refine am_istore_n dX8_unpackBlock_60 rfl rfl ?_
              refine am_iconst (v := nI 0) dX8_unpackBlock_61 rfl (by decide +kernel) ?_
              refine am_istore_n dX8_unpackBlock_62 rfl rfl ?_
              exact fault 0 flP h5 (by omega) lt5 (by omega) (by rw [eB]; exact ⟨rfl, lt5, F5, s5, E5, hp5, Nat.le_of_lt hbl, a5, ⟨sT5, sC5, sh5⟩, lnT5, lnC5, ln5⟩)
      · have eB : (blkR f E wa k bs co cp) = ((6, k + 16, bs, co, cp), (zN, zN, zN)) := by
          unfold blkR
          rw [if_neg (by omega), if_pos hc]
        refine am_bipush (v := nI 6) dX8_unpackBlock_28 rfl (by decide +kernel) ?_
        exact am_ri dX8_unpackBlock_30 rfl rfl rfl (by rw [eB]; exact ⟨rfl, by show 6 < 7; omega, F2, s2, hE1, hp2, Nat.le_of_lt hbl, a2, ⟨sT2, sC2, sP2⟩, wT2.ln, wC2.ln, wP2.ln⟩)
    · exact absurd hc (am_nm1 (by omega))
  · obtain ⟨rfl, e2⟩ := hx2 (by omega)
    have f2 : am_fr h1 h2 [31] := by rw [e2]; exact am_fr.rf.set (by simp)
    have s2 : h2 31 = some (bsO 1 E E) := by rw [e2]; exact am_set_eq
    have F2 : am_fr h h2 frU := F1.tr f2 (fun j hj => frU_in (by simp at hj; omega))
    have eB : (blkR f E wa k bs co cp) = ((1, E, bs, co, cp), (zN, zN, zN)) := by
      unfold blkR
      rw [if_pos (by omega)]
    refine am_istore_n dX8_unpackBlock_16 rfl rfl ?_
    refine am_iload_n dX8_unpackBlock_17 rfl rfl ?_
    refine am_iconst (v := -1) dX8_unpackBlock_18 rfl (by decide +kernel) ?_
    refine am_icmp_ne 24 dX8_unpackBlock_19 rfl rfl (fun hc => ?_) (fun hc => ?_)
    · exact absurd rfl hc
    · refine am_iconst (v := nI 1) dX8_unpackBlock_22 rfl (by decide +kernel) ?_
      exact am_ri dX8_unpackBlock_23 rfl rfl rfl (by rw [eB]; exact ⟨rfl, by show 1 < 7; omega, F2, s2, Nat.le_refl _, hp1.at (f2 3 (by simp)) (f2 4 (by simp)), Nat.le_of_lt hbl, (f2 5 (by simp)).trans a1, ⟨sT1.at (fun j a b => f2 j (by simp; omega)), sC1.at (fun j a b => f2 j (by simp; omega)), sP1.at (fun j a b => f2 j (by simp; omega))⟩, wT1.ln.at (f2 7 (by simp)), wC1.ln.at (f2 15 (by simp)), wP1.ln.at (f2 23 (by simp))⟩)
end UNP5
end
section
/-! ===== Unpacker.unpack ===== -/
section UNP6
variable {l : Launch} {D : va_G} {dA : Bool → ClassId}
theorem unpR_bl (f : Nat → Int32) (E wa : Nat) : ∀ (q k : Nat) (bs : List Int32) (co cp bl : Nat) (ls : l3), bl ≤ (unpR f E wa q k bs co cp bl ls).2.1 ∧ (unpR f E wa q k bs co cp bl ls).2.1 ≤ bl + q
  | 0, k, bs, co, cp, bl, ls => ⟨Nat.le_refl _, Nat.le_refl _⟩
  | q + 1, k, bs, co, cp, bl, ls => by
    rw [unpR]
    split
    · exact ⟨Nat.le_refl _, Nat.le_add_right _ _⟩
    · split
      · have := unpR_bl f E wa q (blkR f E wa k bs co cp).1.2.1 (blkR f E wa k bs co cp).1.2.2.1 (blkR f E wa k bs co cp).1.2.2.2.1 (blkR f E wa k bs co cp).1.2.2.2.2 (bl + 1) (blkR f E wa k bs co cp).2
        exact ⟨by omega, by omega⟩
      · exact ⟨Nat.le_succ _, by show bl + 1 ≤ _; omega⟩
set_option maxHeartbeats 4000000 in
set_option maxRecDepth 100000 in
theorem t_X8_unpack (d n0 : Nat) {h : am_H} {wa0 : Nat} (hu : h 30 = some (unO wa0)) {u0 v0 : Int32} (hs : h 31 = some (.inr (2, [am_r 1, .inl u0, .inl v0]))) {c : Nat} {f : Nat → Int32} (hr : h 1 = some (rwO 2 c)) (hta : h 2 = some (.inl (false, 4000, f))) (hc4 : c ≤ 4000) {bs0 : List Int32} (hp : rws h 3 4 12000 bs0) {op : Bool} {bl0 co0 cp0 bi0 : Nat} (hac : h 5 = some (acO op bl0 co0 cp0 bi0)) (hT : tsh h 6 19) (hC : tsh h 14 510) (hP : tsh h 22 14) {ls : l3} (hl1 : lnA h 7 19 ls.1) (hl2 : lnA h 15 510 ls.2.1) (hl3 : lnA h 23 14 ls.2.2) {n wa : Nat} (hn : n ≤ c) (hwa : wa ≤ 8000) (hd : 6 ≤ d) : am_Ct l D dA m_X8_unpack d 0 0 n0 [am_r 30, .inl (nI n), .inl (nI wa)] h (am_qi fun x h' => x = nI (unpR f (8 * n) wa wa 0 [] 0 0 0 ls).1.1 ∧ am_fr h h' (30 :: frU) ∧ h' 30 = some (unO wa) ∧ h' 31 = some (bsO 1 (8 * n) (unpR f (8 * n) wa wa 0 [] 0 0 0 ls).1.2.1) ∧ (unpR f (8 * n) wa wa 0 [] 0 0 0 ls).1.2.1 ≤ 8 * n ∧ rws h' 3 4 12000 (unpR f (8 * n) wa wa 0 [] 0 0 0 ls).1.2.2.1 ∧ (unpR f (8 * n) wa wa 0 [] 0 0 0 ls).1.2.2.1.length ≤ wa ∧ h' 5 = some (acO true (unpR f (8 * n) wa wa 0 [] 0 0 0 ls).2.1 (unpR f (8 * n) wa wa 0 [] 0 0 0 ls).1.2.2.2.1 (unpR f (8 * n) wa wa 0 [] 0 0 0 ls).1.2.2.2.2 (unpR f (8 * n) wa wa 0 [] 0 0 0 ls).1.2.1) ∧ (tsh h' 6 19 ∧ tsh h' 14 510 ∧ tsh h' 22 14) ∧ lnA h' 7 19 (unpR f (8 * n) wa wa 0 [] 0 0 0 ls).2.2.1 ∧ lnA h' 15 510 (unpR f (8 * n) wa wa 0 [] 0 0 0 ls).2.2.2.1 ∧ lnA h' 23 14 (unpR f (8 * n) wa wa 0 [] 0 0 0 ls).2.2.2.2) := by
  refine am_Ci (by decide +kernel) rfl rfl ?_
  refine am_aload_n dX8_unpack_0 rfl rfl ?_
  refine am_get f_X8_14 dX8_unpack_1 rfl hu rfl ?_
  refine am_iload_n dX8_unpack_4 rfl rfl ?_
  refine am_vv (t_X2_open (d - 1) _ (E := 0) (k := 0) hs hr (by decide) (by omega) hn (by omega)) k_X2_open l_X8_48 dX8_unpack_5 rfl rfl rfl rfl hs (by omega) (Nat.le_refl _) (Nat.le_refl _) (fun h1 hx => ?_)
  have f1 : am_fr h h1 [31] := by rw [hx]; exact am_fr.rf.set (by simp)
  have s1 : h1 31 = some (bsO 1 (8 * n) 0) := by rw [hx]; exact am_set_eq
  have hu1 := (f1 30 (by simp)).trans hu
  have hp1 := hp.at (h' := h1) (f1 3 (by simp)) (f1 4 (by simp))
  have p3 := hp1.choose_spec.1
  clear hx
  refine am_aload_n dX8_unpack_8 rfl rfl ?_
  refine am_get f_X8_20 dX8_unpack_9 rfl hu1 rfl ?_
  refine am_vv (t_empty (d - 1) _ hp1 (by decide)) k_X3_empty l_X8_52 dX8_unpack_12 rfl rfl rfl rfl p3 (by omega) (Nat.le_refl _) (Nat.le_refl _) (fun h2 hx => ?_)
  obtain ⟨f2, p2⟩ := hx
  have s2 := (f2 31 (by simp)).trans s1
  have hu2 := (f2 30 (by simp)).trans hu1
  have a2 := (f2 5 (by simp)).trans ((f1 5 (by simp)).trans hac)
  refine am_aload_n dX8_unpack_15 rfl rfl ?_
  refine am_get f_X8_24 dX8_unpack_16 rfl hu2 rfl ?_
  refine am_vv (t_X0_open (d - 1) _ a2) k_X0_open l_X8_57 dX8_unpack_19 rfl rfl rfl rfl a2 (by omega) (Nat.le_refl _) (Nat.le_refl _) (fun h3 hx => ?_)
  have f3 : am_fr h2 h3 [5] := by rw [hx]; exact am_fr.rf.set (by simp)
  have a3 : h3 5 = some (acO true 0 0 0 0) := by rw [hx]; exact am_set_eq
  have s3 := (f3 31 (by simp)).trans s2
  have hu3 := (f3 30 (by simp)).trans hu2
  have p3 := p2.at (h' := h3) (f3 3 (by simp)) (f3 4 (by simp))
  clear hx
  refine am_aload_n dX8_unpack_22 rfl rfl ?_
  refine am_iload_n dX8_unpack_23 rfl rfl ?_
  refine am_put f_X8_44 dX8_unpack_24 rfl hu3 (am_fit_i _) rfl ?_
  obtain ⟨h4, e4⟩ : ∃ h4, h4 = am_set h3 30 (.inr (8, ([am_r 31, am_r 3, am_r 5, am_r 6, am_r 14, am_r 22, .inl (nI wa0)] : List am_V).set 6 (.inl (nI wa)))) := ⟨_, rfl⟩
  rw [← e4]
  have f4 : am_fr h3 h4 [30] := by rw [e4]; exact am_fr.rf.set (by simp)
  have hu4 : h4 30 = some (unO wa) := by rw [e4]; exact am_set_eq
  have F4 : am_fr h h4 (30 :: frU) := fun j hj => by
    have h9 : j ≠ 30 ∧ j ∉ frU := by simpa only [List.mem_cons, not_or] using hj
    have := frU_not h9.2
    rw [f4 j (by simp; omega), f3 j (by simp; omega), f2 j (by simp; omega), f1 j (by simp; omega)]
  have B4 : bhd h4 h4 (8 * n) wa true 0 0 (0, 0, [], 0, 0) ls := by
    have e : ∀ j, 6 ≤ j → j ≤ 29 → h4 j = h j := fun j a b => by rw [f4 j (by simp; omega), f3 j (by simp; omega), f2 j (by simp; omega), f1 j (by simp; omega)]
    exact ⟨am_fr.rf, (f4 31 (by simp)).trans s3, Nat.zero_le _, p3.at (f4 3 (by simp)) (f4 4 (by simp)), Nat.zero_le _, (f4 5 (by simp)).trans a3, ⟨hT.at (fun j a b => e j (by omega) (by omega)), hC.at (fun j a b => e j (by omega) (by omega)), hP.at (fun j a b => e j (by omega) (by omega))⟩, hl1.at (e _ (by omega) (by omega)), hl2.at (e _ (by omega) (by omega)), hl3.at (e _ (by omega) (by omega))⟩
  have hr4 : h4 1 = some (rwO 2 c) := (F4 1 (by decide)).trans hr
  have hta4 : h4 2 = some (.inl (false, 4000, f)) := (F4 2 (by decide)).trans hta
  refine am_iconst (v := nI 0) dX8_unpack_27 rfl (by decide +kernel) ?_
  refine am_istore_n dX8_unpack_28 rfl rfl ?_
  refine am_iconst (v := nI 0) dX8_unpack_29 rfl (by decide +kernel) ?_
  refine am_istore dX8_unpack_30 rfl rfl ?_
  have done : ∀ (fl : Nat) (x4 : am_V) (H : am_H) (r : (Nat × Nat × List Int32 × Nat × Nat) × Nat × l3), r = (unpR f (8 * n) wa wa 0 [] 0 0 0 ls) → fl = r.1.1 → bhd h4 H (8 * n) wa true r.2.1 0 r.1 r.2.2 → am_At l D dA m_X8_unpack d 0 0 0 0 n0 none (am_qi fun x h' => x = nI (unpR f (8 * n) wa wa 0 [] 0 0 0 ls).1.1 ∧ am_fr h h' (30 :: frU) ∧ h' 30 = some (unO wa) ∧ h' 31 = some (bsO 1 (8 * n) (unpR f (8 * n) wa wa 0 [] 0 0 0 ls).1.2.1) ∧ (unpR f (8 * n) wa wa 0 [] 0 0 0 ls).1.2.1 ≤ 8 * n ∧ rws h' 3 4 12000 (unpR f (8 * n) wa wa 0 [] 0 0 0 ls).1.2.2.1 ∧ (unpR f (8 * n) wa wa 0 [] 0 0 0 ls).1.2.2.1.length ≤ wa ∧ h' 5 = some (acO true (unpR f (8 * n) wa wa 0 [] 0 0 0 ls).2.1 (unpR f (8 * n) wa wa 0 [] 0 0 0 ls).1.2.2.2.1 (unpR f (8 * n) wa wa 0 [] 0 0 0 ls).1.2.2.2.2 (unpR f (8 * n) wa wa 0 [] 0 0 0 ls).1.2.1) ∧ (tsh h' 6 19 ∧ tsh h' 14 510 ∧ tsh h' 22 14) ∧ lnA h' 7 19 (unpR f (8 * n) wa wa 0 [] 0 0 0 ls).2.2.1 ∧ lnA h' 15 510 (unpR f (8 * n) wa wa 0 [] 0 0 0 ls).2.2.2.1 ∧ lnA h' 23 14 (unpR f (8 * n) wa wa 0 [] 0 0 0 ls).2.2.2.2) 0 0 60 [some (am_r 30), some (.inl (nI n)), some (.inl (nI wa)), some (.inl (nI fl)), some x4] [] H := by
    intro fl x4 H r hr hfl hb
    obtain ⟨g1, g2, g3, g4, g5, g6, g7, g8, g9, g10⟩ := hb
    have huH := (g1 30 (by decide)).trans hu4
    refine am_aload_n dX8_unpack_60 rfl rfl ?_
    refine am_get f_X8_24 dX8_unpack_61 rfl huH rfl ?_
    refine am_aload_n dX8_unpack_64 rfl rfl ?_
    refine am_get f_X8_14 dX8_unpack_65 rfl huH rfl ?_
    refine am_vi (t_X2_taken (d - 1) _ g2) k_X2_taken l_X8_67 dX8_unpack_68 rfl rfl rfl rfl g2 (by omega) (Nat.le_refl _) (Nat.le_refl _) (fun x h1 hx => ?_)
    obtain ⟨rfl, hh⟩ := hx
    obtain rfl := hh.symm
    refine am_vv (t_X0_close (d - 1) _ g6 r.1.2.1) k_X0_close l_X8_70 dX8_unpack_71 rfl rfl rfl rfl g6 (by omega) (Nat.le_refl _) (Nat.le_refl _) (fun h6 hx => ?_)
    have f6 : am_fr H h6 [5] := by rw [hx]; exact am_fr.rf.set (by simp)
    have a6 : h6 5 = some (acO true r.2.1 r.1.2.2.2.1 r.1.2.2.2.2 r.1.2.1) := by rw [hx]; exact am_set_eq
    refine am_iload_n dX8_unpack_74 rfl rfl ?_
    exact am_ri dX8_unpack_75 rfl rfl rfl (by
      rw [← hr]
      refine ⟨by rw [hfl], fun j hj => ?_, (f6 30 (by simp)).trans huH, (f6 31 (by simp)).trans g2, g3, g4.at (f6 3 (by simp)) (f6 4 (by simp)), g5, a6, ⟨g7.1.at (fun j a b => f6 j (by simp; omega)), g7.2.1.at (fun j a b => f6 j (by simp; omega)), g7.2.2.at (fun j a b => f6 j (by simp; omega))⟩, g8.at (f6 7 (by simp)), g9.at (f6 15 (by simp)), g10.at (f6 23 (by simp))⟩
      have h9 : j ≠ 30 ∧ j ∉ frU := by simpa only [List.mem_cons, not_or] using hj
      have := frU_not h9.2
      rw [f6 j (by simp; omega), g1 j h9.2]
      exact F4 j hj)
  have fault : ∀ (b fl : Nat) (H : am_H) (r : (Nat × Nat × List Int32 × Nat × Nat) × Nat × l3), 0 < fl → fl < 7 → b ≤ wa → r = (unpR f (8 * n) wa wa 0 [] 0 0 0 ls) → fl = r.1.1 → bhd h4 H (8 * n) wa true r.2.1 0 r.1 r.2.2 → am_At l D dA m_X8_unpack d 0 0 0 0 n0 none (am_qi fun x h' => x = nI (unpR f (8 * n) wa wa 0 [] 0 0 0 ls).1.1 ∧ am_fr h h' (30 :: frU) ∧ h' 30 = some (unO wa) ∧ h' 31 = some (bsO 1 (8 * n) (unpR f (8 * n) wa wa 0 [] 0 0 0 ls).1.2.1) ∧ (unpR f (8 * n) wa wa 0 [] 0 0 0 ls).1.2.1 ≤ 8 * n ∧ rws h' 3 4 12000 (unpR f (8 * n) wa wa 0 [] 0 0 0 ls).1.2.2.1 ∧ (unpR f (8 * n) wa wa 0 [] 0 0 0 ls).1.2.2.1.length ≤ wa ∧ h' 5 = some (acO true (unpR f (8 * n) wa wa 0 [] 0 0 0 ls).2.1 (unpR f (8 * n) wa wa 0 [] 0 0 0 ls).1.2.2.2.1 (unpR f (8 * n) wa wa 0 [] 0 0 0 ls).1.2.2.2.2 (unpR f (8 * n) wa wa 0 [] 0 0 0 ls).1.2.1) ∧ (tsh h' 6 19 ∧ tsh h' 14 510 ∧ tsh h' 22 14) ∧ lnA h' 7 19 (unpR f (8 * n) wa wa 0 [] 0 0 0 ls).2.2.1 ∧ lnA h' 15 510 (unpR f (8 * n) wa wa 0 [] 0 0 0 ls).2.2.2.1 ∧ lnA h' 23 14 (unpR f (8 * n) wa wa 0 [] 0 0 0 ls).2.2.2.2) 0 0 32 [some (am_r 30), some (.inl (nI n)), some (.inl (nI wa)), some (.inl (nI fl)), some (.inl (nI b))] [] H := by
    intro b fl H r h0 h7 hb hr hfl hbh
    refine am_iload dX8_unpack_32 rfl rfl ?_
    refine am_iload_n dX8_unpack_34 rfl rfl ?_
    refine am_ncmp_ge 60 dX8_unpack_35 rfl rfl (by omega) (by omega) (fun hc => ?_) (fun hc => ?_)
    · exact done fl _ H r hr hfl hbh
    · refine am_iload_n dX8_unpack_38 rfl rfl ?_
      refine am_nif_ne 60 dX8_unpack_39 rfl rfl (by omega) (fun hc => ?_) (fun hc => ?_)
      · exact done fl _ H r hr hfl hbh
      · omega
  have loop : ∀ (q b k' : Nat) (bs' : List Int32) (co' cp' bl' : Nat) (ls' : l3) (H : am_H), unpR f (8 * n) wa q k' bs' co' cp' bl' ls' = (unpR f (8 * n) wa wa 0 [] 0 0 0 ls) → b + q = wa → bhd h4 H (8 * n) wa true bl' 0 (0, k', bs', co', cp') ls' → am_At l D dA m_X8_unpack d 0 0 0 0 n0 none (am_qi fun x h' => x = nI (unpR f (8 * n) wa wa 0 [] 0 0 0 ls).1.1 ∧ am_fr h h' (30 :: frU) ∧ h' 30 = some (unO wa) ∧ h' 31 = some (bsO 1 (8 * n) (unpR f (8 * n) wa wa 0 [] 0 0 0 ls).1.2.1) ∧ (unpR f (8 * n) wa wa 0 [] 0 0 0 ls).1.2.1 ≤ 8 * n ∧ rws h' 3 4 12000 (unpR f (8 * n) wa wa 0 [] 0 0 0 ls).1.2.2.1 ∧ (unpR f (8 * n) wa wa 0 [] 0 0 0 ls).1.2.2.1.length ≤ wa ∧ h' 5 = some (acO true (unpR f (8 * n) wa wa 0 [] 0 0 0 ls).2.1 (unpR f (8 * n) wa wa 0 [] 0 0 0 ls).1.2.2.2.1 (unpR f (8 * n) wa wa 0 [] 0 0 0 ls).1.2.2.2.2 (unpR f (8 * n) wa wa 0 [] 0 0 0 ls).1.2.1) ∧ (tsh h' 6 19 ∧ tsh h' 14 510 ∧ tsh h' 22 14) ∧ lnA h' 7 19 (unpR f (8 * n) wa wa 0 [] 0 0 0 ls).2.2.1 ∧ lnA h' 15 510 (unpR f (8 * n) wa wa 0 [] 0 0 0 ls).2.2.2.1 ∧ lnA h' 23 14 (unpR f (8 * n) wa wa 0 [] 0 0 0 ls).2.2.2.2) 0 0 32 [some (am_r 30), some (.inl (nI n)), some (.inl (nI wa)), some (.inl (nI 0)), some (.inl (nI b))] [] H := by
    intro q
    induction q with
    | zero =>
      intro b k' bs' co' cp' bl' ls' H hR hq hb
      have hR : ((0, k', bs', co', cp'), bl', ls') = (unpR f (8 * n) wa wa 0 [] 0 0 0 ls) := hR
      refine am_iload dX8_unpack_32 rfl rfl ?_
      refine am_iload_n dX8_unpack_34 rfl rfl ?_
      refine am_ncmp_ge 60 dX8_unpack_35 rfl rfl (by omega) (by omega) (fun hc => ?_) (fun hc => ?_)
      · exact done 0 _ H _ hR rfl hb
      · omega
    | succ q ih =>
      intro b k' bs' co' cp' bl' ls' H hR hq hb
      rw [unpR] at hR
      obtain ⟨g1, g2, g3, g4, g5, g6, g7, g8, g9, g10⟩ := id hb
      dsimp only at g2 g3 g4 g5 g6
      have huH := (g1 30 (by decide)).trans hu4
      have hrH := (g1 1 (by decide)).trans hr4
      have htaH := (g1 2 (by decide)).trans hta4
      refine am_iload dX8_unpack_32 rfl rfl ?_
      refine am_iload_n dX8_unpack_34 rfl rfl ?_
      refine am_ncmp_ge 60 dX8_unpack_35 rfl rfl (by omega) (by omega) (fun hc => ?_) (fun hc => ?_)
      · omega
      · refine am_iload_n dX8_unpack_38 rfl rfl ?_
        refine am_nif_ne 60 dX8_unpack_39 rfl rfl (by omega) (fun hcz => ?_) (fun hcz => ?_)
        · omega
        · refine am_aload_n dX8_unpack_42 rfl rfl ?_
          refine am_vi (t_X8_wantsMore (d - 1) _ huH g4 (by omega) (by omega) (by omega)) k_X8_wantsMore l_X8_59 dX8_unpack_43 rfl rfl rfl rfl huH (by omega) (Nat.le_refl _) (Nat.le_refl _) (fun x h6 hx => ?_)
          obtain ⟨rfl, hh⟩ := hx
          obtain rfl := hh.symm
          refine am_bif_eq 60 dX8_unpack_46 rfl rfl (fun hcw => ?_) (fun hcw => ?_)
          · have hcw : wa ≤ bs'.length := by simpa using hcw
            rw [if_pos hcw] at hR
            exact done 0 _ H _ hR rfl hb
          · have hcw : bs'.length < wa := by simpa using hcw
            rw [if_neg (by omega)] at hR
            refine am_aload_n dX8_unpack_49 rfl rfl ?_
            refine am_vi (t_X8_unpackBlock (d - 1) _ huH g4 g6 g2 hrH htaH (by omega) g3 g7.1 g7.2.1 g7.2.2 hwa hcw (by omega)) k_X8_unpackBlock l_X8_63 dX8_unpack_50 rfl rfl rfl rfl huH (by omega) (Nat.le_refl _) (Nat.le_refl _) (fun x h6 hx => ?_)
            obtain ⟨⟨⟨fl, kk, bb, cc, pp⟩, lsB⟩, eB⟩ : ∃ p, p = blkR f (8 * n) wa k' bs' co' cp' := ⟨_, rfl⟩
            rw [← eB] at hx hR
            dsimp only at hx hR
            obtain ⟨rfl, h7, hb6⟩ := hx
            have hb6' : bhd h4 h6 (8 * n) wa true (bl' + 1) 0 (fl, kk, bb, cc, pp) lsB := ⟨g1.tr hb6.1 (fun j hj => hj), hb6.2⟩
            refine am_istore_n dX8_unpack_53 rfl rfl ?_
            refine am_iinc (n := 1) dX8_unpack_54 rfl rfl (nI_1 b) ?_
            refine am_goto 32 dX8_unpack_57 rfl rfl ?_
            by_cases hf : fl = 0
            · subst hf
              rw [if_pos rfl] at hR
              exact ih (b + 1) kk bb cc pp (bl' + 1) lsB h6 hR (by omega) hb6'
            · rw [if_neg hf] at hR
              exact fault (b + 1) fl h6 _ (by omega) h7 (by omega) hR rfl hb6'
  exact loop wa 0 0 [] 0 0 0 ls h4 rfl (by omega) B4
end UNP6
end
section
/-! ===== BitSink ===== -/
section SINK
variable {l : Launch} {D : va_G} {dA : Bool → ClassId}
abbrev skO (g : Nat) : am_E := .inr (1, [am_r 3, .inl (nI g)])
theorem am_dec1 (x : Int32) : x + Int32.ofInt (-1) = x - nI 1 := by rw [Int32.sub_eq_add_neg, show -nI 1 = Int32.ofInt (-1) by decide +kernel]
/-- bits mixed into the last byte -/
def orl (bs : List Int32) (x : Int32) : List Int32 := bs.set (bs.length - 1) (bs.getD (bs.length - 1) 0 ||| x)
theorem orl_len (bs : List Int32) (x : Int32) : (orl bs x).length = bs.length := by simp [orl]
/-- a bit behind what is given -/
def gv1 (s : List Int32 × Nat) (b : Nat) : List Int32 × Nat := (orl (if s.2 % 8 = 0 then s.1 ++ [nI 0] else s.1) (nI (b * 2 ^ (7 - s.2 % 8))), s.2 + 1)
/-- a number of b bits behind what is given -/
def gvR (v : Nat) : Nat → List Int32 × Nat → List Int32 × Nat
  | 0, s => s
  | b + 1, s => gvR v b (gv1 s (v / 2 ^ b % 2))
theorem gvR_2 (v : Nat) : ∀ (b : Nat) (s : List Int32 × Nat), (gvR v b s).2 = s.2 + b
  | 0, _ => rfl
  | b + 1, s => by
    show (gvR v b (gv1 s _)).2 = _
    rw [gvR_2 v b]
    show s.2 + 1 + b = _
    omega
/-- the sink's world: s the bytes and how many bits are given -/
def snk (h : am_H) (s : List Int32 × Nat) : Prop := h 33 = some (skO s.2) ∧ rws h 3 4 12000 s.1 ∧ s.1.length = (s.2 + 7) / 8
theorem snk.at {h h' : am_H} {s : List Int32 × Nat} (a : snk h s) (e1 : h' 33 = h 33) (e2 : h' 3 = h 3) (e3 : h' 4 = h 4) : snk h' s := ⟨e1.trans a.1, a.2.1.at e2 e3, a.2.2⟩
theorem t_mix (d n0 : Nat) {h : am_H} {r a n : Nat} {bs : List Int32} (w : rws h r a n bs) (hra : a ≠ r) (hn : n < 2 ^ 20) (hl : bs.length ≤ n) (h0 : 0 < bs.length) (v : Int32) : am_Ct l D dA m_X3_mixIntoLast d 0 0 n0 [am_r r, .inl v] h (am_qv fun h' => am_fr h h' [r, a] ∧ rws h' r a n (orl bs v)) := by
  obtain ⟨g, a1, a2, a3⟩ := w
  refine (t_X3_mixIntoLast d n0 a1 a2 hra (by omega) hl h0 v).mono (fun q h' hq => ⟨hq.1, ?_⟩)
  have e := hq.2
  refine ⟨by rw [e]; exact am_fr.rf.set (by simp), upd g (bs.length - 1) (g (bs.length - 1) ||| v), ?_, ?_, ?_⟩
  · rw [e, am_set_ne hra.symm, orl_len]; exact a1
  · rw [e, am_set_eq]
  · intro i x hi
    unfold orl at hi
    by_cases c : i = bs.length - 1
    · subst c
      rw [List.getElem?_set_self (by omega)] at hi
      cases hi
      rw [upd_eq, a3 (bs.length - 1) (bs[bs.length - 1]) (List.getElem?_eq_getElem (by omega)), List.getD_eq_getElem?_getD, List.getElem?_eq_getElem (by omega)]
      rfl
    · rw [List.getElem?_set_ne (fun q => c q.symm)] at hi
      rw [upd_ne c]
      exact a3 i x hi
set_option maxHeartbeats 4000000 in
set_option maxRecDepth 100000 in
theorem t_X1_open (d n0 : Nat) {h : am_H} {g : Int32} (hs : h 33 = some (.inr (1, [am_r 3, .inl g]))) {bs : List Int32} (hp : rws h 3 4 12000 bs) (hd : 1 ≤ d) : am_Ct l D dA m_X1_open d 0 0 n0 [am_r 33] h (am_qv fun h' => am_fr h h' [3, 33] ∧ snk h' ([], 0)) := by
  refine am_Cv (by decide +kernel) rfl rfl ?_
  have p3 := hp.choose_spec.1
  refine am_aload_n dX1_open_0 rfl rfl ?_
  refine am_get f_X1_9 dX1_open_1 rfl hs rfl ?_
  refine am_vv (t_empty (d - 1) _ hp (by decide)) k_X3_empty l_X1_19 dX1_open_4 rfl rfl rfl rfl p3 (by omega) (Nat.le_refl _) (Nat.le_refl _) (fun h1 hx => ?_)
  obtain ⟨f1, w1⟩ := hx
  have hs1 := (f1 33 (by simp)).trans hs
  refine am_aload_n dX1_open_7 rfl rfl ?_
  refine am_iconst (v := nI 0) dX1_open_8 rfl (by decide +kernel) ?_
  refine am_put f_X1_15 dX1_open_9 rfl hs1 (am_fit_i _) rfl ?_
  exact am_rv dX1_open_12 rfl rfl rfl ⟨(am_fr.rf.tr f1 (by simp)).set (by simp), am_set_eq, w1.at (am_set_ne (by decide)) (am_set_ne (by decide)), rfl⟩
set_option maxHeartbeats 4000000 in
set_option maxRecDepth 100000 in
theorem t_X1_given (d n0 : Nat) {h : am_H} {s : List Int32 × Nat} (hk : snk h s) : am_Ct l D dA m_X1_given d 0 0 n0 [am_r 33] h (am_qi fun x h' => x = nI s.2 ∧ h' = h) := by
  refine am_Ci (by decide +kernel) rfl rfl ?_
  refine am_aload_n dX1_given_0 rfl rfl ?_
  refine am_get f_X1_15 dX1_given_1 rfl hk.1 rfl ?_
  exact am_ri dX1_given_4 rfl rfl rfl ⟨rfl, rfl⟩
set_option maxHeartbeats 4000000 in
set_option maxRecDepth 100000 in
theorem t_X1_give (d n0 : Nat) {h : am_H} {s : List Int32 × Nat} (hk : snk h s) {v b : Nat} (hv : v < 2 ^ 31) (hb : b ≤ 16) (hg : s.2 + b ≤ 96000) (hd : 1 ≤ d) : am_Ct l D dA m_X1_give d 0 0 n0 [am_r 33, .inl (nI v), .inl (nI b)] h (am_qv fun h' => am_fr h h' [3, 4, 33] ∧ snk h' (gvR v b s)) := by
  refine am_Cv (by decide +kernel) rfl rfl ?_
  refine am_iload_n dX1_give_0 rfl rfl ?_
  refine am_iconst (v := nI 1) dX1_give_1 rfl (by decide +kernel) ?_
  refine am_isub dX1_give_2 rfl ?_
  refine am_istore_n dX1_give_3 rfl rfl ?_
  have loop : ∀ (q : Nat) (s' : List Int32 × Nat) (H : am_H), gvR v q s' = gvR v b s → q ≤ 16 → s'.2 + q ≤ 96000 → am_fr h H [3, 4, 33] → snk H s' → am_At l D dA m_X1_give d 0 0 0 0 n0 none (am_qv fun h' => am_fr h h' [3, 4, 33] ∧ snk h' (gvR v b s)) 0 0 4 [some (am_r 33), some (.inl (nI v)), some (.inl (nI b)), some (.inl (nI q - nI 1))] [] H := by
    intro q
    induction q with
    | zero =>
      intro s' H hR hq hg hfr hk
      refine am_iload_n dX1_give_4 rfl rfl ?_
      refine am_if_lt 65 dX1_give_5 rfl rfl (fun hc => ?_) (fun hc => ?_)
      · exact am_rv dX1_give_65 rfl rfl rfl ⟨hfr, by rw [← hR]; exact hk⟩
      · exact absurd (by decide +kernel) hc
    | succ q ih =>
      intro s' H hR hq hg hfr hk
      have hgm : s'.2 % 8 < 8 := Nat.mod_lt _ (by decide)
      have hp7 : 2 ^ (7 - s'.2 % 8) ≤ 2 ^ 7 := Nat.pow_le_pow_right (by omega) (by omega)
      rw [show nI (q + 1) - nI 1 = nI q from pk_sub (by omega)]
      refine am_iload_n dX1_give_4 rfl rfl ?_
      refine am_nif_lt 65 dX1_give_5 rfl rfl (by omega) ?_
      refine am_aload_n dX1_give_8 rfl rfl ?_
      refine am_get f_X1_15 dX1_give_9 rfl hk.1 rfl ?_
      refine am_bipush (v := nI 7) dX1_give_12 rfl (by decide +kernel) ?_
      refine am_iand dX1_give_14 rfl ?_
      rw [pk_andN (by omega) (m := nI 7) 3 (by decide +kernel), show (2 : Nat) ^ 3 = 8 from rfl]
      have rest : ∀ (H1 : am_H) (bs1 : List Int32), bs1 = (if s'.2 % 8 = 0 then s'.1 ++ [nI 0] else s'.1) → am_fr h H1 [3, 4, 33] → H1 33 = some (skO s'.2) → rws H1 3 4 12000 bs1 → am_At l D dA m_X1_give d 0 0 0 0 n0 none (am_qv fun h' => am_fr h h' [3, 4, 33] ∧ snk h' (gvR v b s)) 0 0 26 [some (am_r 33), some (.inl (nI v)), some (.inl (nI b)), some (.inl (nI q))] [] H1 := by
        intro H1 bs1 eb hf1 g33 w1
        have hl := hk.2.2
        have hbl : bs1.length = (s'.2 + 1 + 7) / 8 := by
          rw [eb]
          split
          · rw [List.length_append, hl]
            show _ + 1 = _
            omega
          · rw [hl]; omega
        have p3 := w1.choose_spec.1
        refine am_aload_n dX1_give_26 rfl rfl ?_
        refine am_get f_X1_9 dX1_give_27 rfl g33 rfl ?_
        refine am_iload_n dX1_give_30 rfl rfl ?_
        refine am_iload_n dX1_give_31 rfl rfl ?_
        refine am_ishr dX1_give_32 rfl ?_
        rw [am_m31 (by omega), pk_shrN hv (nI q) q (am_smod (by omega))]
        refine am_iconst (v := nI 1) dX1_give_33 rfl (by decide +kernel) ?_
        refine am_iand dX1_give_34 rfl ?_
        rw [pk_andN (Nat.lt_of_le_of_lt (Nat.div_le_self v (2 ^ q)) (by omega)) (m := nI 1) 1 (by decide +kernel), show (2 : Nat) ^ 1 = 2 from rfl]
        have hb2 : v / 2 ^ q % 2 < 2 := Nat.mod_lt _ (by decide)
        refine am_bipush (v := nI 7) dX1_give_35 rfl (by decide +kernel) ?_
        refine am_aload_n dX1_give_37 rfl rfl ?_
        refine am_get f_X1_15 dX1_give_38 rfl g33 rfl ?_
        refine am_bipush (v := nI 7) dX1_give_41 rfl (by decide +kernel) ?_
        refine am_iand dX1_give_43 rfl ?_
        rw [pk_andN (by omega) (m := nI 7) 3 (by decide +kernel), show (2 : Nat) ^ 3 = 8 from rfl]
        refine am_isub dX1_give_44 rfl ?_
        rw [pk_sub (by omega)]
        refine am_ishl dX1_give_45 rfl ?_
        have hbs : v / 2 ^ q % 2 * 2 ^ (7 - s'.2 % 8) < 2 ^ 32 := by
          have : v / 2 ^ q % 2 * 2 ^ (7 - s'.2 % 8) ≤ 1 * 2 ^ 7 := Nat.mul_le_mul (by omega) hp7
          omega
        rw [am_m31 (by omega), pk_shlN (nI (7 - s'.2 % 8)) (7 - s'.2 % 8) (am_smod (by omega)) hbs]
        refine am_vv (t_mix (d - 1) _ w1 (by decide) (by decide) (by omega) (by omega) _) k_X3_mixIntoLast l_X1_28 dX1_give_46 rfl rfl rfl rfl p3 (by omega) (Nat.le_refl _) (Nat.le_refl _) (fun h2 hx => ?_)
        obtain ⟨f2, w2⟩ := hx
        have g2 := (f2 33 (by simp)).trans g33
        refine am_aload_n dX1_give_49 rfl rfl ?_
        refine am_dup dX1_give_50 rfl ?_
        refine am_get f_X1_15 dX1_give_51 rfl g2 rfl ?_
        refine am_iconst (v := nI 1) dX1_give_54 rfl (by decide +kernel) ?_
        refine am_iadd dX1_give_55 rfl ?_
        rw [nI_add]
        refine am_put f_X1_15 dX1_give_56 rfl g2 (am_fit_i _) rfl ?_
        refine am_iinc (n := (-1)) dX1_give_59 rfl rfl (am_dec1 (nI q)) ?_
        refine am_goto 4 dX1_give_62 rfl rfl ?_
        exact ih (gv1 s' (v / 2 ^ q % 2)) _ hR (by omega) (by show s'.2 + 1 + q ≤ _; omega) (((hf1.tr f2 (by simp))).set (by simp)) ⟨am_set_eq, by
          show rws _ 3 4 12000 (orl _ _)
          rw [← eb]
          exact w2.at (am_set_ne (by decide)) (am_set_ne (by decide)), by
          show (orl _ _).length = (s'.2 + 1 + 7) / 8
          rw [orl_len, ← eb]
          exact hbl⟩
      refine am_nif_ne 26 dX1_give_15 rfl rfl (by omega) (fun hc => ?_) (fun hc => ?_)
      · exact rest H s'.1 (by rw [if_neg (by omega)]) hfr hk.1 hk.2.1
      · have hl := hk.2.2
        refine am_aload_n dX1_give_18 rfl rfl ?_
        refine am_get f_X1_9 dX1_give_19 rfl hk.1 rfl ?_
        refine am_iconst (v := nI 0) dX1_give_22 rfl (by decide +kernel) ?_
        refine am_vv (t_add (d - 1) _ hk.2.1 (by decide) (by decide) (by omega) (nI 0)) k_X3_add l_X1_24 dX1_give_23 rfl rfl rfl rfl hk.2.1.choose_spec.1 (by omega) (Nat.le_refl _) (Nat.le_refl _) (fun h1 hx => ?_)
        obtain ⟨f1, w1⟩ := hx
        exact rest h1 _ (by rw [if_pos hc]) (hfr.tr f1 (by simp)) ((f1 33 (by simp)).trans hk.1) w1
  exact loop b s h rfl hb hg am_fr.rf hk
/-- a symbol's code -/
def cdN (len : Nat → Nat) (m y : Nat) : Nat := frst len m (len y) + cnt len (len y) y
def gsR (len : Nat → Nat) (m : Nat) (al : Int32) (y : Nat) (s : List Int32 × Nat) : List Int32 × Nat := if al = -1 then gvR (cdN len m y) (len y) s else s
/-- a tree is fit to be written by -/
def wdy (h : am_H) (t m : Nat) (al : Int32) (len : Nat → Nat) : Prop := h t = some (trO t al) ∧ lnA h (t + 1) m len ∧ (al = -1 → stl h t m len ∧ krf len m = 65536)
theorem wdy.at {h h' : am_H} {t m : Nat} {al : Int32} {len : Nat → Nat} (a : wdy h t m al len) (e : ∀ j, t ≤ j → j ≤ t + 7 → h' j = h j) : wdy h' t m al len := ⟨(e _ (by omega) (by omega)).trans a.1, a.2.1.at (e _ (by omega) (by omega)), fun g => ⟨(a.2.2 g).1.keep (fun j x y => e j (by omega) (by omega)), (a.2.2 g).2⟩⟩
theorem frst_lt {len : Nat → Nat} {m n : Nat} (h : ∀ s, s < m → len s ≤ 16) (hk : krf len m = 65536) (h1 : 1 ≤ n) (hn : n ≤ 16) : frst len m n + cnt len n m ≤ 65536 := by
  have h2 := smk_le_krf len m h (n + 1) (by omega)
  have h3 : smk len m (n + 1) = smk len m n + cnt len n m * 2 ^ (16 - n) := by show _ + _ = _; rw [if_neg (by omega)]
  rw [smk_frst len m n hn, ← Nat.add_mul] at h3
  have : (frst len m n + cnt len n m) * 1 ≤ (frst len m n + cnt len n m) * 2 ^ (16 - n) := Nat.mul_le_mul_left _ (Nat.pow_pos (by omega))
  omega
set_option maxHeartbeats 4000000 in
set_option maxRecDepth 100000 in
theorem t_X1_giveSymbol (d n0 : Nat) {h : am_H} {s : List Int32 × Nat} (hk : snk h s) {t m y : Nat} {al : Int32} {len : Nat → Nat} (hw : wdy h t m al len) (hm : m ≤ 510) (hy : y < m) (hl0 : al = -1 → 0 < len y) (hg : s.2 + len y ≤ 96000) (hd : 2 ≤ d) : am_Ct l D dA m_X1_giveSymbol d 0 0 n0 [am_r 33, am_r t, .inl (nI y)] h (am_qv fun h' => am_fr h h' [3, 4, 33] ∧ snk h' (gsR len m al y s)) := by
  refine am_Cv (by decide +kernel) rfl rfl ?_
  obtain ⟨ht, ⟨lf, h1, h2⟩, hst⟩ := hw
  refine am_aload_n dX1_giveSymbol_0 rfl rfl ?_
  refine am_vi (t_X7_isAlone (d - 1) _ ht) k_X7_isAlone l_X1_31 dX1_giveSymbol_1 rfl rfl rfl rfl ht (by omega) (Nat.le_refl _) (Nat.le_refl _) (fun x h1 hx => ?_)
  obtain ⟨rfl, hh⟩ := hx
  obtain rfl := hh.symm
  refine am_bif_ne 21 dX1_giveSymbol_4 rfl rfl (fun hc => ?_) (fun hc => ?_)
  · have hal : al ≠ -1 := by simpa using hc
    exact am_rv dX1_giveSymbol_21 rfl rfl rfl ⟨am_fr.rf, by unfold gsR; rw [if_neg hal]; exact hk⟩
  · have hal : al = -1 := by simpa using hc
    obtain ⟨⟨cf, orf, ct, fc, fp, c2, c4, c5, c6, c7, hT, hO⟩, hkr⟩ := hst hal
    have hl := hl0 hal
    have hl16 := (h2 y hy).2
    have e1 := (hO y hy (by omega)).1
    have e2 := frst_lt (n := len y) (fun s hs => (h2 s hs).2) hkr (by omega) hl16
    have e3 := cnt_lt hy (rfl : len y = len y)
    refine am_aload_n dX1_giveSymbol_7 rfl rfl ?_
    refine am_aload_n dX1_giveSymbol_8 rfl rfl ?_
    refine am_iload_n dX1_giveSymbol_9 rfl rfl ?_
    refine am_vi (t_X7_codeOf (d - 1) _ ht h1 (by omega) c2 (by omega) (nI y)) k_X7_codeOf l_X1_37 dX1_giveSymbol_10 rfl rfl rfl rfl ht (by omega) (Nat.le_refl _) (Nat.le_refl _) (fun x h1 hx => ?_)
    obtain ⟨rfl, hh⟩ := hx
    obtain rfl := hh.symm
    rw [ix_in hy (by omega)]
    dsimp only
    rw [e1]
    refine am_aload_n dX1_giveSymbol_13 rfl rfl ?_
    refine am_iload_n dX1_giveSymbol_14 rfl rfl ?_
    refine am_vi (t_X7_lengthOf (d - 1) _ ht h1 (by omega) (by omega) (nI y)) k_X7_lengthOf l_X1_41 dX1_giveSymbol_15 rfl rfl rfl rfl ht (by omega) (Nat.le_refl _) (Nat.le_refl _) (fun x h1 hx => ?_)
    obtain ⟨rfl, hh⟩ := hx
    obtain rfl := hh.symm
    rw [ix_in hy (by omega)]
    dsimp only
    rw [(h2 y hy).1]
    refine am_vv (t_X1_give (d - 1) _ hk (v := frst len m (len y) + cnt len (len y) y) (by omega) hl16 hg (by omega)) k_X1_give l_X1_44 dX1_giveSymbol_18 rfl rfl rfl rfl hk.1 (by omega) (Nat.le_refl _) (Nat.le_refl _) (fun h3 hx => ?_)
    exact am_rv dX1_giveSymbol_21 rfl rfl rfl ⟨hx.1, by unfold gsR; rw [if_pos hal]; exact hx.2⟩
def onR : Nat → List Int32 × Nat → List Int32 × Nat
  | 0, s => s
  | q + 1, s => onR q (gvR 1 1 s)
theorem onR_2 : ∀ (q : Nat) (s : List Int32 × Nat), (onR q s).2 = s.2 + q
  | 0, _ => rfl
  | q + 1, s => by
    show (onR q _).2 = _
    rw [onR_2 q, gvR_2]
    omega
def glR (v : Nat) (s : List Int32 × Nat) : List Int32 × Nat := if v < 7 then gvR v 3 s else gvR 0 1 (onR (v - 7) (gvR 7 3 s))
theorem glR_2 (v : Nat) (s : List Int32 × Nat) : (glR v s).2 = s.2 + (if v < 7 then 3 else v - 3) := by
  unfold glR
  split
  · rw [gvR_2]
  · rw [gvR_2, onR_2, gvR_2]
    omega
set_option maxHeartbeats 4000000 in
set_option maxRecDepth 100000 in
theorem t_X1_giveLength (d n0 : Nat) {h : am_H} {s : List Int32 × Nat} (hk : snk h s) {v : Nat} (hv : v ≤ 16) (hg : s.2 + 13 ≤ 96000) (hd : 2 ≤ d) : am_Ct l D dA m_X1_giveLength d 0 0 n0 [am_r 33, .inl (nI v)] h (am_qv fun h' => am_fr h h' [3, 4, 33] ∧ snk h' (glR v s)) := by
  refine am_Cv (by decide +kernel) rfl rfl ?_
  refine am_aload_n dX1_giveLength_0 rfl rfl ?_
  refine am_iload_n dX1_giveLength_1 rfl rfl ?_
  refine am_bipush (v := nI 7) dX1_giveLength_2 rfl (by decide +kernel) ?_
  refine am_min l_X1_48 wd_mins wd_mini wd_minc dX1_giveLength_4 rfl (Nat.le_of_ble_eq_true rfl) (by omega) (Nat.le_refl _) (Nat.le_refl _) ?_
  by_cases hv7 : v < 7
  · rw [if_neg (nI_nlt (by omega) (by omega))]
    refine am_iconst (v := nI 3) dX1_giveLength_7 rfl (by decide +kernel) ?_
    refine am_vv (t_X1_give (d - 1) _ hk (v := v) (b := 3) (by omega) (by omega) (by omega) (by omega)) k_X1_give l_X1_44 dX1_giveLength_8 rfl rfl rfl rfl hk.1 (by omega) (Nat.le_refl _) (Nat.le_refl _) (fun h1 hx => ?_)
    obtain ⟨f1, k1⟩ := hx
    refine am_iload_n dX1_giveLength_11 rfl rfl ?_
    refine am_bipush (v := nI 7) dX1_giveLength_12 rfl (by decide +kernel) ?_
    refine am_ncmp_lt 43 dX1_giveLength_14 rfl rfl (by omega) (by omega) (fun hc => ?_) (fun hc => ?_)
    · exact am_rv dX1_giveLength_43 rfl rfl rfl ⟨f1, by unfold glR; rw [if_pos hv7]; exact k1⟩
    · omega
  · rw [show (if nI 7 < nI v then nI 7 else nI v) = nI 7 by
      by_cases g : 7 < v
      · rw [if_pos (nI_lt g (by omega))]
      · rw [if_neg (nI_nlt (by omega) (by omega)), show v = 7 by omega]]
    refine am_iconst (v := nI 3) dX1_giveLength_7 rfl (by decide +kernel) ?_
    refine am_vv (t_X1_give (d - 1) _ hk (v := 7) (b := 3) (by omega) (by omega) (by omega) (by omega)) k_X1_give l_X1_44 dX1_giveLength_8 rfl rfl rfl rfl hk.1 (by omega) (Nat.le_refl _) (Nat.le_refl _) (fun h1 hx => ?_)
    obtain ⟨f1, k1⟩ := hx
    refine am_iload_n dX1_giveLength_11 rfl rfl ?_
    refine am_bipush (v := nI 7) dX1_giveLength_12 rfl (by decide +kernel) ?_
    refine am_ncmp_lt 43 dX1_giveLength_14 rfl rfl (by omega) (by omega) (fun hc => ?_) (fun hc => ?_)
    · omega
    · refine am_bipush (v := nI 7) dX1_giveLength_17 rfl (by decide +kernel) ?_
      refine am_istore_n dX1_giveLength_19 rfl rfl ?_
      have loop : ∀ (q i : Nat) (s' : List Int32 × Nat) (H : am_H), onR q s' = onR (v - 7) (gvR 7 3 s) → i + q = v → 7 ≤ i → s'.2 = s.2 + 3 + (i - 7) → am_fr h H [3, 4, 33] → snk H s' → am_At l D dA m_X1_giveLength d 0 0 0 0 n0 none (am_qv fun h' => am_fr h h' [3, 4, 33] ∧ snk h' (glR v s)) 0 0 20 [some (am_r 33), some (.inl (nI v)), some (.inl (nI i))] [] H := by
        intro q
        induction q with
        | zero =>
          intro i s' H hR hq hi hs hfr hk
          have hR : s' = _ := hR
          refine am_iload_n dX1_giveLength_20 rfl rfl ?_
          refine am_iload_n dX1_giveLength_21 rfl rfl ?_
          refine am_ncmp_ge 37 dX1_giveLength_22 rfl rfl (by omega) (by omega) (fun hc => ?_) (fun hc => ?_)
          · refine am_aload_n dX1_giveLength_37 rfl rfl ?_
            refine am_iconst (v := nI 0) dX1_giveLength_38 rfl (by decide +kernel) ?_
            refine am_iconst (v := nI 1) dX1_giveLength_39 rfl (by decide +kernel) ?_
            refine am_vv (t_X1_give (d - 1) _ hk (v := 0) (b := 1) (by omega) (by omega) (by omega) (by omega)) k_X1_give l_X1_44 dX1_giveLength_40 rfl rfl rfl rfl hk.1 (by omega) (Nat.le_refl _) (Nat.le_refl _) (fun h2 hx => ?_)
            exact am_rv dX1_giveLength_43 rfl rfl rfl ⟨hfr.tr hx.1 (by simp), by unfold glR; rw [if_neg hv7, ← hR]; exact hx.2⟩
          · omega
        | succ q ih =>
          intro i s' H hR hq hi hs hfr hk
          refine am_iload_n dX1_giveLength_20 rfl rfl ?_
          refine am_iload_n dX1_giveLength_21 rfl rfl ?_
          refine am_ncmp_ge 37 dX1_giveLength_22 rfl rfl (by omega) (by omega) (fun hc => ?_) (fun hc => ?_)
          · omega
          · refine am_aload_n dX1_giveLength_25 rfl rfl ?_
            refine am_iconst (v := nI 1) dX1_giveLength_26 rfl (by decide +kernel) ?_
            refine am_iconst (v := nI 1) dX1_giveLength_27 rfl (by decide +kernel) ?_
            refine am_vv (t_X1_give (d - 1) _ hk (v := 1) (b := 1) (by omega) (by omega) (by omega) (by omega)) k_X1_give l_X1_44 dX1_giveLength_28 rfl rfl rfl rfl hk.1 (by omega) (Nat.le_refl _) (Nat.le_refl _) (fun h2 hx => ?_)
            obtain ⟨f2, k2⟩ := hx
            refine am_iinc (n := 1) dX1_giveLength_31 rfl rfl (nI_1 i) ?_
            refine am_goto 20 dX1_giveLength_34 rfl rfl ?_
            exact ih (i + 1) _ h2 hR (by omega) (by omega) (by rw [gvR_2]; omega) (hfr.tr f2 (by simp)) k2
      exact loop (v - 7) 7 _ h1 rfl (by omega) (by omega) (by rw [gvR_2]) f1 k1
set_option maxHeartbeats 4000000 in
set_option maxRecDepth 100000 in
theorem t_X1_giveAlone (d n0 : Nat) {h : am_H} {s : List Int32 × Nat} (hk : snk h s) {y b : Nat} (hy : y < 2 ^ 20) (hb : b ≤ 16) (hg : s.2 + 2 * b ≤ 96000) (hd : 2 ≤ d) : am_Ct l D dA m_X1_giveAlone d 0 0 n0 [am_r 33, .inl (nI y), .inl (nI b)] h (am_qv fun h' => am_fr h h' [3, 4, 33] ∧ snk h' (gvR y b (gvR 0 b s))) := by
  refine am_Cv (by decide +kernel) rfl rfl ?_
  refine am_aload_n dX1_giveAlone_0 rfl rfl ?_
  refine am_iconst (v := nI 0) dX1_giveAlone_1 rfl (by decide +kernel) ?_
  refine am_iload_n dX1_giveAlone_2 rfl rfl ?_
  refine am_vv (t_X1_give (d - 1) _ hk (v := 0) (b := b) (by omega) hb (by omega) (by omega)) k_X1_give l_X1_44 dX1_giveAlone_3 rfl rfl rfl rfl hk.1 (by omega) (Nat.le_refl _) (Nat.le_refl _) (fun h1 hx => ?_)
  obtain ⟨f1, k1⟩ := hx
  refine am_aload_n dX1_giveAlone_6 rfl rfl ?_
  refine am_iload_n dX1_giveAlone_7 rfl rfl ?_
  refine am_iload_n dX1_giveAlone_8 rfl rfl ?_
  refine am_vv (t_X1_give (d - 1) _ k1 (v := y) (b := b) (by omega) hb (by rw [gvR_2]; omega) (by omega)) k_X1_give l_X1_44 dX1_giveAlone_9 rfl rfl rfl rfl k1.1 (by omega) (Nat.le_refl _) (Nat.le_refl _) (fun h2 hx => ?_)
  exact am_rv dX1_giveAlone_12 rfl rfl rfl ⟨f1.tr hx.1 (by simp), hx.2⟩
end SINK
end
section
/-! ===== CopyFinder ===== -/
section FIND
variable {l : Launch} {D : va_G} {dA : Bool → ClassId}
/-- a byte of the tape -/
def tb (tp : List Int32) (p : Nat) : Int32 := tp.getD p 0
def chn (tp : List Int32) (p : Nat) : Nat := (tb tp p * nI 961 + tb tp (p + 1) * nI 31 + tb tp (p + 2)).toBitVec.toNat % 4096
theorem chn_lt (tp : List Int32) (p : Nat) : chn tp p < 4096 := Nat.mod_lt _ (by decide)
/-- the latest place of a chain below p -/
def prv (ch : Nat → Nat) (c : Nat) : Nat → Int32
  | 0 => -1
  | p + 1 => if ch p = c then nI p else prv ch c p
theorem prv_cases (ch : Nat → Nat) (c : Nat) : ∀ p, (prv ch c p = -1 ∧ ∀ a, a < p → ch a ≠ c) ∨ ∃ a, a < p ∧ prv ch c p = nI a ∧ ch a = c ∧ ∀ b, a < b → b < p → ch b ≠ c
  | 0 => Or.inl ⟨rfl, fun a h => by omega⟩
  | p + 1 => by
    by_cases g : ch p = c
    · exact Or.inr ⟨p, by omega, if_pos g, g, fun b h1 h2 => by omega⟩
    · have e : prv ch c (p + 1) = prv ch c p := if_neg g
      rw [e]
      rcases prv_cases ch c p with ⟨h1, h2⟩ | ⟨a, h1, h2, h3, h4⟩
      · refine Or.inl ⟨h1, fun a ha => ?_⟩
        by_cases ea : a = p
        · rw [ea]; exact g
        · exact h2 a (by omega)
      · refine Or.inr ⟨a, by omega, h2, h3, fun b hb1 hb2 => ?_⟩
        by_cases eb : b = p
        · rw [eb]; exact g
        · exact h4 b hb1 (by omega)
/-- how many bytes are the same, up to a limit -/
def smR (tp : List Int32) (a b : Nat) : Nat → Nat
  | 0 => 0
  | q + 1 => if tb tp a = tb tp b then smR tp (a + 1) (b + 1) q + 1 else 0
theorem smR_le (tp : List Int32) : ∀ (q a b : Nat), smR tp a b q ≤ q
  | 0, _, _ => Nat.le_refl _
  | q + 1, a, b => by
    have := smR_le tp q (a + 1) (b + 1)
    unfold smR
    split <;> omega
theorem smR_at (tp : List Int32) : ∀ (q a b i : Nat), i < smR tp a b q → tb tp (a + i) = tb tp (b + i)
  | 0, a, b, i, h => absurd h (Nat.not_lt_zero i)
  | q + 1, a, b, i, h => by
    unfold smR at h
    split at h
    · rename_i g
      cases i with
      | zero => exact g
      | succ i =>
        have := smR_at tp q (a + 1) (b + 1) i (by omega)
        rwa [show a + 1 + i = a + (i + 1) by omega, show b + 1 + i = b + (i + 1) by omega] at this
    · omega
theorem smR_chn {tp : List Int32} {a b q : Nat} (h : 3 ≤ smR tp a b q) : chn tp a = chn tp b := by
  have h0 := smR_at tp q a b 0 (by omega)
  have h1 := smR_at tp q a b 1 (by omega)
  have h2 := smR_at tp q a b 2 (by omega)
  simp only [Nat.add_zero] at h0
  unfold chn
  rw [h0, h1, h2]
/-- the longest copy at p among the distances up to D: its length (2: none), its distance -/
def bst (tp : List Int32) (n p : Nat) : Nat → Nat × Nat
  | 0 => (2, 0)
  | D + 1 => if (bst tp n p D).1 < smR tp (p - (D + 1)) p (min 256 (n - p)) then (smR tp (p - (D + 1)) p (min 256 (n - p)), D + 1) else bst tp n p D
theorem bst_ok (tp : List Int32) (n p : Nat) : ∀ D, 2 ≤ (bst tp n p D).1 ∧ (bst tp n p D).2 ≤ D ∧ ((bst tp n p D).2 = 0 → (bst tp n p D).1 = 2) ∧ (0 < (bst tp n p D).2 → 3 ≤ (bst tp n p D).1 ∧ (bst tp n p D).1 ≤ min 256 (n - p))
  | 0 => ⟨Nat.le_refl _, Nat.le_refl _, fun _ => rfl, fun h => absurd h (Nat.lt_irrefl 0)⟩
  | D + 1 => by
    have ih := bst_ok tp n p D
    have hs := smR_le tp (min 256 (n - p)) (p - (D + 1)) p
    rw [bst]
    split
    · rename_i g
      exact ⟨by dsimp only; omega, Nat.le_refl _, fun h => absurd h (Nat.succ_ne_zero D), fun _ => ⟨by dsimp only; omega, hs⟩⟩
    · exact ⟨ih.1, by omega, ih.2.2.1, ih.2.2.2⟩
theorem bst_skip {tp : List Int32} {n p D : Nat} : ∀ (k : Nat), (∀ d, D < d → d ≤ D + k → chn tp (p - d) ≠ chn tp p) → bst tp n p (D + k) = bst tp n p D
  | 0, _ => rfl
  | k + 1, h => by
    have ih := bst_skip (n := n) k (fun d h1 h2 => h d h1 (by omega))
    show (if (bst tp n p (D + k)).1 < smR tp (p - (D + k + 1)) p (min 256 (n - p)) then _ else bst tp n p (D + k)) = _
    rw [if_neg, ih]
    intro g
    have := (bst_ok tp n p (D + k)).1
    exact h (D + k + 1) (by omega) (by omega) (smR_chn (q := min 256 (n - p)) (by omega))
theorem bst_full {tp : List Int32} {n p D : Nat} (hf : min 256 (n - p) ≤ (bst tp n p D).1) : ∀ (k : Nat), bst tp n p (D + k) = bst tp n p D
  | 0 => rfl
  | k + 1 => by
    have ih := bst_full hf k
    show (if (bst tp n p (D + k)).1 < smR tp (p - (D + k + 1)) p (min 256 (n - p)) then _ else bst tp n p (D + k)) = _
    rw [if_neg, ih]
    have := smR_le tp (min 256 (n - p)) (p - (D + k + 1)) p
    rw [ih]
    omega
abbrev fnO (en ln di : Nat) : am_E := .inr (4, [am_r 1, am_r 35, am_r 36, .inl (nI en), .inl (nI ln), .inl (nI di)])
set_option maxHeartbeats 4000000 in
set_option maxRecDepth 100000 in
theorem t_X4_chainOf (d n0 : Nat) {h : am_H} {en : Nat} {ln di : Int32} (hf : h 34 = some (.inr (4, [am_r 1, am_r 35, am_r 36, .inl (nI en), .inl ln, .inl di]))) {tp : List Int32} (hp : rws h 1 2 4000 tp) (htl : tp.length ≤ 4000) {p : Nat} (hpl : p + 3 ≤ tp.length) (hd : 2 ≤ d) : am_Ct l D dA m_X4_chainOf d 0 0 n0 [am_r 34, .inl (nI p)] h (am_qi fun x h' => x = nI (chn tp p) ∧ h' = h) := by
  refine am_Ci (by decide +kernel) rfl rfl ?_
  have p3 := hp.choose_spec.1
  refine am_aload_n dX4_chainOf_0 rfl rfl ?_
  refine am_get f_X4_9 dX4_chainOf_1 rfl hf rfl ?_
  refine am_iload_n dX4_chainOf_4 rfl rfl ?_
  refine am_vi (t_at (d - 1) _ hp (by decide) (by decide) (by omega) (by omega) (nI (p))) k_X3_at l_X4_48 dX4_chainOf_5 rfl rfl rfl rfl p3 (by omega) (Nat.le_refl _) (Nat.le_refl _) (fun x h1 hx => ?_)
  obtain ⟨rfl, hh⟩ := hx
  obtain rfl := hh.symm
  rw [ix_in (by omega) (by omega)]
  dsimp only
  refine am_sipush (v := nI 961) dX4_chainOf_8 rfl (by decide +kernel) ?_
  refine am_imul dX4_chainOf_11 rfl ?_
  refine am_aload_n dX4_chainOf_12 rfl rfl ?_
  refine am_get f_X4_9 dX4_chainOf_13 rfl hf rfl ?_
  refine am_iload_n dX4_chainOf_16 rfl rfl ?_
  refine am_iconst (v := nI 1) dX4_chainOf_17 rfl (by decide +kernel) ?_
  refine am_iadd dX4_chainOf_18 rfl ?_
  rw [nI_add]
  refine am_vi (t_at (d - 1) _ hp (by decide) (by decide) (by omega) (by omega) (nI (p + 1))) k_X3_at l_X4_48 dX4_chainOf_19 rfl rfl rfl rfl p3 (by omega) (Nat.le_refl _) (Nat.le_refl _) (fun x h1 hx => ?_)
  obtain ⟨rfl, hh⟩ := hx
  obtain rfl := hh.symm
  rw [ix_in (by omega) (by omega)]
  dsimp only
  refine am_bipush (v := nI 31) dX4_chainOf_22 rfl (by decide +kernel) ?_
  refine am_imul dX4_chainOf_24 rfl ?_
  refine am_iadd dX4_chainOf_25 rfl ?_
  refine am_aload_n dX4_chainOf_26 rfl rfl ?_
  refine am_get f_X4_9 dX4_chainOf_27 rfl hf rfl ?_
  refine am_iload_n dX4_chainOf_30 rfl rfl ?_
  refine am_iconst (v := nI 2) dX4_chainOf_31 rfl (by decide +kernel) ?_
  refine am_iadd dX4_chainOf_32 rfl ?_
  rw [nI_add]
  refine am_vi (t_at (d - 1) _ hp (by decide) (by decide) (by omega) (by omega) (nI (p + 2))) k_X3_at l_X4_48 dX4_chainOf_33 rfl rfl rfl rfl p3 (by omega) (Nat.le_refl _) (Nat.le_refl _) (fun x h1 hx => ?_)
  obtain ⟨rfl, hh⟩ := hx
  obtain rfl := hh.symm
  rw [ix_in (by omega) (by omega)]
  dsimp only
  refine am_iadd dX4_chainOf_36 rfl ?_
  refine am_sipush (v := nI 4095) dX4_chainOf_37 rfl (by decide +kernel) ?_
  refine am_iand dX4_chainOf_40 rfl ?_
  exact am_ri dX4_chainOf_41 rfl rfl rfl ⟨pk_and _ (m := nI 4095) 12 (by decide +kernel), rfl⟩
set_option maxHeartbeats 4000000 in
set_option maxRecDepth 100000 in
theorem t_X4_sameBytes (d n0 : Nat) {h : am_H} {en : Nat} {ln di : Int32} (hf : h 34 = some (.inr (4, [am_r 1, am_r 35, am_r 36, .inl (nI en), .inl ln, .inl di]))) {tp : List Int32} (hp : rws h 1 2 4000 tp) (htl : tp.length ≤ 4000) {a b q : Nat} (ha : a + q ≤ tp.length) (hb : b + q ≤ tp.length) (hd : 2 ≤ d) : am_Ct l D dA m_X4_sameBytes d 0 0 n0 [am_r 34, .inl (nI a), .inl (nI b), .inl (nI q)] h (am_qi fun x h' => x = nI (smR tp a b q) ∧ h' = h) := by
  refine am_Ci (by decide +kernel) rfl rfl ?_
  have p3 := hp.choose_spec.1
  refine am_iconst (v := nI 0) dX4_sameBytes_0 rfl (by decide +kernel) ?_
  refine am_istore dX4_sameBytes_1 rfl rfl ?_
  have loop : ∀ (r i : Nat), i + r = q → smR tp a b q = i + smR tp (a + i) (b + i) r → am_At l D dA m_X4_sameBytes d 0 0 0 0 n0 none (am_qi fun x h' => x = nI (smR tp a b q) ∧ h' = h) 0 0 3 [some (am_r 34), some (.inl (nI a)), some (.inl (nI b)), some (.inl (nI q)), some (.inl (nI i))] [] h := by
    intro r
    induction r with
    | zero =>
      intro i hi hz
      refine am_iload dX4_sameBytes_3 rfl rfl ?_
      refine am_iload_n dX4_sameBytes_5 rfl rfl ?_
      refine am_ncmp_ge 43 dX4_sameBytes_6 rfl rfl (by omega) (by omega) (fun hc => ?_) (fun hc => ?_)
      · refine am_iload_n dX4_sameBytes_43 rfl rfl ?_
        exact am_ri dX4_sameBytes_44 rfl rfl rfl ⟨by rw [hz]; congr 1; show q = i + 0; omega, rfl⟩
      · omega
    | succ r ih =>
      intro i hi hz
      refine am_iload dX4_sameBytes_3 rfl rfl ?_
      refine am_iload_n dX4_sameBytes_5 rfl rfl ?_
      refine am_ncmp_ge 43 dX4_sameBytes_6 rfl rfl (by omega) (by omega) (fun hc => ?_) (fun hc => ?_)
      · omega
      · refine am_aload_n dX4_sameBytes_9 rfl rfl ?_
        refine am_get f_X4_9 dX4_sameBytes_10 rfl hf rfl ?_
        refine am_iload_n dX4_sameBytes_13 rfl rfl ?_
        refine am_iload dX4_sameBytes_14 rfl rfl ?_
        refine am_iadd dX4_sameBytes_16 rfl ?_
        rw [nI_add]
        refine am_vi (t_at (d - 1) _ hp (by decide) (by decide) (by omega) (by omega) (nI (a + i))) k_X3_at l_X4_48 dX4_sameBytes_17 rfl rfl rfl rfl p3 (by omega) (Nat.le_refl _) (Nat.le_refl _) (fun x h1 hx => ?_)
        obtain ⟨rfl, hh⟩ := hx
        obtain rfl := hh.symm
        rw [ix_in (by omega) (by omega)]
        dsimp only
        refine am_aload_n dX4_sameBytes_20 rfl rfl ?_
        refine am_get f_X4_9 dX4_sameBytes_21 rfl hf rfl ?_
        refine am_iload_n dX4_sameBytes_24 rfl rfl ?_
        refine am_iload dX4_sameBytes_25 rfl rfl ?_
        refine am_iadd dX4_sameBytes_27 rfl ?_
        rw [nI_add]
        refine am_vi (t_at (d - 1) _ hp (by decide) (by decide) (by omega) (by omega) (nI (b + i))) k_X3_at l_X4_48 dX4_sameBytes_28 rfl rfl rfl rfl p3 (by omega) (Nat.le_refl _) (Nat.le_refl _) (fun x h1 hx => ?_)
        obtain ⟨rfl, hh⟩ := hx
        obtain rfl := hh.symm
        rw [ix_in (by omega) (by omega)]
        dsimp only
        refine am_icmp_eq 37 dX4_sameBytes_31 rfl rfl (fun hc => ?_) (fun hc => ?_)
        · refine am_iinc (n := 1) dX4_sameBytes_37 rfl rfl (nI_1 i) ?_
          refine am_goto 3 dX4_sameBytes_40 rfl rfl ?_
          have hc : tb tp (a + i) = tb tp (b + i) := hc
          refine ih (i + 1) (by omega) ?_
          rw [hz]
          show i + (if tb tp (a + i) = tb tp (b + i) then smR tp (a + i + 1) (b + i + 1) r + 1 else 0) = _
          rw [if_pos hc, show a + (i + 1) = a + i + 1 by omega, show b + (i + 1) = b + i + 1 by omega]
          omega
        · have hc : ¬ tb tp (a + i) = tb tp (b + i) := hc
          refine am_iload dX4_sameBytes_34 rfl rfl ?_
          exact am_ri dX4_sameBytes_36 rfl rfl rfl ⟨by rw [hz]; show nI i = nI (i + (if tb tp (a + i) = tb tp (b + i) then _ else 0)); rw [if_neg hc]; rfl, rfl⟩
  exact loop q 0 (by omega) (by rw [Nat.zero_add]; rfl)
/-- the chains are made -/
def chs (h : am_H) (tp : List Int32) (n : Nat) : Prop := ars h 35 4096 ∧ ∃ ea : Nat → Int32, h 36 = some (.inl (false, 4000, ea)) ∧ ∀ p, p + 3 ≤ n → ea p = prv (chn tp) (chn tp p) p
theorem chs.at {h h' : am_H} {tp : List Int32} {n : Nat} (a : chs h tp n) (e1 : h' 35 = h 35) (e2 : h' 36 = h 36) : chs h' tp n := by
  obtain ⟨a1, ea, a2, a3⟩ := a
  exact ⟨a1.at e1, ea, e2.trans a2, a3⟩
set_option maxHeartbeats 4000000 in
set_option maxRecDepth 100000 in
theorem t_X4_open (d n0 : Nat) {h : am_H} {en ln di : Int32} (hf : h 34 = some (.inr (4, [am_r 1, am_r 35, am_r 36, .inl en, .inl ln, .inl di]))) (h35 : ars h 35 4096) (h36 : ars h 36 4000) {tp : List Int32} (hp : rws h 1 2 4000 tp) (htl : tp.length ≤ 4000) {n : Nat} (hn : n ≤ tp.length) (hd : 3 ≤ d) : am_Ct l D dA m_X4_open d 0 0 n0 [am_r 34, .inl (nI n)] h (am_qv fun h' => am_fr h h' [34, 35, 36] ∧ (∃ ln di, h' 34 = some (.inr (4, [am_r 1, am_r 35, am_r 36, .inl (nI n), .inl ln, .inl di]))) ∧ chs h' tp n) := by
  refine am_Cv (by decide +kernel) rfl rfl ?_
  obtain ⟨l0, h35⟩ := h35
  obtain ⟨e0, h36⟩ := h36
  refine am_aload_n dX4_open_0 rfl rfl ?_
  refine am_iload_n dX4_open_1 rfl rfl ?_
  refine am_aload_n dX4_open_2 rfl rfl ?_
  refine am_get f_X4_19 dX4_open_3 rfl hf rfl ?_
  refine am_alen dX4_open_6 rfl h36 ?_
  refine am_min l_X4_32 wd_mins wd_mini wd_minc dX4_open_7 rfl (Nat.le_of_ble_eq_true rfl) (by omega) (Nat.le_refl _) (Nat.le_refl _) ?_
  rw [if_neg (nI_nlt (by omega) (by omega))]
  refine am_put f_X4_22 dX4_open_10 rfl hf (am_fit_i _) rfl ?_
  obtain ⟨h1, e1⟩ : ∃ h1, h1 = am_set h 34 (.inr (4, ([am_r 1, am_r 35, am_r 36, .inl en, .inl ln, .inl di] : List am_V).set 3 (.inl (nI n)))) := ⟨_, rfl⟩
  rw [← e1]
  have f1 : am_fr h h1 [34] := by rw [e1]; exact am_fr.rf.set (by simp)
  have g1 : h1 34 = some (.inr (4, [am_r 1, am_r 35, am_r 36, .inl (nI n), .inl ln, .inl di])) := by rw [e1]; exact am_set_eq
  have h35 := (f1 35 (by simp)).trans h35
  have h36 := (f1 36 (by simp)).trans h36
  have hp := hp.at (h' := h1) (f1 1 (by simp)) (f1 2 (by simp))
  refine am_aload_n dX4_open_13 rfl rfl ?_
  refine am_get f_X4_15 dX4_open_14 rfl g1 rfl ?_
  refine am_iconst (v := -1) dX4_open_17 rfl (by decide +kernel) ?_
  refine am_sv (t_fill (d - 1) _ h35 (by decide) (-1)) k_J7_fill_53178 l_X4_38 dX4_open_18 rfl rfl rfl rfl (by omega) (Nat.le_refl _) (Nat.le_refl _) (fun h2 hx => ?_)
  have f2 : am_fr h1 h2 [35] := by rw [hx]; exact am_fr.rf.set (by simp)
  have h35b : h2 35 = some (.inl (false, 4096, fun j => if j < 4096 then -1 else l0 j)) := by rw [hx]; exact am_set_eq
  refine am_iconst (v := nI 0) dX4_open_21 rfl (by decide +kernel) ?_
  refine am_istore_n dX4_open_22 rfl rfl ?_
  have loop : ∀ (q p : Nat) (x3 : Option am_V) (H : am_H) (lt ea : Nat → Int32), p + q = n - 2 → am_fr h1 H [35, 36] → H 35 = some (.inl (false, 4096, lt)) → H 36 = some (.inl (false, 4000, ea)) → (∀ c, c < 4096 → lt c = prv (chn tp) c p) → (∀ p', p' < p → ea p' = prv (chn tp) (chn tp p') p') → am_At l D dA m_X4_open d 0 0 0 0 n0 none (am_qv fun h' => am_fr h h' [34, 35, 36] ∧ (∃ ln di, h' 34 = some (.inr (4, [am_r 1, am_r 35, am_r 36, .inl (nI n), .inl ln, .inl di]))) ∧ chs h' tp n) 0 0 23 [some (am_r 34), some (.inl (nI n)), some (.inl (nI p)), x3] [] H := by
    intro q
    induction q with
    | zero =>
      intro p x3 H lt ea hq hfr g35 g36 hlt hea
      have g34 := (hfr 34 (by simp)).trans g1
      refine am_iload_n dX4_open_23 rfl rfl ?_
      refine am_iconst (v := nI 3) dX4_open_24 rfl (by decide +kernel) ?_
      refine am_iadd dX4_open_25 rfl ?_
      rw [nI_add]
      refine am_aload_n dX4_open_26 rfl rfl ?_
      refine am_get f_X4_22 dX4_open_27 rfl g34 rfl ?_
      refine am_ncmp_gt 64 dX4_open_30 rfl rfl (by omega) (by omega) (fun hc => ?_) (fun hc => ?_)
      · exact am_rv dX4_open_64 rfl rfl rfl ⟨am_fr.tr (am_fr.rf.tr f1 (by simp)) hfr (by simp), ⟨_, _, g34⟩, ⟨_, g35⟩, ea, g36, fun p' hp' => hea p' (by omega)⟩
      · omega
    | succ q ih =>
      intro p x3 H lt ea hq hfr g35 g36 hlt hea
      have g34 := (hfr 34 (by simp)).trans g1
      have hpH := hp.at (h' := H) (hfr 1 (by simp)) (hfr 2 (by simp))
      have hcl := chn_lt tp p
      refine am_iload_n dX4_open_23 rfl rfl ?_
      refine am_iconst (v := nI 3) dX4_open_24 rfl (by decide +kernel) ?_
      refine am_iadd dX4_open_25 rfl ?_
      rw [nI_add]
      refine am_aload_n dX4_open_26 rfl rfl ?_
      refine am_get f_X4_22 dX4_open_27 rfl g34 rfl ?_
      refine am_ncmp_gt 64 dX4_open_30 rfl rfl (by omega) (by omega) (fun hc => ?_) (fun hc => ?_)
      · omega
      · refine am_aload_n dX4_open_33 rfl rfl ?_
        refine am_iload_n dX4_open_34 rfl rfl ?_
        refine am_vi (t_X4_chainOf (d - 1) _ g34 hpH htl (p := p) (by omega) (by omega)) k_X4_chainOf l_X4_44 dX4_open_35 rfl rfl rfl rfl g34 (by omega) (Nat.le_refl _) (Nat.le_refl _) (fun x h1 hx => ?_)
        obtain ⟨rfl, hh⟩ := hx
        obtain rfl := hh.symm
        refine am_istore_n dX4_open_38 rfl rfl ?_
        refine am_aload_n dX4_open_39 rfl rfl ?_
        refine am_get f_X4_19 dX4_open_40 rfl g34 rfl ?_
        refine am_iload_n dX4_open_43 rfl rfl ?_
        refine am_aload_n dX4_open_44 rfl rfl ?_
        refine am_get f_X4_15 dX4_open_45 rfl g34 rfl ?_
        refine am_iload_n dX4_open_48 rfl rfl ?_
        refine am_iald dX4_open_49 rfl g35 (by omega) (by omega) ?_
        refine am_iast dX4_open_50 rfl g36 (by omega) (by omega) ?_
        refine am_aload_n dX4_open_51 rfl rfl ?_
        refine am_get f_X4_15 dX4_open_52 rfl ((am_set_ne (by omega)).trans g34) rfl ?_
        refine am_iload_n dX4_open_55 rfl rfl ?_
        refine am_iload_n dX4_open_56 rfl rfl ?_
        refine am_iast dX4_open_57 rfl ((am_set_ne (by omega)).trans g35) (by omega) (by omega) ?_
        refine am_iinc (n := 1) dX4_open_58 rfl rfl (nI_1 p) ?_
        refine am_goto 23 dX4_open_61 rfl rfl ?_
        refine ih (p + 1) _ _ _ _ (by omega) ((hfr.set (by simp)).set (by simp)) am_set_eq ((am_set_ne (by decide)).trans am_set_eq) (fun c hc => ?_) (fun p' hp' => ?_)
        · show _ = (if chn tp p = c then nI p else prv (chn tp) c p)
          by_cases e : c = chn tp p
          · subst e; rw [upd_eq, if_pos rfl]
          · rw [upd_ne e, if_neg (fun z => e z.symm)]; exact hlt c hc
        · by_cases e : p' = p
          · subst e; rw [upd_eq]; exact hlt _ hcl
          · rw [upd_ne e]; exact hea p' (by omega)
  refine loop (n - 2) 0 _ h2 _ e0 (by omega) (am_fr.rf.tr f2 (by simp)) h35b ((f2 36 (by simp)).trans h36) (fun c hc => ?_) (fun p' hp' => by omega)
  rw [if_pos hc]
  rfl
set_option maxHeartbeats 4000000 in
set_option maxRecDepth 100000 in
theorem t_X4_find (d n0 : Nat) {h : am_H} {en : Nat} {ln di : Int32} (hf : h 34 = some (.inr (4, [am_r 1, am_r 35, am_r 36, .inl (nI en), .inl ln, .inl di]))) {tp : List Int32} (hp : rws h 1 2 4000 tp) (htl : tp.length ≤ 4000) (hen : en ≤ tp.length) (hch : chs h tp en) {p : Nat} (hpe : p < en) (hd : 3 ≤ d) : am_Ct l D dA m_X4_find d 0 0 n0 [am_r 34, .inl (nI p)] h (am_qi fun x h' => am_fr h h' [34] ∧ x = am_bz (decide (0 < (bst tp en p p).2)) ∧ ∃ di', h' 34 = some (.inr (4, [am_r 1, am_r 35, am_r 36, .inl (nI en), .inl (nI (bst tp en p p).1), .inl di'])) ∧ (0 < (bst tp en p p).2 → di' = nI (bst tp en p p).2)) := by
  refine am_Cz (by decide +kernel) rfl (fun x h' hx => by rw [hx.2.1]; exact am_bz_01 _) rfl ?_
  obtain ⟨h35, ea, h36, hea⟩ := hch
  refine am_aload_n dX4_find_0 rfl rfl ?_
  refine am_iconst (v := nI 2) dX4_find_1 rfl (by decide +kernel) ?_
  refine am_put f_X4_26 dX4_find_2 rfl hf (am_fit_i _) rfl ?_
  obtain ⟨h1, e1⟩ : ∃ h1, h1 = am_set h 34 (.inr (4, ([am_r 1, am_r 35, am_r 36, .inl (nI en), .inl ln, .inl di] : List am_V).set 4 (.inl (nI 2)))) := ⟨_, rfl⟩
  rw [← e1]
  have f1 : am_fr h h1 [34] := by rw [e1]; exact am_fr.rf.set (by simp)
  have g1 : h1 34 = some (.inr (4, [am_r 1, am_r 35, am_r 36, .inl (nI en), .inl (nI 2), .inl di])) := by rw [e1]; exact am_set_eq
  have h36 := (f1 36 (by simp)).trans h36
  have hp := hp.at (h' := h1) (f1 1 (by simp)) (f1 2 (by simp))
  clear e1
  refine am_sipush (v := nI 256) dX4_find_5 rfl (by decide +kernel) ?_
  refine am_aload_n dX4_find_8 rfl rfl ?_
  refine am_get f_X4_22 dX4_find_9 rfl g1 rfl ?_
  refine am_iload_n dX4_find_12 rfl rfl ?_
  refine am_isub dX4_find_13 rfl ?_
  rw [pk_sub (by omega)]
  refine am_min l_X4_32 wd_mins wd_mini wd_minc dX4_find_14 rfl (Nat.le_of_ble_eq_true rfl) (by omega) (Nat.le_refl _) (Nat.le_refl _) ?_
  rw [show (if nI (en - p) < nI 256 then nI (en - p) else nI 256) = nI (min 256 (en - p)) by
    by_cases g : en - p < 256
    · rw [if_pos (nI_lt g (by omega)), Nat.min_eq_right (by omega)]
    · rw [if_neg (nI_nlt (by omega) (by omega)), Nat.min_eq_left (by omega)]]
  obtain ⟨lim, elim⟩ : ∃ lim, lim = min 256 (en - p) := ⟨_, rfl⟩
  rw [← elim]
  have hok := bst_ok tp en p p
  rw [← elim] at hok
  refine am_istore_n dX4_find_17 rfl rfl ?_
  refine am_iload_n dX4_find_18 rfl rfl ?_
  refine am_nif_lt 27 dX4_find_19 rfl rfl (by omega) ?_
  refine am_iload_n dX4_find_22 rfl rfl ?_
  refine am_iconst (v := nI 3) dX4_find_23 rfl (by decide +kernel) ?_
  refine am_ncmp_ge 29 dX4_find_24 rfl rfl (by omega) (by omega) (fun hc => ?_) (fun hc => ?_)
  · refine am_aload_n dX4_find_29 rfl rfl ?_
    refine am_get f_X4_19 dX4_find_30 rfl g1 rfl ?_
    refine am_iload_n dX4_find_33 rfl rfl ?_
    refine am_iald dX4_find_34 rfl h36 (by omega) (by omega) ?_
    rw [hea p (by omega)]
    refine am_istore_n dX4_find_35 rfl rfl ?_
    refine am_iconst (v := nI 0) dX4_find_36 rfl (by decide +kernel) ?_
    refine am_istore dX4_find_37 rfl rfl ?_
    have fin : ∀ (H : am_H) (x3 x4 x5 : Option am_V) (Dd : Nat) (di' : Int32), bst tp en p p = bst tp en p Dd → am_fr h H [34] → H 34 = some (.inr (4, [am_r 1, am_r 35, am_r 36, .inl (nI en), .inl (nI (bst tp en p Dd).1), .inl di'])) → (0 < (bst tp en p Dd).2 → di' = nI (bst tp en p Dd).2) → am_At l D dA m_X4_find d 0 0 0 0 n0 none (am_qi fun x h' => am_fr h h' [34] ∧ x = am_bz (decide (0 < (bst tp en p p).2)) ∧ ∃ di', h' 34 = some (.inr (4, [am_r 1, am_r 35, am_r 36, .inl (nI en), .inl (nI (bst tp en p p).1), .inl di'])) ∧ (0 < (bst tp en p p).2 → di' = nI (bst tp en p p).2)) 0 0 113 [some (am_r 34), some (.inl (nI p)), some (.inl (nI lim)), x3, x4, x5] [] H := by
      intro H x3 x4 x5 Dd di' hB hfr g34 hdi
      rw [← hB] at g34 hdi
      refine am_aload_n dX4_find_113 rfl rfl ?_
      refine am_get f_X4_26 dX4_find_114 rfl g34 rfl ?_
      refine am_iconst (v := nI 3) dX4_find_117 rfl (by decide +kernel) ?_
      have hb1 : (bst tp en p p).1 < 2 ^ 31 := by
        rcases Nat.eq_zero_or_pos (bst tp en p p).2 with g | g
        · rw [hok.2.2.1 g]; decide
        · have := (hok.2.2.2 g).2; omega
      refine am_ncmp_lt 125 dX4_find_118 rfl rfl (by omega) (by omega) (fun hc => ?_) (fun hc => ?_)
      · refine am_iconst (v := nI 0) dX4_find_125 rfl (by decide +kernel) ?_
        exact am_ri dX4_find_126 rfl rfl rfl ⟨hfr, by
          rw [decide_eq_false]
          · rfl
          · intro g
            have := (hok.2.2.2 g).1
            omega, di', g34, hdi⟩
      · refine am_iconst (v := nI 1) dX4_find_121 rfl (by decide +kernel) ?_
        refine am_goto 126 dX4_find_122 rfl rfl ?_
        exact am_ri dX4_find_126 rfl rfl rfl ⟨hfr, by
          rw [decide_eq_true]
          · rfl
          · rcases Nat.eq_zero_or_pos (bst tp en p p).2 with g | g
            · have := hok.2.2.1 g; omega
            · exact g, di', g34, hdi⟩
    have loop : ∀ (q i Dd : Nat) (x5 : Option am_V) (H : am_H) (di' : Int32), Dd + q = p → i ≤ Dd → am_fr h H [34] → H 34 = some (.inr (4, [am_r 1, am_r 35, am_r 36, .inl (nI en), .inl (nI (bst tp en p Dd).1), .inl di'])) → (0 < (bst tp en p Dd).2 → di' = nI (bst tp en p Dd).2) → am_At l D dA m_X4_find d 0 0 0 0 n0 none (am_qi fun x h' => am_fr h h' [34] ∧ x = am_bz (decide (0 < (bst tp en p p).2)) ∧ ∃ di', h' 34 = some (.inr (4, [am_r 1, am_r 35, am_r 36, .inl (nI en), .inl (nI (bst tp en p p).1), .inl di'])) ∧ (0 < (bst tp en p p).2 → di' = nI (bst tp en p p).2)) 0 0 39 [some (am_r 34), some (.inl (nI p)), some (.inl (nI lim)), some (.inl (prv (chn tp) (chn tp p) (p - Dd))), some (.inl (nI i)), x5] [] H := by
      intro q
      induction q using Nat.strongRecOn with
      | _ q ih =>
      intro i Dd x5 H di' hq hi hfr g34 hdi
      have h36H := (hfr 36 (by simp)).trans ((f1 36 (by simp)).symm.trans h36)
      have hpH := hp.at (h' := H) ((hfr 1 (by simp)).trans (f1 1 (by simp)).symm) ((hfr 2 (by simp)).trans (f1 2 (by simp)).symm)
      have hbd := bst_ok tp en p Dd
      rw [← elim] at hbd
      have hb1 : (bst tp en p Dd).1 < 2 ^ 31 := by
        rcases Nat.eq_zero_or_pos (bst tp en p Dd).2 with g | g
        · rw [hbd.2.2.1 g]; decide
        · have := (hbd.2.2.2 g).2; omega
      have skipAll : (∀ a, a < p - Dd → chn tp a ≠ chn tp p) → bst tp en p p = bst tp en p Dd := fun hs => by
        have := bst_skip (tp := tp) (n := en) (p := p) (D := Dd) (p - Dd) (fun dd a b => by
          by_cases e : dd ≤ p
          · exact hs (p - dd) (by omega)
          · omega)
        rwa [show Dd + (p - Dd) = p by omega] at this
      refine am_iload dX4_find_39 rfl rfl ?_
      refine am_iload_n dX4_find_41 rfl rfl ?_
      refine am_ncmp_ge 113 dX4_find_42 rfl rfl (by omega) (by omega) (fun hip => ?_) (fun hip => ?_)
      · exact fin H _ _ _ Dd di' (skipAll (fun a ha => by omega)) hfr g34 hdi
      · refine am_iload_n dX4_find_45 rfl rfl ?_
        rcases prv_cases (chn tp) (chn tp p) (p - Dd) with ⟨z1, z2⟩ | ⟨a, z1, z2, z3, z4⟩
        · rw [z1]
          refine am_if_lt 113 dX4_find_46 rfl rfl (fun hc => ?_) (fun hc => ?_)
          · exact fin H _ _ _ Dd di' (skipAll z2) hfr g34 hdi
          · exact absurd (by decide +kernel) hc
        · rw [z2]
          refine am_nif_lt 113 dX4_find_46 rfl rfl (by omega) ?_
          refine am_aload_n dX4_find_49 rfl rfl ?_
          refine am_get f_X4_26 dX4_find_50 rfl g34 rfl ?_
          refine am_iload_n dX4_find_53 rfl rfl ?_
          refine am_ncmp_ge 113 dX4_find_54 rfl rfl (by omega) (by omega) (fun hfull => ?_) (fun hfull => ?_)
          · refine fin H _ _ _ Dd di' ?_ hfr g34 hdi
            have := bst_full (tp := tp) (n := en) (p := p) (D := Dd) (by rw [← elim]; exact hfull) (p - Dd)
            rwa [show Dd + (p - Dd) = p by omega] at this
          · refine am_iload_n dX4_find_57 rfl rfl ?_
            refine am_iload_n dX4_find_58 rfl rfl ?_
            refine am_isub dX4_find_59 rfl ?_
            rw [pk_sub (by omega)]
            refine am_sipush (v := nI 8191) dX4_find_60 rfl (by decide +kernel) ?_
            refine am_ncmp_le 69 dX4_find_63 rfl rfl (by omega) (by omega) (fun hc => ?_) (fun hc => ?_)
            · have hsl := smR_le tp lim a p
              refine am_aload_n dX4_find_69 rfl rfl ?_
              refine am_iload_n dX4_find_70 rfl rfl ?_
              refine am_iload_n dX4_find_71 rfl rfl ?_
              refine am_iload_n dX4_find_72 rfl rfl ?_
              refine am_vi (t_X4_sameBytes (d - 1) _ g34 hpH htl (a := a) (b := p) (q := lim) (by omega) (by omega) (by omega)) k_X4_sameBytes l_X4_53 dX4_find_73 rfl rfl rfl rfl g34 (by omega) (Nat.le_refl _) (Nat.le_refl _) (fun x h1 hx => ?_)
              obtain ⟨rfl, hh⟩ := hx
              obtain rfl := hh.symm
              have hstep : bst tp en p (p - a) = if (bst tp en p Dd).1 < smR tp a p lim then (smR tp a p lim, p - a) else bst tp en p Dd := by
                have e0 := bst_skip (tp := tp) (n := en) (p := p) (D := Dd) (p - a - 1 - Dd) (fun dd x y => z4 (p - dd) (by omega) (by omega))
                rw [show Dd + (p - a - 1 - Dd) = p - a - 1 by omega] at e0
                have e1 : p - a = p - a - 1 + 1 := by omega
                rw [e1, bst, e0, ← elim, show p - (p - a - 1 + 1) = a by omega]
              refine am_istore dX4_find_76 rfl rfl ?_
              refine am_iload dX4_find_78 rfl rfl ?_
              refine am_aload_n dX4_find_80 rfl rfl ?_
              refine am_get f_X4_26 dX4_find_81 rfl g34 rfl ?_
              refine am_ncmp_le 100 dX4_find_84 rfl rfl (by omega) (by omega) (fun hc => ?_) (fun hc => ?_)
              · rw [if_neg (by omega)] at hstep
                refine am_aload_n dX4_find_100 rfl rfl ?_
                refine am_get f_X4_19 dX4_find_101 rfl g34 rfl ?_
                refine am_iload_n dX4_find_104 rfl rfl ?_
                refine am_iald dX4_find_105 rfl h36H (by omega) (by omega) ?_
                rw [hea a (by omega), z3]
                refine am_istore_n dX4_find_106 rfl rfl ?_
                refine am_iinc (n := 1) dX4_find_107 rfl rfl (nI_1 i) ?_
                refine am_goto 39 dX4_find_110 rfl rfl ?_
                have := ih (p - (p - a)) (by omega) (i + 1) (p - a) (some (.inl (nI (smR tp a p lim)))) H di' (by omega) (by omega) hfr (by rw [hstep]; exact g34) (by rw [hstep]; exact hdi)
                rw [show p - (p - a) = a by omega] at this
                exact this
              · rw [if_pos hc] at hstep
                refine am_aload_n dX4_find_87 rfl rfl ?_
                refine am_iload dX4_find_88 rfl rfl ?_
                refine am_put f_X4_26 dX4_find_90 rfl g34 (am_fit_i _) rfl ?_
                refine am_aload_n dX4_find_93 rfl rfl ?_
                refine am_iload_n dX4_find_94 rfl rfl ?_
                refine am_iload_n dX4_find_95 rfl rfl ?_
                refine am_isub dX4_find_96 rfl ?_
                rw [pk_sub (by omega)]
                refine am_put f_X4_29 dX4_find_97 rfl am_set_eq (am_fit_i _) rfl ?_
                refine am_aload_n dX4_find_100 rfl rfl ?_
                refine am_get f_X4_19 dX4_find_101 rfl am_set_eq rfl ?_
                refine am_iload_n dX4_find_104 rfl rfl ?_
                refine am_iald dX4_find_105 rfl ((am_set_ne (by omega)).trans ((am_set_ne (by omega)).trans h36H)) (by omega) (by omega) ?_
                rw [hea a (by omega), z3]
                refine am_istore_n dX4_find_106 rfl rfl ?_
                refine am_iinc (n := 1) dX4_find_107 rfl rfl (nI_1 i) ?_
                refine am_goto 39 dX4_find_110 rfl rfl ?_
                have key : ∀ (H9 : am_H), am_fr h H9 [34] → H9 34 = some (.inr (4, [am_r 1, am_r 35, am_r 36, .inl (nI en), .inl (nI (smR tp a p lim)), .inl (nI (p - a))])) → am_At l D dA m_X4_find d 0 0 0 0 n0 none (am_qi fun x h' => am_fr h h' [34] ∧ x = am_bz (decide (0 < (bst tp en p p).2)) ∧ ∃ di', h' 34 = some (.inr (4, [am_r 1, am_r 35, am_r 36, .inl (nI en), .inl (nI (bst tp en p p).1), .inl di'])) ∧ (0 < (bst tp en p p).2 → di' = nI (bst tp en p p).2)) 0 0 39 [some (am_r 34), some (.inl (nI p)), some (.inl (nI lim)), some (.inl (prv (chn tp) (chn tp p) a)), some (.inl (nI (i + 1))), some (.inl (nI (smR tp a p lim)))] [] H9 := by
                  intro H9 f9 g9
                  have := ih (p - (p - a)) (by omega) (i + 1) (p - a) (some (.inl (nI (smR tp a p lim)))) H9 (nI (p - a)) (by omega) (by omega) f9 (by rw [hstep]; exact g9) (by rw [hstep]; exact fun _ => rfl)
                  rw [show p - (p - a) = a by omega] at this
                  exact this
                exact key _ ((hfr.set (by simp)).set (by simp)) am_set_eq
            · omega
    have := loop p 0 0 none h1 di (by omega) (by omega) f1 g1 (fun g => absurd g (Nat.lt_irrefl 0))
    exact this
  · have hz : bst tp en p p = (2, 0) := by
      rcases Nat.eq_zero_or_pos (bst tp en p p).2 with g | g
      · exact Prod.ext (hok.2.2.1 g) g
      · have := hok.2.2.2 g; omega
    refine am_iconst (v := nI 0) dX4_find_27 rfl (by decide +kernel) ?_
    exact am_ri dX4_find_28 rfl rfl rfl (by rw [hz]; exact ⟨f1, rfl, di, g1, fun g => absurd g (Nat.lt_irrefl 0)⟩)
set_option maxHeartbeats 4000000 in
set_option maxRecDepth 100000 in
theorem t_X4_foundLength (d n0 : Nat) {h : am_H} {en ln di : Int32} (hf : h 34 = some (.inr (4, [am_r 1, am_r 35, am_r 36, .inl en, .inl ln, .inl di]))) : am_Ct l D dA m_X4_foundLength d 0 0 n0 [am_r 34] h (am_qi fun x h' => x = ln ∧ h' = h) := by
  refine am_Ci (by decide +kernel) rfl rfl ?_
  refine am_aload_n dX4_foundLength_0 rfl rfl ?_
  refine am_get f_X4_26 dX4_foundLength_1 rfl hf rfl ?_
  exact am_ri dX4_foundLength_4 rfl rfl rfl ⟨rfl, rfl⟩
set_option maxHeartbeats 4000000 in
set_option maxRecDepth 100000 in
theorem t_X4_foundDistance (d n0 : Nat) {h : am_H} {en ln di : Int32} (hf : h 34 = some (.inr (4, [am_r 1, am_r 35, am_r 36, .inl en, .inl ln, .inl di]))) : am_Ct l D dA m_X4_foundDistance d 0 0 n0 [am_r 34] h (am_qi fun x h' => x = di ∧ h' = h) := by
  refine am_Ci (by decide +kernel) rfl rfl ?_
  refine am_aload_n dX4_foundDistance_0 rfl rfl ?_
  refine am_get f_X4_29 dX4_foundDistance_1 rfl hf rfl ?_
  exact am_ri dX4_foundDistance_4 rfl rfl rfl ⟨rfl, rfl⟩
end FIND
end
section
/-! ===== Merger ===== -/
section MERG
variable {l : Launch} {D : va_G} {dA : Bool → ClassId}
abbrev mgO (a b c e : Int32) : am_E := .inr (5, [am_r 38, am_r 39, am_r 40, am_r 41, .inl a, .inl b, .inl c, .inl e])
/-- the place of a symbol among those in order of weight -/
def insP (w : Nat → Nat) (s : Nat) (lv : Nat → Nat) : Nat → Nat
  | 0 => 0
  | p + 1 => if w s < w (lv p) then insP w s lv p else p + 1
def insF (w : Nat → Nat) (s : Nat) (lv : Nat → Nat) (c : Nat) : Nat → Nat := fun j => if j < insP w s lv c then lv j else if j = insP w s lv c then s else lv (j - 1)
def srtS (w : Nat → Nat) : Nat → (Nat → Nat) × Nat
  | 0 => (fun _ => 0, 0)
  | i + 1 => if 0 < w i then (insF w i (srtS w i).1 (srtS w i).2, (srtS w i).2 + 1) else srtS w i
theorem srtS_le (w : Nat → Nat) : ∀ i, (srtS w i).2 ≤ i
  | 0 => Nat.le_refl _
  | i + 1 => by
    have := srtS_le w i
    rw [srtS]
    split
    · dsimp only; omega
    · omega
theorem insP_le (w : Nat → Nat) (s : Nat) (lv : Nat → Nat) : ∀ c, insP w s lv c ≤ c
  | 0 => Nat.le_refl _
  | p + 1 => by
    have := insP_le w s lv p
    unfold insP
    split <;> omega
theorem srtS_lt (w : Nat → Nat) : ∀ i j, j < (srtS w i).2 → (srtS w i).1 j < i
  | 0, j, h => absurd h (Nat.not_lt_zero j)
  | i + 1, j, h => by
    have ih := srtS_lt w i
    rw [srtS] at h ⊢
    by_cases g : 0 < w i
    · rw [if_pos g] at h ⊢
      have hp := insP_le w i (srtS w i).1 (srtS w i).2
      dsimp only at h ⊢
      unfold insF
      split
      · have := ih j (by omega); omega
      · split
        · omega
        · have := ih (j - 1) (by omega); omega
    · rw [if_neg g] at h ⊢
      have := ih j h
      omega
/-- an array holds numbers, as far as n -/
def nmA (h : am_H) (a N : Nat) (n : Nat) (v : Nat → Nat) : Prop := ∃ f : Nat → Int32, h a = some (.inl (false, N, f)) ∧ ∀ j, j < n → f j = nI (v j)
theorem nmA.at {h h' : am_H} {a N n : Nat} {v : Nat → Nat} (x : nmA h a N n v) (e : h' a = h a) : nmA h' a N n v := by
  obtain ⟨f, h1, h2⟩ := x
  exact ⟨f, e.trans h1, h2⟩
theorem nmA.ars {h : am_H} {a N n : Nat} {v : Nat → Nat} (x : nmA h a N n v) : ars h a N := by
  obtain ⟨f, h1, h2⟩ := x
  exact ⟨f, h1⟩
set_option maxHeartbeats 4000000 in
set_option maxRecDepth 100000 in
theorem t_X5_insertLeaf (d n0 : Nat) {h : am_H} {c s : Nat} {u1 u2 u3 : Int32} (hg : h 37 = some (mgO (nI c) u1 u2 u3)) {lv w : Nat → Nat} (hl : nmA h 38 510 c lv) (hw : nmA h 39 1020 (s + 1) w) (hc : c < 510) (hs : s < 510) (hlv : ∀ j, j < c → lv j < s) (hwb : ∀ k, k ≤ s → w k < 2 ^ 31) : am_Ct l D dA m_X5_insertLeaf d 0 0 n0 [am_r 37, .inl (nI s)] h (am_qv fun h' => am_fr h h' [37, 38] ∧ h' 37 = some (mgO (nI (c + 1)) u1 u2 u3) ∧ nmA h' 38 510 (c + 1) (insF w s lv c)) := by
  refine am_Cv (by decide +kernel) rfl rfl ?_
  obtain ⟨lf, h38, hlf⟩ := hl
  obtain ⟨wf, h39, hwf⟩ := hw
  refine am_aload_n dX5_insertLeaf_0 rfl rfl ?_
  refine am_get f_X5_22 dX5_insertLeaf_1 rfl hg rfl ?_
  refine am_istore_n dX5_insertLeaf_4 rfl rfl ?_
  have loop : ∀ (p : Nat) (f : Nat → Int32), p ≤ c → (∀ j, j < p → f j = nI (lv j)) → (∀ j, p < j → j ≤ c → f j = nI (lv (j - 1))) → insP w s lv c = insP w s lv p → am_At l D dA m_X5_insertLeaf d 0 0 0 0 n0 none (am_qv fun h' => am_fr h h' [37, 38] ∧ h' 37 = some (mgO (nI (c + 1)) u1 u2 u3) ∧ nmA h' 38 510 (c + 1) (insF w s lv c)) 0 0 5 [some (am_r 37), some (.inl (nI s)), some (.inl (nI p))] [] (am_set h 38 (.inl (false, 510, f))) := by
    intro p
    have fin : ∀ (p : Nat) (f : Nat → Int32), p ≤ c → (∀ j, j < p → f j = nI (lv j)) → (∀ j, p < j → j ≤ c → f j = nI (lv (j - 1))) → insP w s lv c = p → am_At l D dA m_X5_insertLeaf d 0 0 0 0 n0 none (am_qv fun h' => am_fr h h' [37, 38] ∧ h' 37 = some (mgO (nI (c + 1)) u1 u2 u3) ∧ nmA h' 38 510 (c + 1) (insF w s lv c)) 0 0 51 [some (am_r 37), some (.inl (nI s)), some (.inl (nI p))] [] (am_set h 38 (.inl (false, 510, f))) := by
      intro p f hp h1 h2 h3
      refine am_aload_n dX5_insertLeaf_51 rfl rfl ?_
      refine am_get f_X5_7 dX5_insertLeaf_52 rfl ((am_set_ne (by decide)).trans hg) rfl ?_
      refine am_iload_n dX5_insertLeaf_55 rfl rfl ?_
      refine am_iload_n dX5_insertLeaf_56 rfl rfl ?_
      refine am_iast dX5_insertLeaf_57 rfl am_set_eq (by omega) (by omega) ?_
      refine am_aload_n dX5_insertLeaf_58 rfl rfl ?_
      refine am_dup dX5_insertLeaf_59 rfl ?_
      refine am_get f_X5_22 dX5_insertLeaf_60 rfl ((am_set_ne (by decide)).trans ((am_set_ne (by decide)).trans hg)) rfl ?_
      refine am_iconst (v := nI 1) dX5_insertLeaf_63 rfl (by decide +kernel) ?_
      refine am_iadd dX5_insertLeaf_64 rfl ?_
      rw [nI_add]
      refine am_put f_X5_22 dX5_insertLeaf_65 rfl ((am_set_ne (by decide)).trans ((am_set_ne (by decide)).trans hg)) (am_fit_i _) rfl ?_
      refine am_rv dX5_insertLeaf_68 rfl rfl rfl ⟨((am_fr.rf.set (by simp)).set (by simp)).set (by simp), am_set_eq, _, (am_set_ne (by decide)).trans am_set_eq, fun j hj => ?_⟩
      unfold insF
      rw [h3]
      by_cases e : j = p
      · subst e; rw [upd_eq, if_neg (by omega), if_pos rfl]
      · rw [upd_ne e]
        by_cases g : j < p
        · rw [if_pos g]; exact h1 j g
        · rw [if_neg g, if_neg e]; exact h2 j (by omega) (by omega)
    induction p with
    | zero =>
      intro f hp h1 h2 h3
      refine am_iload_n dX5_insertLeaf_5 rfl rfl ?_
      refine am_nif_le 51 dX5_insertLeaf_6 rfl rfl (by omega) (fun hc => ?_) (fun hc => ?_)
      · exact fin 0 f hp h1 h2 h3
      · omega
    | succ p ih =>
      intro f hp h1 h2 h3
      have hlp := hlv p (by omega)
      refine am_iload_n dX5_insertLeaf_5 rfl rfl ?_
      refine am_nif_le 51 dX5_insertLeaf_6 rfl rfl (by omega) (fun hc => ?_) (fun hc => ?_)
      · omega
      · refine am_aload_n dX5_insertLeaf_9 rfl rfl ?_
        refine am_get f_X5_13 dX5_insertLeaf_10 rfl ((am_set_ne (by decide)).trans hg) rfl ?_
        refine am_aload_n dX5_insertLeaf_13 rfl rfl ?_
        refine am_get f_X5_7 dX5_insertLeaf_14 rfl ((am_set_ne (by decide)).trans hg) rfl ?_
        refine am_iload_n dX5_insertLeaf_17 rfl rfl ?_
        refine am_iconst (v := nI 1) dX5_insertLeaf_18 rfl (by decide +kernel) ?_
        refine am_isub dX5_insertLeaf_19 rfl ?_
        rw [show nI (p + 1) - nI 1 = nI p from pk_sub (by omega)]
        refine am_iald dX5_insertLeaf_20 rfl am_set_eq (by omega) (by omega) ?_
        rw [h1 p (by omega)]
        refine am_iald dX5_insertLeaf_21 rfl ((am_set_ne (by decide)).trans h39) (by omega) (by omega) ?_
        rw [hwf (lv p) (by omega)]
        refine am_aload_n dX5_insertLeaf_22 rfl rfl ?_
        refine am_get f_X5_13 dX5_insertLeaf_23 rfl ((am_set_ne (by decide)).trans hg) rfl ?_
        refine am_iload_n dX5_insertLeaf_26 rfl rfl ?_
        refine am_iald dX5_insertLeaf_27 rfl ((am_set_ne (by decide)).trans h39) (by omega) (by omega) ?_
        rw [hwf s (by omega)]
        have b1 := hwb (lv p) (by omega)
        have b2 := hwb s (Nat.le_refl s)
        refine am_ncmp_le 51 dX5_insertLeaf_28 rfl rfl (by omega) (by omega) (fun hc => ?_) (fun hc => ?_)
        · refine fin (p + 1) f hp h1 h2 ?_
          rw [h3]
          exact if_neg (by omega)
        · refine am_aload_n dX5_insertLeaf_31 rfl rfl ?_
          refine am_get f_X5_7 dX5_insertLeaf_32 rfl ((am_set_ne (by decide)).trans hg) rfl ?_
          refine am_iload_n dX5_insertLeaf_35 rfl rfl ?_
          refine am_aload_n dX5_insertLeaf_36 rfl rfl ?_
          refine am_get f_X5_7 dX5_insertLeaf_37 rfl ((am_set_ne (by decide)).trans hg) rfl ?_
          refine am_iload_n dX5_insertLeaf_40 rfl rfl ?_
          refine am_iconst (v := nI 1) dX5_insertLeaf_41 rfl (by decide +kernel) ?_
          refine am_isub dX5_insertLeaf_42 rfl ?_
          rw [show nI (p + 1) - nI 1 = nI p from pk_sub (by omega)]
          refine am_iald dX5_insertLeaf_43 rfl am_set_eq (by omega) (by omega) ?_
          rw [h1 p (by omega)]
          refine am_iast dX5_insertLeaf_44 rfl am_set_eq (by omega) (by omega) ?_
          refine am_iinc (n := (-1)) dX5_insertLeaf_45 rfl rfl (am_dec1 _) ?_
          refine am_goto 5 dX5_insertLeaf_48 rfl rfl ?_
          rw [am_set_set, show nI (p + 1) - nI 1 = nI p from pk_sub (by omega)]
          refine ih _ (by omega) (fun j hj => ?_) (fun j hj1 hj2 => ?_) ?_
          · rw [upd_ne (by omega)]; exact h1 j (by omega)
          · by_cases e : j = p + 1
            · subst e; rw [upd_eq]; rfl
            · rw [upd_ne e]; exact h2 j (by omega) hj2
          · rw [h3]; exact if_pos hc
  refine am_eq rfl rfl rfl (am_set_self h38).symm (loop c lf (Nat.le_refl c) hlf (fun j a b => by omega) rfl)
set_option maxHeartbeats 4000000 in
set_option maxRecDepth 100000 in
theorem t_X5_sortLeaves (d n0 : Nat) {h : am_H} {u0 u1 u2 u3 : Int32} (hg : h 37 = some (mgO u0 u1 u2 u3)) (h38 : ars h 38 510) (h39 : ars h 39 1020) {t m : Nat} {al : Int32} (ht : h t = some (trO t al)) (hm : m ≤ 510) (ht37 : t + 7 < 37) (h1 : ars h (t + 1) m) {w : Nat → Nat} (h3 : nmA h (t + 3) m m w) (hwb : ∀ k, k < m → w k < 2 ^ 31) (hd : 2 ≤ d) : am_Ct l D dA m_X5_sortLeaves d 0 0 n0 [am_r 37, am_r t] h (am_qv fun h' => am_fr h h' [37, 38, 39] ∧ h' 37 = some (mgO (nI (srtS w m).2) u1 u2 u3) ∧ nmA h' 38 510 (srtS w m).2 (srtS w m).1 ∧ nmA h' 39 1020 m w) := by
  refine am_Cv (by decide +kernel) rfl rfl ?_
  obtain ⟨l1, h1⟩ := h1
  obtain ⟨uf, h3, huf⟩ := h3
  obtain ⟨lf, h38⟩ := h38
  obtain ⟨wf, h39⟩ := h39
  refine am_aload_n dX5_sortLeaves_0 rfl rfl ?_
  refine am_iconst (v := nI 0) dX5_sortLeaves_1 rfl (by decide +kernel) ?_
  refine am_put f_X5_22 dX5_sortLeaves_2 rfl hg (am_fit_i _) rfl ?_
  refine am_iconst (v := nI 0) dX5_sortLeaves_5 rfl (by decide +kernel) ?_
  refine am_istore_n dX5_sortLeaves_6 rfl rfl ?_
  have loop : ∀ (q i : Nat) (H : am_H), i + q = m → am_fr h H [37, 38, 39] → H 37 = some (mgO (nI (srtS w i).2) u1 u2 u3) → nmA H 38 510 (srtS w i).2 (srtS w i).1 → nmA H 39 1020 i w → am_At l D dA m_X5_sortLeaves d 0 0 0 0 n0 none (am_qv fun h' => am_fr h h' [37, 38, 39] ∧ h' 37 = some (mgO (nI (srtS w m).2) u1 u2 u3) ∧ nmA h' 38 510 (srtS w m).2 (srtS w m).1 ∧ nmA h' 39 1020 m w) 0 0 7 [some (am_r 37), some (am_r t), some (.inl (nI i))] [] H := by
    intro q
    induction q with
    | zero =>
      intro i H hi hfr g37 g38 g39
      obtain rfl : i = m := by omega
      have htH := (hfr t (by simp; omega)).trans ht
      have h1H := (hfr (t + 1) (by simp; omega)).trans h1
      refine am_iload_n dX5_sortLeaves_7 rfl rfl ?_
      refine am_aload_n dX5_sortLeaves_8 rfl rfl ?_
      refine am_vi (t_X7_symbols (d - 1) _ htH h1H (by omega)) k_X7_symbols l_X5_45 dX5_sortLeaves_9 rfl rfl rfl rfl htH (by omega) (Nat.le_refl _) (Nat.le_refl _) (fun x h1 hx => ?_)
      obtain ⟨rfl, hh⟩ := hx
      obtain rfl := hh.symm
      refine am_ncmp_ge 55 dX5_sortLeaves_12 rfl rfl (by omega) (by omega) (fun hc => ?_) (fun hc => ?_)
      · exact am_rv dX5_sortLeaves_55 rfl rfl rfl ⟨hfr, g37, g38, g39⟩
      · omega
    | succ q ih =>
      intro i H hi hfr g37 g38 g39
      have htH := (hfr t (by simp; omega)).trans ht
      have h1H := (hfr (t + 1) (by simp; omega)).trans h1
      have h3H := (hfr (t + 3) (by simp; omega)).trans h3
      obtain ⟨lf, g38, hlf⟩ := g38
      obtain ⟨wf, g39, hwf⟩ := g39
      have hsl := srtS_le w i
      refine am_iload_n dX5_sortLeaves_7 rfl rfl ?_
      refine am_aload_n dX5_sortLeaves_8 rfl rfl ?_
      refine am_vi (t_X7_symbols (d - 1) _ htH h1H (by omega)) k_X7_symbols l_X5_45 dX5_sortLeaves_9 rfl rfl rfl rfl htH (by omega) (Nat.le_refl _) (Nat.le_refl _) (fun x h1 hx => ?_)
      obtain ⟨rfl, hh⟩ := hx
      obtain rfl := hh.symm
      refine am_ncmp_ge 55 dX5_sortLeaves_12 rfl rfl (by omega) (by omega) (fun hc => ?_) (fun hc => ?_)
      · omega
      · refine am_iload_n dX5_sortLeaves_15 rfl rfl ?_
        refine am_aload_n dX5_sortLeaves_16 rfl rfl ?_
        refine am_get f_X5_7 dX5_sortLeaves_17 rfl g37 rfl ?_
        refine am_alen dX5_sortLeaves_20 rfl g38 ?_
        refine am_ncmp_ge 55 dX5_sortLeaves_21 rfl rfl (by omega) (by omega) (fun hc => ?_) (fun hc => ?_)
        · omega
        · refine am_aload_n dX5_sortLeaves_24 rfl rfl ?_
          refine am_get f_X5_13 dX5_sortLeaves_25 rfl g37 rfl ?_
          refine am_iload_n dX5_sortLeaves_28 rfl rfl ?_
          refine am_aload_n dX5_sortLeaves_29 rfl rfl ?_
          refine am_iload_n dX5_sortLeaves_30 rfl rfl ?_
          refine am_vi (t_X7_usesOf (d - 1) _ htH h1H (by omega) h3H (by omega) (nI i)) k_X7_usesOf l_X5_59 dX5_sortLeaves_31 rfl rfl rfl rfl htH (by omega) (Nat.le_refl _) (Nat.le_refl _) (fun x h1 hx => ?_)
          obtain ⟨rfl, hh⟩ := hx
          obtain rfl := hh.symm
          rw [ix_in (by omega) (by omega)]
          dsimp only
          rw [huf i (by omega)]
          refine am_iast dX5_sortLeaves_34 rfl g39 (by omega) (by omega) ?_
          refine am_aload_n dX5_sortLeaves_35 rfl rfl ?_
          refine am_get f_X5_13 dX5_sortLeaves_36 rfl ((am_set_ne (by omega)).trans g37) rfl ?_
          refine am_iload_n dX5_sortLeaves_39 rfl rfl ?_
          refine am_iald dX5_sortLeaves_40 rfl am_set_eq (by omega) (by omega) ?_
          rw [upd_eq]
          have hwi := hwb i (by omega)
          obtain ⟨H2, e2⟩ : ∃ H2, H2 = am_set H 39 (.inl (false, 1020, upd wf i (nI (w i)))) := ⟨_, rfl⟩
          rw [← e2]
          have f2 : am_fr H H2 [39] := by rw [e2]; exact am_fr.rf.set (by simp)
          have w2 : nmA H2 39 1020 (i + 1) w := ⟨_, by rw [e2]; exact am_set_eq, fun j hj => by
            by_cases e : j = i
            · subst e; exact upd_eq
            · rw [upd_ne e]; exact hwf j (by omega)⟩
          have k37 := (f2 37 (by simp)).trans g37
          have k38 : nmA H2 38 510 (srtS w i).2 (srtS w i).1 := ⟨lf, (f2 38 (by simp)).trans g38, hlf⟩
          refine am_nif_le 49 dX5_sortLeaves_41 rfl rfl (by omega) (fun hc => ?_) (fun hc => ?_)
          · refine am_iinc (n := 1) dX5_sortLeaves_49 rfl rfl (nI_1 i) ?_
            refine am_goto 7 dX5_sortLeaves_52 rfl rfl ?_
            have e : srtS w (i + 1) = srtS w i := by rw [srtS, if_neg (by omega)]
            exact ih (i + 1) H2 (by omega) (hfr.tr f2 (by simp)) (by rw [e]; exact k37) (by rw [e]; exact k38) w2
          · refine am_aload_n dX5_sortLeaves_44 rfl rfl ?_
            refine am_iload_n dX5_sortLeaves_45 rfl rfl ?_
            refine am_vv (t_X5_insertLeaf (d - 1) _ k37 k38 w2 (by omega) (by omega) (fun j hj => srtS_lt w i j hj) (fun k hk => hwb k (by omega))) k_X5_insertLeaf l_X5_63 dX5_sortLeaves_46 rfl rfl rfl rfl k37 (by omega) (Nat.le_refl _) (Nat.le_refl _) (fun h5 hx => ?_)
            obtain ⟨f5, a5, b5⟩ := hx
            refine am_iinc (n := 1) dX5_sortLeaves_49 rfl rfl (nI_1 i) ?_
            refine am_goto 7 dX5_sortLeaves_52 rfl rfl ?_
            have e : srtS w (i + 1) = (insF w i (srtS w i).1 (srtS w i).2, (srtS w i).2 + 1) := by rw [srtS, if_pos hc]
            exact ih (i + 1) h5 (by omega) ((hfr.tr f2 (by simp)).tr f5 (by simp)) (by rw [e]; exact a5) (by rw [e]; exact b5) (w2.at (f5 39 (by simp)))
  exact loop m 0 _ (by omega) (am_fr.rf.set (by simp)) am_set_eq ⟨lf, (am_set_ne (by decide)).trans h38, fun j hj => absurd hj (Nat.not_lt_zero j)⟩ ⟨wf, (am_set_ne (by decide)).trans h39, fun j hj => absurd hj (Nat.not_lt_zero j)⟩
/-- the least node: the first of the symbols in order, or the first of the merged ones -/
def tk (lv w : Nat → Nat) (c nl nm nc : Nat) : Nat × Nat × Nat := if nl < c ∧ (nm < nc → w (lv nl) ≤ w nm) then (lv nl, nl + 1, nm) else (nm, nl, nm + 1)
set_option maxHeartbeats 4000000 in
set_option maxRecDepth 100000 in
theorem t_X5_takeLeast (d n0 : Nat) {h : am_H} {c nl nm nc : Nat} (hg : h 37 = some (mgO (nI c) (nI nl) (nI nm) (nI nc))) {lv w : Nat → Nat} (hl : nmA h 38 510 c lv) (hw : nmA h 39 1020 nc w) (hc : c ≤ 510) (hnl : nl ≤ c) (hnm : nm ≤ nc) (hnc : nc ≤ 1020) (hlv : ∀ j, j < c → lv j < nc) (hwb : ∀ k, k < nc → w k < 2 ^ 31) : am_Ct l D dA m_X5_takeLeast d 0 0 n0 [am_r 37] h (am_qi fun x h' => x = nI (tk lv w c nl nm nc).1 ∧ am_fr h h' [37] ∧ h' 37 = some (mgO (nI c) (nI (tk lv w c nl nm nc).2.1) (nI (tk lv w c nl nm nc).2.2) (nI nc))) := by
  refine am_Ci (by decide +kernel) rfl rfl ?_
  obtain ⟨lf, h38, hlf⟩ := hl
  obtain ⟨wf, h39, hwf⟩ := hw
  refine am_aload_n dX5_takeLeast_0 rfl rfl ?_
  refine am_get f_X5_29 dX5_takeLeast_1 rfl hg rfl ?_
  refine am_aload_n dX5_takeLeast_4 rfl rfl ?_
  refine am_get f_X5_32 dX5_takeLeast_5 rfl hg rfl ?_
  have leaf : nl < c → tk lv w c nl nm nc = (lv nl, nl + 1, nm) → ∀ (x1 x2 : Option am_V), am_At l D dA m_X5_takeLeast d 0 0 0 0 n0 none (am_qi fun x h' => x = nI (tk lv w c nl nm nc).1 ∧ am_fr h h' [37] ∧ h' 37 = some (mgO (nI c) (nI (tk lv w c nl nm nc).2.1) (nI (tk lv w c nl nm nc).2.2) (nI nc))) 0 0 68 [some (am_r 37), x1, x2] [] h := by
    intro h1 e x1 x2
    refine am_aload_n dX5_takeLeast_68 rfl rfl ?_
    refine am_dup dX5_takeLeast_69 rfl ?_
    refine am_get f_X5_26 dX5_takeLeast_70 rfl hg rfl ?_
    refine am_iconst (v := nI 1) dX5_takeLeast_73 rfl (by decide +kernel) ?_
    refine am_iadd dX5_takeLeast_74 rfl ?_
    rw [nI_add]
    refine am_put f_X5_26 dX5_takeLeast_75 rfl hg (am_fit_i _) rfl ?_
    refine am_aload_n dX5_takeLeast_78 rfl rfl ?_
    refine am_get f_X5_7 dX5_takeLeast_79 rfl am_set_eq rfl ?_
    refine am_aload_n dX5_takeLeast_82 rfl rfl ?_
    refine am_get f_X5_26 dX5_takeLeast_83 rfl am_set_eq rfl ?_
    refine am_iconst (v := nI 1) dX5_takeLeast_86 rfl (by decide +kernel) ?_
    refine am_isub dX5_takeLeast_87 rfl ?_
    rw [show nI (nl + 1) - nI 1 = nI nl from pk_sub (by omega)]
    refine am_iald dX5_takeLeast_88 rfl ((am_set_ne (by decide)).trans h38) (by omega) (by omega) ?_
    rw [hlf nl h1]
    exact am_ri dX5_takeLeast_89 rfl rfl rfl (by rw [e]; exact ⟨rfl, am_fr.rf.set (by simp), am_set_eq⟩)
  have node : tk lv w c nl nm nc = (nm, nl, nm + 1) → ∀ (x1 x2 : Option am_V), am_At l D dA m_X5_takeLeast d 0 0 0 0 n0 none (am_qi fun x h' => x = nI (tk lv w c nl nm nc).1 ∧ am_fr h h' [37] ∧ h' 37 = some (mgO (nI c) (nI (tk lv w c nl nm nc).2.1) (nI (tk lv w c nl nm nc).2.2) (nI nc))) 0 0 90 [some (am_r 37), x1, x2] [] h := by
    intro e x1 x2
    refine am_aload_n dX5_takeLeast_90 rfl rfl ?_
    refine am_dup dX5_takeLeast_91 rfl ?_
    refine am_get f_X5_29 dX5_takeLeast_92 rfl hg rfl ?_
    refine am_iconst (v := nI 1) dX5_takeLeast_95 rfl (by decide +kernel) ?_
    refine am_iadd dX5_takeLeast_96 rfl ?_
    rw [nI_add]
    refine am_put f_X5_29 dX5_takeLeast_97 rfl hg (am_fit_i _) rfl ?_
    refine am_aload_n dX5_takeLeast_100 rfl rfl ?_
    refine am_get f_X5_29 dX5_takeLeast_101 rfl am_set_eq rfl ?_
    refine am_iconst (v := nI 1) dX5_takeLeast_104 rfl (by decide +kernel) ?_
    refine am_isub dX5_takeLeast_105 rfl ?_
    rw [show nI (nm + 1) - nI 1 = nI nm from pk_sub (by omega)]
    exact am_ri dX5_takeLeast_106 rfl rfl rfl (by rw [e]; exact ⟨rfl, am_fr.rf.set (by simp), am_set_eq⟩)
  refine am_ncmp_ge 15 dX5_takeLeast_8 rfl rfl (by omega) (by omega) (fun hc => ?_) (fun hc => ?_)
  · refine am_iconst (v := nI 0) dX5_takeLeast_15 rfl (by decide +kernel) ?_
    refine am_istore_n dX5_takeLeast_16 rfl rfl ?_
    refine am_aload_n dX5_takeLeast_17 rfl rfl ?_
    refine am_get f_X5_26 dX5_takeLeast_18 rfl hg rfl ?_
    refine am_aload_n dX5_takeLeast_21 rfl rfl ?_
    refine am_get f_X5_22 dX5_takeLeast_22 rfl hg rfl ?_
    refine am_ncmp_ge 32 dX5_takeLeast_25 rfl rfl (by omega) (by omega) (fun hc => ?_) (fun hc => ?_)
    · refine am_iconst (v := nI 0) dX5_takeLeast_32 rfl (by decide +kernel) ?_
      refine am_istore_n dX5_takeLeast_33 rfl rfl ?_
      refine am_iload_n dX5_takeLeast_34 rfl rfl ?_
      refine am_nif_eq 90 dX5_takeLeast_35 rfl rfl (by omega) (fun hc => ?_) (fun hc => ?_)
      · exact node (if_neg (by omega)) _ _
      · omega
    · refine am_iconst (v := nI 1) dX5_takeLeast_28 rfl (by decide +kernel) ?_
      refine am_goto 33 dX5_takeLeast_29 rfl rfl ?_
      refine am_istore_n dX5_takeLeast_33 rfl rfl ?_
      refine am_iload_n dX5_takeLeast_34 rfl rfl ?_
      refine am_nif_eq 90 dX5_takeLeast_35 rfl rfl (by omega) (fun hc => ?_) (fun hc => ?_)
      · omega
      · refine am_iload_n dX5_takeLeast_38 rfl rfl ?_
        refine am_nif_eq 68 dX5_takeLeast_39 rfl rfl (by omega) (fun hc => ?_) (fun hc => ?_)
        · exact leaf (by omega) (if_pos ⟨by omega, fun _ => by omega⟩) _ _
        · omega
  · refine am_iconst (v := nI 1) dX5_takeLeast_11 rfl (by decide +kernel) ?_
    refine am_goto 16 dX5_takeLeast_12 rfl rfl ?_
    refine am_istore_n dX5_takeLeast_16 rfl rfl ?_
    refine am_aload_n dX5_takeLeast_17 rfl rfl ?_
    refine am_get f_X5_26 dX5_takeLeast_18 rfl hg rfl ?_
    refine am_aload_n dX5_takeLeast_21 rfl rfl ?_
    refine am_get f_X5_22 dX5_takeLeast_22 rfl hg rfl ?_
    refine am_ncmp_ge 32 dX5_takeLeast_25 rfl rfl (by omega) (by omega) (fun hc => ?_) (fun hc => ?_)
    · refine am_iconst (v := nI 0) dX5_takeLeast_32 rfl (by decide +kernel) ?_
      refine am_istore_n dX5_takeLeast_33 rfl rfl ?_
      refine am_iload_n dX5_takeLeast_34 rfl rfl ?_
      refine am_nif_eq 90 dX5_takeLeast_35 rfl rfl (by omega) (fun hc => ?_) (fun hc => ?_)
      · exact node (if_neg (by omega)) _ _
      · omega
    · refine am_iconst (v := nI 1) dX5_takeLeast_28 rfl (by decide +kernel) ?_
      refine am_goto 33 dX5_takeLeast_29 rfl rfl ?_
      refine am_istore_n dX5_takeLeast_33 rfl rfl ?_
      refine am_iload_n dX5_takeLeast_34 rfl rfl ?_
      refine am_nif_eq 90 dX5_takeLeast_35 rfl rfl (by omega) (fun hc => ?_) (fun hc => ?_)
      · omega
      · refine am_iload_n dX5_takeLeast_38 rfl rfl ?_
        refine am_nif_eq 68 dX5_takeLeast_39 rfl rfl (by omega) (fun hc => ?_) (fun hc => ?_)
        · omega
        · refine am_aload_n dX5_takeLeast_42 rfl rfl ?_
          refine am_get f_X5_13 dX5_takeLeast_43 rfl hg rfl ?_
          refine am_aload_n dX5_takeLeast_46 rfl rfl ?_
          refine am_get f_X5_7 dX5_takeLeast_47 rfl hg rfl ?_
          refine am_aload_n dX5_takeLeast_50 rfl rfl ?_
          refine am_get f_X5_26 dX5_takeLeast_51 rfl hg rfl ?_
          refine am_iald dX5_takeLeast_54 rfl h38 (by omega) (by omega) ?_
          rw [hlf nl (by omega)]
          have hln := hlv nl (by omega)
          refine am_iald dX5_takeLeast_55 rfl h39 (by omega) (by omega) ?_
          rw [hwf (lv nl) hln]
          refine am_aload_n dX5_takeLeast_56 rfl rfl ?_
          refine am_get f_X5_13 dX5_takeLeast_57 rfl hg rfl ?_
          refine am_aload_n dX5_takeLeast_60 rfl rfl ?_
          refine am_get f_X5_29 dX5_takeLeast_61 rfl hg rfl ?_
          refine am_iald dX5_takeLeast_64 rfl h39 (by omega) (by omega) ?_
          rw [hwf nm (by omega)]
          have b1 := hwb (lv nl) hln
          have b2 := hwb nm (by omega)
          refine am_ncmp_gt 90 dX5_takeLeast_65 rfl rfl (by omega) (by omega) (fun hc => ?_) (fun hc => ?_)
          · exact node (if_neg (by omega)) _ _
          · exact leaf (by omega) (if_pos ⟨by omega, fun _ => by omega⟩) _ _
end MERG
end
